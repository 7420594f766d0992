/-! ===== the public methods, as the law calls them ===== -/
theorem ct_weak {P : Type} {l : Launch} {y : MethodName} {cc : ByteArray} {nL : Nat} {rt : Option FieldType} {d : Nat} {sh : P → List ix_V} {T : P → ix_M → (ix_R → Prop) → Prop} (h : ix_Ct l y cc nL rt d sh T) (E : ix_E) (x : P) (μ : ix_M) (Q Q' : ix_R → Prop) (hE : ix_EO E) (hok : ∀ v ∈ sh x, ix_ok v) (hT : T x μ Q') (hq : ∀ r, Q' r → Q r) : Met l y (Cond.code y cc nL rt :: ix_TB) { frames := d, cells := 0, slots := 0, locals := 40 * d } (va_Pc ((sh x).map (ix_cv E)) (ix_H E μ)) (ix_QB E Q) 0 0 (ix_A E) := by
  have h1 := h E x μ Q' hE hok hT
  refine MetFree.mono h1 (fun _ _ z => z) (fun _ _ _ _ _ z => z) (fun a st o t _ z => ⟨?_, z.2⟩)
  obtain ⟨⟨r, μ', g1, g2⟩, g3⟩ := z.1
  exact ⟨⟨r, μ', hq _ g1, g2⟩, g3⟩
def sh_X10_cell (x : Nat × Int32 × Int32 × Int32) : List ix_V := [vr 9 x.1, vi x.2.1, vi x.2.2.1, vi x.2.2.2]
def T_X10_cell : Nat × Int32 × Int32 × Int32 → ix_M → (ix_R → Prop) → Prop := fun (a0, a1, a2, a3) μ Q => ∃ Q', ix_Ev o_X10_cell Q' (0, [some (vr 9 a0), some (vi a1), some (vi a2), some (vi a3)], [], μ) ∧ ∀ r, Q' r → Q r
theorem mo_X10_cell (x : Nat × Int32 × Int32 × Int32) (μ : ix_M) (Q Q' : ix_R → Prop) (h : ∀ r, Q r → Q' r) (hT : T_X10_cell x μ Q) : T_X10_cell x μ Q' := by
  obtain ⟨a0, a1, a2, a3⟩ := x
  obtain ⟨P, h1, h2⟩ := hT
  exact ⟨P, h1, fun r hr => h r (h2 r hr)⟩
theorem k_X10_cell (l : Launch) : ix_Ct l yX10_cell cX10_cell 4 (some .int) 60 sh_X10_cell T_X10_cell := by
  intro E x μ Q hE hok hT
  obtain ⟨a0, a1, a2, a3⟩ := x
  obtain ⟨Q', h1, h2⟩ := hT
  exact ct_weak (ix_ct (T := fun (y : Nat × Int32 × Int32 × Int32) ν P => ix_Ev o_X10_cell P (0, ix_en (sh_X10_cell y) 4, [], ν)) (a_X10_cell l) rfl (by decide) (fun _ => Nat.le_of_ble_eq_true rfl) (fun _ _ _ _ h => h)) E (a0, a1, a2, a3) μ Q Q' hE hok h1 h2
def oc_X10_cell (n : Nat) : ix_Op := fun k _ ls st μ => match st with
  | .inl a3 :: .inl a2 :: .inl a1 :: .inr (.inr (t0, a0)) :: r => t0 = 9 ∧ ix_cs r ≤ 8 ∧ T_X10_cell (a0, a1, a2, a3) μ (fun q => k (n, ls, q.1.toList ++ r, q.2))
  | _ => False
theorem oc_X10_cell_s {l : Launch} {cc : ByteArray} {nL : Nat} {own : String} {d : Nat} {rt : Option FieldType} {pc n : Nat} (h : ix_S l cc nL own d rt pc (ix_call 4 sh_X10_cell T_X10_cell n)) : ix_S l cc nL own d rt pc (oc_X10_cell n) := by
  refine h.by (fun k Q ls st μ h => ?_) (fun k k' Q ls st μ hk h => ?_)
  · unfold oc_X10_cell at h
    split at h
    · rename_i a3 a2 a1 t0 a0 r
      obtain ⟨rfl, h1, h2⟩ := h
      exact ⟨h1, (a0, a1, a2, a3), rfl, _, h2, fun r h => h⟩
    · exact h.elim
  · unfold oc_X10_cell at h ⊢
    split at h
    · obtain ⟨rfl, h1, h2⟩ := h
      exact ⟨rfl, h1, mo_X10_cell _ _ _ _ (fun q hq => hk _ hq) h2⟩
    · exact h.elim
def sh_X11_cell (x : Nat × Int32 × Int32 × Int32) : List ix_V := [vr 10 x.1, vi x.2.1, vi x.2.2.1, vi x.2.2.2]
def T_X11_cell : Nat × Int32 × Int32 × Int32 → ix_M → (ix_R → Prop) → Prop := fun (a0, a1, a2, a3) μ Q => ∃ Q', ix_Ev o_X11_cell Q' (0, [some (vr 10 a0), some (vi a1), some (vi a2), some (vi a3), none], [], μ) ∧ ∀ r, Q' r → Q r
theorem mo_X11_cell (x : Nat × Int32 × Int32 × Int32) (μ : ix_M) (Q Q' : ix_R → Prop) (h : ∀ r, Q r → Q' r) (hT : T_X11_cell x μ Q) : T_X11_cell x μ Q' := by
  obtain ⟨a0, a1, a2, a3⟩ := x
  obtain ⟨P, h1, h2⟩ := hT
  exact ⟨P, h1, fun r hr => h r (h2 r hr)⟩
theorem k_X11_cell (l : Launch) : ix_Ct l yX11_cell cX11_cell 5 (some .int) 60 sh_X11_cell T_X11_cell := by
  intro E x μ Q hE hok hT
  obtain ⟨a0, a1, a2, a3⟩ := x
  obtain ⟨Q', h1, h2⟩ := hT
  exact ct_weak (ix_ct (T := fun (y : Nat × Int32 × Int32 × Int32) ν P => ix_Ev o_X11_cell P (0, ix_en (sh_X11_cell y) 5, [], ν)) (a_X11_cell l) rfl (by decide) (fun _ => Nat.le_of_ble_eq_true rfl) (fun _ _ _ _ h => h)) E (a0, a1, a2, a3) μ Q Q' hE hok h1 h2
def oc_X11_cell (n : Nat) : ix_Op := fun k _ ls st μ => match st with
  | .inl a3 :: .inl a2 :: .inl a1 :: .inr (.inr (t0, a0)) :: r => t0 = 10 ∧ ix_cs r ≤ 8 ∧ T_X11_cell (a0, a1, a2, a3) μ (fun q => k (n, ls, q.1.toList ++ r, q.2))
  | _ => False
theorem oc_X11_cell_s {l : Launch} {cc : ByteArray} {nL : Nat} {own : String} {d : Nat} {rt : Option FieldType} {pc n : Nat} (h : ix_S l cc nL own d rt pc (ix_call 4 sh_X11_cell T_X11_cell n)) : ix_S l cc nL own d rt pc (oc_X11_cell n) := by
  refine h.by (fun k Q ls st μ h => ?_) (fun k k' Q ls st μ hk h => ?_)
  · unfold oc_X11_cell at h
    split at h
    · rename_i a3 a2 a1 t0 a0 r
      obtain ⟨rfl, h1, h2⟩ := h
      exact ⟨h1, (a0, a1, a2, a3), rfl, _, h2, fun r h => h⟩
    · exact h.elim
  · unfold oc_X11_cell at h ⊢
    split at h
    · obtain ⟨rfl, h1, h2⟩ := h
      exact ⟨rfl, h1, mo_X11_cell _ _ _ _ (fun q hq => hk _ hq) h2⟩
    · exact h.elim
def sh_X10_ofCell (x : Nat × Int32 × Int32) : List ix_V := [vr 9 x.1, vi x.2.1, vi x.2.2]
def T_X10_ofCell : Nat × Int32 × Int32 → ix_M → (ix_R → Prop) → Prop := fun (a0, a1, a2) μ Q => ∃ Q', ix_Ev o_X10_ofCell Q' (0, [some (vr 9 a0), some (vi a1), some (vi a2)], [], μ) ∧ ∀ r, Q' r → Q r
theorem mo_X10_ofCell (x : Nat × Int32 × Int32) (μ : ix_M) (Q Q' : ix_R → Prop) (h : ∀ r, Q r → Q' r) (hT : T_X10_ofCell x μ Q) : T_X10_ofCell x μ Q' := by
  obtain ⟨a0, a1, a2⟩ := x
  obtain ⟨P, h1, h2⟩ := hT
  exact ⟨P, h1, fun r hr => h r (h2 r hr)⟩
theorem k_X10_ofCell (l : Launch) : ix_Ct l yX10_ofCell cX10_ofCell 3 (some .int) 60 sh_X10_ofCell T_X10_ofCell := by
  intro E x μ Q hE hok hT
  obtain ⟨a0, a1, a2⟩ := x
  obtain ⟨Q', h1, h2⟩ := hT
  exact ct_weak (ix_ct (T := fun (y : Nat × Int32 × Int32) ν P => ix_Ev o_X10_ofCell P (0, ix_en (sh_X10_ofCell y) 3, [], ν)) (a_X10_ofCell l) rfl (by decide) (fun _ => Nat.le_of_ble_eq_true rfl) (fun _ _ _ _ h => h)) E (a0, a1, a2) μ Q Q' hE hok h1 h2
def oc_X10_ofCell (n : Nat) : ix_Op := fun k _ ls st μ => match st with
  | .inl a2 :: .inl a1 :: .inr (.inr (t0, a0)) :: r => t0 = 9 ∧ ix_cs r ≤ 8 ∧ T_X10_ofCell (a0, a1, a2) μ (fun q => k (n, ls, q.1.toList ++ r, q.2))
  | _ => False
theorem oc_X10_ofCell_s {l : Launch} {cc : ByteArray} {nL : Nat} {own : String} {d : Nat} {rt : Option FieldType} {pc n : Nat} (h : ix_S l cc nL own d rt pc (ix_call 3 sh_X10_ofCell T_X10_ofCell n)) : ix_S l cc nL own d rt pc (oc_X10_ofCell n) := by
  refine h.by (fun k Q ls st μ h => ?_) (fun k k' Q ls st μ hk h => ?_)
  · unfold oc_X10_ofCell at h
    split at h
    · rename_i a2 a1 t0 a0 r
      obtain ⟨rfl, h1, h2⟩ := h
      exact ⟨h1, (a0, a1, a2), rfl, _, h2, fun r h => h⟩
    · exact h.elim
  · unfold oc_X10_ofCell at h ⊢
    split at h
    · obtain ⟨rfl, h1, h2⟩ := h
      exact ⟨rfl, h1, mo_X10_ofCell _ _ _ _ (fun q hq => hk _ hq) h2⟩
    · exact h.elim
def sh_X11_ofCell (x : Nat × Int32 × Int32) : List ix_V := [vr 10 x.1, vi x.2.1, vi x.2.2]
def T_X11_ofCell : Nat × Int32 × Int32 → ix_M → (ix_R → Prop) → Prop := fun (a0, a1, a2) μ Q => ∃ Q', ix_Ev o_X11_ofCell Q' (0, [some (vr 10 a0), some (vi a1), some (vi a2)], [], μ) ∧ ∀ r, Q' r → Q r
theorem mo_X11_ofCell (x : Nat × Int32 × Int32) (μ : ix_M) (Q Q' : ix_R → Prop) (h : ∀ r, Q r → Q' r) (hT : T_X11_ofCell x μ Q) : T_X11_ofCell x μ Q' := by
  obtain ⟨a0, a1, a2⟩ := x
  obtain ⟨P, h1, h2⟩ := hT
  exact ⟨P, h1, fun r hr => h r (h2 r hr)⟩
theorem k_X11_ofCell (l : Launch) : ix_Ct l yX11_ofCell cX11_ofCell 3 (some .int) 60 sh_X11_ofCell T_X11_ofCell := by
  intro E x μ Q hE hok hT
  obtain ⟨a0, a1, a2⟩ := x
  obtain ⟨Q', h1, h2⟩ := hT
  exact ct_weak (ix_ct (T := fun (y : Nat × Int32 × Int32) ν P => ix_Ev o_X11_ofCell P (0, ix_en (sh_X11_ofCell y) 3, [], ν)) (a_X11_ofCell l) rfl (by decide) (fun _ => Nat.le_of_ble_eq_true rfl) (fun _ _ _ _ h => h)) E (a0, a1, a2) μ Q Q' hE hok h1 h2
def oc_X11_ofCell (n : Nat) : ix_Op := fun k _ ls st μ => match st with
  | .inl a2 :: .inl a1 :: .inr (.inr (t0, a0)) :: r => t0 = 10 ∧ ix_cs r ≤ 8 ∧ T_X11_ofCell (a0, a1, a2) μ (fun q => k (n, ls, q.1.toList ++ r, q.2))
  | _ => False
theorem oc_X11_ofCell_s {l : Launch} {cc : ByteArray} {nL : Nat} {own : String} {d : Nat} {rt : Option FieldType} {pc n : Nat} (h : ix_S l cc nL own d rt pc (ix_call 3 sh_X11_ofCell T_X11_ofCell n)) : ix_S l cc nL own d rt pc (oc_X11_ofCell n) := by
  refine h.by (fun k Q ls st μ h => ?_) (fun k k' Q ls st μ hk h => ?_)
  · unfold oc_X11_ofCell at h
    split at h
    · rename_i a2 a1 t0 a0 r
      obtain ⟨rfl, h1, h2⟩ := h
      exact ⟨h1, (a0, a1, a2), rfl, _, h2, fun r h => h⟩
    · exact h.elim
  · unfold oc_X11_ofCell at h ⊢
    split at h
    · obtain ⟨rfl, h1, h2⟩ := h
      exact ⟨rfl, h1, mo_X11_ofCell _ _ _ _ (fun q hq => hk _ hq) h2⟩
    · exact h.elim
def sh_X10_list (x : Nat × Int32 × Int32) : List ix_V := [vr 9 x.1, vi x.2.1, vi x.2.2]
def T_X10_list : Nat × Int32 × Int32 → ix_M → (ix_R → Prop) → Prop := fun (a0, a1, a2) μ Q => ∃ Q', ix_Ev o_X10_list Q' (0, [some (vr 9 a0), some (vi a1), some (vi a2)], [], μ) ∧ ∀ r, Q' r → Q r
theorem mo_X10_list (x : Nat × Int32 × Int32) (μ : ix_M) (Q Q' : ix_R → Prop) (h : ∀ r, Q r → Q' r) (hT : T_X10_list x μ Q) : T_X10_list x μ Q' := by
  obtain ⟨a0, a1, a2⟩ := x
  obtain ⟨P, h1, h2⟩ := hT
  exact ⟨P, h1, fun r hr => h r (h2 r hr)⟩
theorem k_X10_list (l : Launch) : ix_Ct l yX10_list cX10_list 3 (some .int) 20 sh_X10_list T_X10_list := by
  intro E x μ Q hE hok hT
  obtain ⟨a0, a1, a2⟩ := x
  obtain ⟨Q', h1, h2⟩ := hT
  exact ct_weak (ix_ct (T := fun (y : Nat × Int32 × Int32) ν P => ix_Ev o_X10_list P (0, ix_en (sh_X10_list y) 3, [], ν)) (a_X10_list l) rfl (by decide) (fun _ => Nat.le_of_ble_eq_true rfl) (fun _ _ _ _ h => h)) E (a0, a1, a2) μ Q Q' hE hok h1 h2
def oc_X10_list (n : Nat) : ix_Op := fun k _ ls st μ => match st with
  | .inl a2 :: .inl a1 :: .inr (.inr (t0, a0)) :: r => t0 = 9 ∧ ix_cs r ≤ 8 ∧ T_X10_list (a0, a1, a2) μ (fun q => k (n, ls, q.1.toList ++ r, q.2))
  | _ => False
theorem oc_X10_list_s {l : Launch} {cc : ByteArray} {nL : Nat} {own : String} {d : Nat} {rt : Option FieldType} {pc n : Nat} (h : ix_S l cc nL own d rt pc (ix_call 3 sh_X10_list T_X10_list n)) : ix_S l cc nL own d rt pc (oc_X10_list n) := by
  refine h.by (fun k Q ls st μ h => ?_) (fun k k' Q ls st μ hk h => ?_)
  · unfold oc_X10_list at h
    split at h
    · rename_i a2 a1 t0 a0 r
      obtain ⟨rfl, h1, h2⟩ := h
      exact ⟨h1, (a0, a1, a2), rfl, _, h2, fun r h => h⟩
    · exact h.elim
  · unfold oc_X10_list at h ⊢
    split at h
    · obtain ⟨rfl, h1, h2⟩ := h
      exact ⟨rfl, h1, mo_X10_list _ _ _ _ (fun q hq => hk _ hq) h2⟩
    · exact h.elim
def sh_X11_list (x : Nat × Int32 × Int32) : List ix_V := [vr 10 x.1, vi x.2.1, vi x.2.2]
def T_X11_list : Nat × Int32 × Int32 → ix_M → (ix_R → Prop) → Prop := fun (a0, a1, a2) μ Q => ∃ Q', ix_Ev o_X11_list Q' (0, [some (vr 10 a0), some (vi a1), some (vi a2)], [], μ) ∧ ∀ r, Q' r → Q r
theorem mo_X11_list (x : Nat × Int32 × Int32) (μ : ix_M) (Q Q' : ix_R → Prop) (h : ∀ r, Q r → Q' r) (hT : T_X11_list x μ Q) : T_X11_list x μ Q' := by
  obtain ⟨a0, a1, a2⟩ := x
  obtain ⟨P, h1, h2⟩ := hT
  exact ⟨P, h1, fun r hr => h r (h2 r hr)⟩
theorem k_X11_list (l : Launch) : ix_Ct l yX11_list cX11_list 3 (some .int) 20 sh_X11_list T_X11_list := by
  intro E x μ Q hE hok hT
  obtain ⟨a0, a1, a2⟩ := x
  obtain ⟨Q', h1, h2⟩ := hT
  exact ct_weak (ix_ct (T := fun (y : Nat × Int32 × Int32) ν P => ix_Ev o_X11_list P (0, ix_en (sh_X11_list y) 3, [], ν)) (a_X11_list l) rfl (by decide) (fun _ => Nat.le_of_ble_eq_true rfl) (fun _ _ _ _ h => h)) E (a0, a1, a2) μ Q Q' hE hok h1 h2
def oc_X11_list (n : Nat) : ix_Op := fun k _ ls st μ => match st with
  | .inl a2 :: .inl a1 :: .inr (.inr (t0, a0)) :: r => t0 = 10 ∧ ix_cs r ≤ 8 ∧ T_X11_list (a0, a1, a2) μ (fun q => k (n, ls, q.1.toList ++ r, q.2))
  | _ => False
theorem oc_X11_list_s {l : Launch} {cc : ByteArray} {nL : Nat} {own : String} {d : Nat} {rt : Option FieldType} {pc n : Nat} (h : ix_S l cc nL own d rt pc (ix_call 3 sh_X11_list T_X11_list n)) : ix_S l cc nL own d rt pc (oc_X11_list n) := by
  refine h.by (fun k Q ls st μ h => ?_) (fun k k' Q ls st μ hk h => ?_)
  · unfold oc_X11_list at h
    split at h
    · rename_i a2 a1 t0 a0 r
      obtain ⟨rfl, h1, h2⟩ := h
      exact ⟨h1, (a0, a1, a2), rfl, _, h2, fun r h => h⟩
    · exact h.elim
  · unfold oc_X11_list at h ⊢
    split at h
    · obtain ⟨rfl, h1, h2⟩ := h
      exact ⟨rfl, h1, mo_X11_list _ _ _ _ (fun q hq => hk _ hq) h2⟩
    · exact h.elim
def sh_X10_ofList (x : Nat × Int32) : List ix_V := [vr 9 x.1, vi x.2]
def T_X10_ofList : Nat × Int32 → ix_M → (ix_R → Prop) → Prop := fun (a0, a1) μ Q => ∃ Q', ix_Ev o_X10_ofList Q' (0, [some (vr 9 a0), some (vi a1)], [], μ) ∧ ∀ r, Q' r → Q r
theorem mo_X10_ofList (x : Nat × Int32) (μ : ix_M) (Q Q' : ix_R → Prop) (h : ∀ r, Q r → Q' r) (hT : T_X10_ofList x μ Q) : T_X10_ofList x μ Q' := by
  obtain ⟨a0, a1⟩ := x
  obtain ⟨P, h1, h2⟩ := hT
  exact ⟨P, h1, fun r hr => h r (h2 r hr)⟩
theorem k_X10_ofList (l : Launch) : ix_Ct l yX10_ofList cX10_ofList 2 (some .int) 20 sh_X10_ofList T_X10_ofList := by
  intro E x μ Q hE hok hT
  obtain ⟨a0, a1⟩ := x
  obtain ⟨Q', h1, h2⟩ := hT
  exact ct_weak (ix_ct (T := fun (y : Nat × Int32) ν P => ix_Ev o_X10_ofList P (0, ix_en (sh_X10_ofList y) 2, [], ν)) (a_X10_ofList l) rfl (by decide) (fun _ => Nat.le_of_ble_eq_true rfl) (fun _ _ _ _ h => h)) E (a0, a1) μ Q Q' hE hok h1 h2
def oc_X10_ofList (n : Nat) : ix_Op := fun k _ ls st μ => match st with
  | .inl a1 :: .inr (.inr (t0, a0)) :: r => t0 = 9 ∧ ix_cs r ≤ 8 ∧ T_X10_ofList (a0, a1) μ (fun q => k (n, ls, q.1.toList ++ r, q.2))
  | _ => False
theorem oc_X10_ofList_s {l : Launch} {cc : ByteArray} {nL : Nat} {own : String} {d : Nat} {rt : Option FieldType} {pc n : Nat} (h : ix_S l cc nL own d rt pc (ix_call 2 sh_X10_ofList T_X10_ofList n)) : ix_S l cc nL own d rt pc (oc_X10_ofList n) := by
  refine h.by (fun k Q ls st μ h => ?_) (fun k k' Q ls st μ hk h => ?_)
  · unfold oc_X10_ofList at h
    split at h
    · rename_i a1 t0 a0 r
      obtain ⟨rfl, h1, h2⟩ := h
      exact ⟨h1, (a0, a1), rfl, _, h2, fun r h => h⟩
    · exact h.elim
  · unfold oc_X10_ofList at h ⊢
    split at h
    · obtain ⟨rfl, h1, h2⟩ := h
      exact ⟨rfl, h1, mo_X10_ofList _ _ _ _ (fun q hq => hk _ hq) h2⟩
    · exact h.elim
def sh_X11_ofList (x : Nat × Int32) : List ix_V := [vr 10 x.1, vi x.2]
def T_X11_ofList : Nat × Int32 → ix_M → (ix_R → Prop) → Prop := fun (a0, a1) μ Q => ∃ Q', ix_Ev o_X11_ofList Q' (0, [some (vr 10 a0), some (vi a1)], [], μ) ∧ ∀ r, Q' r → Q r
theorem mo_X11_ofList (x : Nat × Int32) (μ : ix_M) (Q Q' : ix_R → Prop) (h : ∀ r, Q r → Q' r) (hT : T_X11_ofList x μ Q) : T_X11_ofList x μ Q' := by
  obtain ⟨a0, a1⟩ := x
  obtain ⟨P, h1, h2⟩ := hT
  exact ⟨P, h1, fun r hr => h r (h2 r hr)⟩
theorem k_X11_ofList (l : Launch) : ix_Ct l yX11_ofList cX11_ofList 2 (some .int) 20 sh_X11_ofList T_X11_ofList := by
  intro E x μ Q hE hok hT
  obtain ⟨a0, a1⟩ := x
  obtain ⟨Q', h1, h2⟩ := hT
  exact ct_weak (ix_ct (T := fun (y : Nat × Int32) ν P => ix_Ev o_X11_ofList P (0, ix_en (sh_X11_ofList y) 2, [], ν)) (a_X11_ofList l) rfl (by decide) (fun _ => Nat.le_of_ble_eq_true rfl) (fun _ _ _ _ h => h)) E (a0, a1) μ Q Q' hE hok h1 h2
def oc_X11_ofList (n : Nat) : ix_Op := fun k _ ls st μ => match st with
  | .inl a1 :: .inr (.inr (t0, a0)) :: r => t0 = 10 ∧ ix_cs r ≤ 8 ∧ T_X11_ofList (a0, a1) μ (fun q => k (n, ls, q.1.toList ++ r, q.2))
  | _ => False
theorem oc_X11_ofList_s {l : Launch} {cc : ByteArray} {nL : Nat} {own : String} {d : Nat} {rt : Option FieldType} {pc n : Nat} (h : ix_S l cc nL own d rt pc (ix_call 2 sh_X11_ofList T_X11_ofList n)) : ix_S l cc nL own d rt pc (oc_X11_ofList n) := by
  refine h.by (fun k Q ls st μ h => ?_) (fun k k' Q ls st μ hk h => ?_)
  · unfold oc_X11_ofList at h
    split at h
    · rename_i a1 t0 a0 r
      obtain ⟨rfl, h1, h2⟩ := h
      exact ⟨h1, (a0, a1), rfl, _, h2, fun r h => h⟩
    · exact h.elim
  · unfold oc_X11_ofList at h ⊢
    split at h
    · obtain ⟨rfl, h1, h2⟩ := h
      exact ⟨rfl, h1, mo_X11_ofList _ _ _ _ (fun q hq => hk _ hq) h2⟩
    · exact h.elim
def sh_X10_dark (x : Nat × Int32) : List ix_V := [vr 9 x.1, vi x.2]
def T_X10_dark : Nat × Int32 → ix_M → (ix_R → Prop) → Prop := fun (a0, a1) μ Q => ∃ Q', ix_Ev o_X10_dark Q' (0, [some (vr 9 a0), some (vi a1), none], [], μ) ∧ ∀ r, Q' r → Q r
theorem mo_X10_dark (x : Nat × Int32) (μ : ix_M) (Q Q' : ix_R → Prop) (h : ∀ r, Q r → Q' r) (hT : T_X10_dark x μ Q) : T_X10_dark x μ Q' := by
  obtain ⟨a0, a1⟩ := x
  obtain ⟨P, h1, h2⟩ := hT
  exact ⟨P, h1, fun r hr => h r (h2 r hr)⟩
theorem k_X10_dark (l : Launch) : ix_Ct l yX10_dark cX10_dark 3 (some .int) 60 sh_X10_dark T_X10_dark := by
  intro E x μ Q hE hok hT
  obtain ⟨a0, a1⟩ := x
  obtain ⟨Q', h1, h2⟩ := hT
  exact ct_weak (ix_ct (T := fun (y : Nat × Int32) ν P => ix_Ev o_X10_dark P (0, ix_en (sh_X10_dark y) 3, [], ν)) (a_X10_dark l) rfl (by decide) (fun _ => Nat.le_of_ble_eq_true rfl) (fun _ _ _ _ h => h)) E (a0, a1) μ Q Q' hE hok h1 h2
def oc_X10_dark (n : Nat) : ix_Op := fun k _ ls st μ => match st with
  | .inl a1 :: .inr (.inr (t0, a0)) :: r => t0 = 9 ∧ ix_cs r ≤ 8 ∧ T_X10_dark (a0, a1) μ (fun q => k (n, ls, q.1.toList ++ r, q.2))
  | _ => False
theorem oc_X10_dark_s {l : Launch} {cc : ByteArray} {nL : Nat} {own : String} {d : Nat} {rt : Option FieldType} {pc n : Nat} (h : ix_S l cc nL own d rt pc (ix_call 2 sh_X10_dark T_X10_dark n)) : ix_S l cc nL own d rt pc (oc_X10_dark n) := by
  refine h.by (fun k Q ls st μ h => ?_) (fun k k' Q ls st μ hk h => ?_)
  · unfold oc_X10_dark at h
    split at h
    · rename_i a1 t0 a0 r
      obtain ⟨rfl, h1, h2⟩ := h
      exact ⟨h1, (a0, a1), rfl, _, h2, fun r h => h⟩
    · exact h.elim
  · unfold oc_X10_dark at h ⊢
    split at h
    · obtain ⟨rfl, h1, h2⟩ := h
      exact ⟨rfl, h1, mo_X10_dark _ _ _ _ (fun q hq => hk _ hq) h2⟩
    · exact h.elim
def sh_X11_dark (x : Nat × Int32) : List ix_V := [vr 10 x.1, vi x.2]
def T_X11_dark : Nat × Int32 → ix_M → (ix_R → Prop) → Prop := fun (a0, a1) μ Q => ∃ Q', ix_Ev o_X11_dark Q' (0, [some (vr 10 a0), some (vi a1)], [], μ) ∧ ∀ r, Q' r → Q r
theorem mo_X11_dark (x : Nat × Int32) (μ : ix_M) (Q Q' : ix_R → Prop) (h : ∀ r, Q r → Q' r) (hT : T_X11_dark x μ Q) : T_X11_dark x μ Q' := by
  obtain ⟨a0, a1⟩ := x
  obtain ⟨P, h1, h2⟩ := hT
  exact ⟨P, h1, fun r hr => h r (h2 r hr)⟩
theorem k_X11_dark (l : Launch) : ix_Ct l yX11_dark cX11_dark 2 (some .int) 60 sh_X11_dark T_X11_dark := by
  intro E x μ Q hE hok hT
  obtain ⟨a0, a1⟩ := x
  obtain ⟨Q', h1, h2⟩ := hT
  exact ct_weak (ix_ct (T := fun (y : Nat × Int32) ν P => ix_Ev o_X11_dark P (0, ix_en (sh_X11_dark y) 2, [], ν)) (a_X11_dark l) rfl (by decide) (fun _ => Nat.le_of_ble_eq_true rfl) (fun _ _ _ _ h => h)) E (a0, a1) μ Q Q' hE hok h1 h2
def oc_X11_dark (n : Nat) : ix_Op := fun k _ ls st μ => match st with
  | .inl a1 :: .inr (.inr (t0, a0)) :: r => t0 = 10 ∧ ix_cs r ≤ 8 ∧ T_X11_dark (a0, a1) μ (fun q => k (n, ls, q.1.toList ++ r, q.2))
  | _ => False
theorem oc_X11_dark_s {l : Launch} {cc : ByteArray} {nL : Nat} {own : String} {d : Nat} {rt : Option FieldType} {pc n : Nat} (h : ix_S l cc nL own d rt pc (ix_call 2 sh_X11_dark T_X11_dark n)) : ix_S l cc nL own d rt pc (oc_X11_dark n) := by
  refine h.by (fun k Q ls st μ h => ?_) (fun k k' Q ls st μ hk h => ?_)
  · unfold oc_X11_dark at h
    split at h
    · rename_i a1 t0 a0 r
      obtain ⟨rfl, h1, h2⟩ := h
      exact ⟨h1, (a0, a1), rfl, _, h2, fun r h => h⟩
    · exact h.elim
  · unfold oc_X11_dark at h ⊢
    split at h
    · obtain ⟨rfl, h1, h2⟩ := h
      exact ⟨rfl, h1, mo_X11_dark _ _ _ _ (fun q hq => hk _ hq) h2⟩
    · exact h.elim
def sh_X10_wants (x : Nat × Int32 × Int32) : List ix_V := [vr 9 x.1, vi x.2.1, vi x.2.2]
def T_X10_wants : Nat × Int32 × Int32 → ix_M → (ix_R → Prop) → Prop := fun (a0, a1, a2) μ Q => ∃ Q', ix_Ev o_X10_wants Q' (0, [some (vr 9 a0), some (vi a1), some (vi a2)], [], μ) ∧ ∀ r, Q' r → Q r
theorem mo_X10_wants (x : Nat × Int32 × Int32) (μ : ix_M) (Q Q' : ix_R → Prop) (h : ∀ r, Q r → Q' r) (hT : T_X10_wants x μ Q) : T_X10_wants x μ Q' := by
  obtain ⟨a0, a1, a2⟩ := x
  obtain ⟨P, h1, h2⟩ := hT
  exact ⟨P, h1, fun r hr => h r (h2 r hr)⟩
theorem k_X10_wants (l : Launch) : ix_Ct l yX10_wants cX10_wants 3 (some .int) 60 sh_X10_wants T_X10_wants := by
  intro E x μ Q hE hok hT
  obtain ⟨a0, a1, a2⟩ := x
  obtain ⟨Q', h1, h2⟩ := hT
  exact ct_weak (ix_ct (T := fun (y : Nat × Int32 × Int32) ν P => ix_Ev o_X10_wants P (0, ix_en (sh_X10_wants y) 3, [], ν)) (a_X10_wants l) rfl (by decide) (fun _ => Nat.le_of_ble_eq_true rfl) (fun _ _ _ _ h => h)) E (a0, a1, a2) μ Q Q' hE hok h1 h2
def oc_X10_wants (n : Nat) : ix_Op := fun k _ ls st μ => match st with
  | .inl a2 :: .inl a1 :: .inr (.inr (t0, a0)) :: r => t0 = 9 ∧ ix_cs r ≤ 8 ∧ T_X10_wants (a0, a1, a2) μ (fun q => k (n, ls, q.1.toList ++ r, q.2))
  | _ => False
theorem oc_X10_wants_s {l : Launch} {cc : ByteArray} {nL : Nat} {own : String} {d : Nat} {rt : Option FieldType} {pc n : Nat} (h : ix_S l cc nL own d rt pc (ix_call 3 sh_X10_wants T_X10_wants n)) : ix_S l cc nL own d rt pc (oc_X10_wants n) := by
  refine h.by (fun k Q ls st μ h => ?_) (fun k k' Q ls st μ hk h => ?_)
  · unfold oc_X10_wants at h
    split at h
    · rename_i a2 a1 t0 a0 r
      obtain ⟨rfl, h1, h2⟩ := h
      exact ⟨h1, (a0, a1, a2), rfl, _, h2, fun r h => h⟩
    · exact h.elim
  · unfold oc_X10_wants at h ⊢
    split at h
    · obtain ⟨rfl, h1, h2⟩ := h
      exact ⟨rfl, h1, mo_X10_wants _ _ _ _ (fun q hq => hk _ hq) h2⟩
    · exact h.elim
def sh_X11_wants (x : Nat × Int32 × Int32) : List ix_V := [vr 10 x.1, vi x.2.1, vi x.2.2]
def T_X11_wants : Nat × Int32 × Int32 → ix_M → (ix_R → Prop) → Prop := fun (a0, a1, a2) μ Q => ∃ Q', ix_Ev o_X11_wants Q' (0, [some (vr 10 a0), some (vi a1), some (vi a2)], [], μ) ∧ ∀ r, Q' r → Q r
theorem mo_X11_wants (x : Nat × Int32 × Int32) (μ : ix_M) (Q Q' : ix_R → Prop) (h : ∀ r, Q r → Q' r) (hT : T_X11_wants x μ Q) : T_X11_wants x μ Q' := by
  obtain ⟨a0, a1, a2⟩ := x
  obtain ⟨P, h1, h2⟩ := hT
  exact ⟨P, h1, fun r hr => h r (h2 r hr)⟩
theorem k_X11_wants (l : Launch) : ix_Ct l yX11_wants cX11_wants 3 (some .int) 60 sh_X11_wants T_X11_wants := by
  intro E x μ Q hE hok hT
  obtain ⟨a0, a1, a2⟩ := x
  obtain ⟨Q', h1, h2⟩ := hT
  exact ct_weak (ix_ct (T := fun (y : Nat × Int32 × Int32) ν P => ix_Ev o_X11_wants P (0, ix_en (sh_X11_wants y) 3, [], ν)) (a_X11_wants l) rfl (by decide) (fun _ => Nat.le_of_ble_eq_true rfl) (fun _ _ _ _ h => h)) E (a0, a1, a2) μ Q Q' hE hok h1 h2
def oc_X11_wants (n : Nat) : ix_Op := fun k _ ls st μ => match st with
  | .inl a2 :: .inl a1 :: .inr (.inr (t0, a0)) :: r => t0 = 10 ∧ ix_cs r ≤ 8 ∧ T_X11_wants (a0, a1, a2) μ (fun q => k (n, ls, q.1.toList ++ r, q.2))
  | _ => False
theorem oc_X11_wants_s {l : Launch} {cc : ByteArray} {nL : Nat} {own : String} {d : Nat} {rt : Option FieldType} {pc n : Nat} (h : ix_S l cc nL own d rt pc (ix_call 3 sh_X11_wants T_X11_wants n)) : ix_S l cc nL own d rt pc (oc_X11_wants n) := by
  refine h.by (fun k Q ls st μ h => ?_) (fun k k' Q ls st μ hk h => ?_)
  · unfold oc_X11_wants at h
    split at h
    · rename_i a2 a1 t0 a0 r
      obtain ⟨rfl, h1, h2⟩ := h
      exact ⟨h1, (a0, a1, a2), rfl, _, h2, fun r h => h⟩
    · exact h.elim
  · unfold oc_X11_wants at h ⊢
    split at h
    · obtain ⟨rfl, h1, h2⟩ := h
      exact ⟨rfl, h1, mo_X11_wants _ _ _ _ (fun q hq => hk _ hq) h2⟩
    · exact h.elim
def sh_X10_ofWearer (x : Nat × Int32) : List ix_V := [vr 9 x.1, vi x.2]
def T_X10_ofWearer : Nat × Int32 → ix_M → (ix_R → Prop) → Prop := fun (a0, a1) μ Q => ∃ Q', ix_Ev o_X10_ofWearer Q' (0, [some (vr 9 a0), some (vi a1)], [], μ) ∧ ∀ r, Q' r → Q r
theorem mo_X10_ofWearer (x : Nat × Int32) (μ : ix_M) (Q Q' : ix_R → Prop) (h : ∀ r, Q r → Q' r) (hT : T_X10_ofWearer x μ Q) : T_X10_ofWearer x μ Q' := by
  obtain ⟨a0, a1⟩ := x
  obtain ⟨P, h1, h2⟩ := hT
  exact ⟨P, h1, fun r hr => h r (h2 r hr)⟩
theorem k_X10_ofWearer (l : Launch) : ix_Ct l yX10_ofWearer cX10_ofWearer 2 (some .int) 60 sh_X10_ofWearer T_X10_ofWearer := by
  intro E x μ Q hE hok hT
  obtain ⟨a0, a1⟩ := x
  obtain ⟨Q', h1, h2⟩ := hT
  exact ct_weak (ix_ct (T := fun (y : Nat × Int32) ν P => ix_Ev o_X10_ofWearer P (0, ix_en (sh_X10_ofWearer y) 2, [], ν)) (a_X10_ofWearer l) rfl (by decide) (fun _ => Nat.le_of_ble_eq_true rfl) (fun _ _ _ _ h => h)) E (a0, a1) μ Q Q' hE hok h1 h2
def oc_X10_ofWearer (n : Nat) : ix_Op := fun k _ ls st μ => match st with
  | .inl a1 :: .inr (.inr (t0, a0)) :: r => t0 = 9 ∧ ix_cs r ≤ 8 ∧ T_X10_ofWearer (a0, a1) μ (fun q => k (n, ls, q.1.toList ++ r, q.2))
  | _ => False
theorem oc_X10_ofWearer_s {l : Launch} {cc : ByteArray} {nL : Nat} {own : String} {d : Nat} {rt : Option FieldType} {pc n : Nat} (h : ix_S l cc nL own d rt pc (ix_call 2 sh_X10_ofWearer T_X10_ofWearer n)) : ix_S l cc nL own d rt pc (oc_X10_ofWearer n) := by
  refine h.by (fun k Q ls st μ h => ?_) (fun k k' Q ls st μ hk h => ?_)
  · unfold oc_X10_ofWearer at h
    split at h
    · rename_i a1 t0 a0 r
      obtain ⟨rfl, h1, h2⟩ := h
      exact ⟨h1, (a0, a1), rfl, _, h2, fun r h => h⟩
    · exact h.elim
  · unfold oc_X10_ofWearer at h ⊢
    split at h
    · obtain ⟨rfl, h1, h2⟩ := h
      exact ⟨rfl, h1, mo_X10_ofWearer _ _ _ _ (fun q hq => hk _ hq) h2⟩
    · exact h.elim
def sh_X11_ofWearer (x : Nat × Int32) : List ix_V := [vr 10 x.1, vi x.2]
def T_X11_ofWearer : Nat × Int32 → ix_M → (ix_R → Prop) → Prop := fun (a0, a1) μ Q => ∃ Q', ix_Ev o_X11_ofWearer Q' (0, [some (vr 10 a0), some (vi a1)], [], μ) ∧ ∀ r, Q' r → Q r
theorem mo_X11_ofWearer (x : Nat × Int32) (μ : ix_M) (Q Q' : ix_R → Prop) (h : ∀ r, Q r → Q' r) (hT : T_X11_ofWearer x μ Q) : T_X11_ofWearer x μ Q' := by
  obtain ⟨a0, a1⟩ := x
  obtain ⟨P, h1, h2⟩ := hT
  exact ⟨P, h1, fun r hr => h r (h2 r hr)⟩
theorem k_X11_ofWearer (l : Launch) : ix_Ct l yX11_ofWearer cX11_ofWearer 2 (some .int) 60 sh_X11_ofWearer T_X11_ofWearer := by
  intro E x μ Q hE hok hT
  obtain ⟨a0, a1⟩ := x
  obtain ⟨Q', h1, h2⟩ := hT
  exact ct_weak (ix_ct (T := fun (y : Nat × Int32) ν P => ix_Ev o_X11_ofWearer P (0, ix_en (sh_X11_ofWearer y) 2, [], ν)) (a_X11_ofWearer l) rfl (by decide) (fun _ => Nat.le_of_ble_eq_true rfl) (fun _ _ _ _ h => h)) E (a0, a1) μ Q Q' hE hok h1 h2
def oc_X11_ofWearer (n : Nat) : ix_Op := fun k _ ls st μ => match st with
  | .inl a1 :: .inr (.inr (t0, a0)) :: r => t0 = 10 ∧ ix_cs r ≤ 8 ∧ T_X11_ofWearer (a0, a1) μ (fun q => k (n, ls, q.1.toList ++ r, q.2))
  | _ => False
theorem oc_X11_ofWearer_s {l : Launch} {cc : ByteArray} {nL : Nat} {own : String} {d : Nat} {rt : Option FieldType} {pc n : Nat} (h : ix_S l cc nL own d rt pc (ix_call 2 sh_X11_ofWearer T_X11_ofWearer n)) : ix_S l cc nL own d rt pc (oc_X11_ofWearer n) := by
  refine h.by (fun k Q ls st μ h => ?_) (fun k k' Q ls st μ hk h => ?_)
  · unfold oc_X11_ofWearer at h
    split at h
    · rename_i a1 t0 a0 r
      obtain ⟨rfl, h1, h2⟩ := h
      exact ⟨h1, (a0, a1), rfl, _, h2, fun r h => h⟩
    · exact h.elim
  · unfold oc_X11_ofWearer at h ⊢
    split at h
    · obtain ⟨rfl, h1, h2⟩ := h
      exact ⟨rfl, h1, mo_X11_ofWearer _ _ _ _ (fun q hq => hk _ hq) h2⟩
    · exact h.elim
def sh_X10_boat (x : Nat × Int32 × Int32) : List ix_V := [vr 9 x.1, vi x.2.1, vi x.2.2]
def T_X10_boat : Nat × Int32 × Int32 → ix_M → (ix_R → Prop) → Prop := fun (a0, a1, a2) μ Q => ∃ Q', ix_Ev o_X10_boat Q' (0, [some (vr 9 a0), some (vi a1), some (vi a2)], [], μ) ∧ ∀ r, Q' r → Q r
theorem mo_X10_boat (x : Nat × Int32 × Int32) (μ : ix_M) (Q Q' : ix_R → Prop) (h : ∀ r, Q r → Q' r) (hT : T_X10_boat x μ Q) : T_X10_boat x μ Q' := by
  obtain ⟨a0, a1, a2⟩ := x
  obtain ⟨P, h1, h2⟩ := hT
  exact ⟨P, h1, fun r hr => h r (h2 r hr)⟩
theorem k_X10_boat (l : Launch) : ix_Ct l yX10_boat cX10_boat 3 (some .int) 60 sh_X10_boat T_X10_boat := by
  intro E x μ Q hE hok hT
  obtain ⟨a0, a1, a2⟩ := x
  obtain ⟨Q', h1, h2⟩ := hT
  exact ct_weak (ix_ct (T := fun (y : Nat × Int32 × Int32) ν P => ix_Ev o_X10_boat P (0, ix_en (sh_X10_boat y) 3, [], ν)) (a_X10_boat l) rfl (by decide) (fun _ => Nat.le_of_ble_eq_true rfl) (fun _ _ _ _ h => h)) E (a0, a1, a2) μ Q Q' hE hok h1 h2
def oc_X10_boat (n : Nat) : ix_Op := fun k _ ls st μ => match st with
  | .inl a2 :: .inl a1 :: .inr (.inr (t0, a0)) :: r => t0 = 9 ∧ ix_cs r ≤ 8 ∧ T_X10_boat (a0, a1, a2) μ (fun q => k (n, ls, q.1.toList ++ r, q.2))
  | _ => False
theorem oc_X10_boat_s {l : Launch} {cc : ByteArray} {nL : Nat} {own : String} {d : Nat} {rt : Option FieldType} {pc n : Nat} (h : ix_S l cc nL own d rt pc (ix_call 3 sh_X10_boat T_X10_boat n)) : ix_S l cc nL own d rt pc (oc_X10_boat n) := by
  refine h.by (fun k Q ls st μ h => ?_) (fun k k' Q ls st μ hk h => ?_)
  · unfold oc_X10_boat at h
    split at h
    · rename_i a2 a1 t0 a0 r
      obtain ⟨rfl, h1, h2⟩ := h
      exact ⟨h1, (a0, a1, a2), rfl, _, h2, fun r h => h⟩
    · exact h.elim
  · unfold oc_X10_boat at h ⊢
    split at h
    · obtain ⟨rfl, h1, h2⟩ := h
      exact ⟨rfl, h1, mo_X10_boat _ _ _ _ (fun q hq => hk _ hq) h2⟩
    · exact h.elim
def sh_X11_boat (x : Nat × Int32 × Int32) : List ix_V := [vr 10 x.1, vi x.2.1, vi x.2.2]
def T_X11_boat : Nat × Int32 × Int32 → ix_M → (ix_R → Prop) → Prop := fun (a0, a1, a2) μ Q => ∃ Q', ix_Ev o_X11_boat Q' (0, [some (vr 10 a0), some (vi a1), some (vi a2)], [], μ) ∧ ∀ r, Q' r → Q r
theorem mo_X11_boat (x : Nat × Int32 × Int32) (μ : ix_M) (Q Q' : ix_R → Prop) (h : ∀ r, Q r → Q' r) (hT : T_X11_boat x μ Q) : T_X11_boat x μ Q' := by
  obtain ⟨a0, a1, a2⟩ := x
  obtain ⟨P, h1, h2⟩ := hT
  exact ⟨P, h1, fun r hr => h r (h2 r hr)⟩
theorem k_X11_boat (l : Launch) : ix_Ct l yX11_boat cX11_boat 3 (some .int) 60 sh_X11_boat T_X11_boat := by
  intro E x μ Q hE hok hT
  obtain ⟨a0, a1, a2⟩ := x
  obtain ⟨Q', h1, h2⟩ := hT
  exact ct_weak (ix_ct (T := fun (y : Nat × Int32 × Int32) ν P => ix_Ev o_X11_boat P (0, ix_en (sh_X11_boat y) 3, [], ν)) (a_X11_boat l) rfl (by decide) (fun _ => Nat.le_of_ble_eq_true rfl) (fun _ _ _ _ h => h)) E (a0, a1, a2) μ Q Q' hE hok h1 h2
def oc_X11_boat (n : Nat) : ix_Op := fun k _ ls st μ => match st with
  | .inl a2 :: .inl a1 :: .inr (.inr (t0, a0)) :: r => t0 = 10 ∧ ix_cs r ≤ 8 ∧ T_X11_boat (a0, a1, a2) μ (fun q => k (n, ls, q.1.toList ++ r, q.2))
  | _ => False
theorem oc_X11_boat_s {l : Launch} {cc : ByteArray} {nL : Nat} {own : String} {d : Nat} {rt : Option FieldType} {pc n : Nat} (h : ix_S l cc nL own d rt pc (ix_call 3 sh_X11_boat T_X11_boat n)) : ix_S l cc nL own d rt pc (oc_X11_boat n) := by
  refine h.by (fun k Q ls st μ h => ?_) (fun k k' Q ls st μ hk h => ?_)
  · unfold oc_X11_boat at h
    split at h
    · rename_i a2 a1 t0 a0 r
      obtain ⟨rfl, h1, h2⟩ := h
      exact ⟨h1, (a0, a1, a2), rfl, _, h2, fun r h => h⟩
    · exact h.elim
  · unfold oc_X11_boat at h ⊢
    split at h
    · obtain ⟨rfl, h1, h2⟩ := h
      exact ⟨rfl, h1, mo_X11_boat _ _ _ _ (fun q hq => hk _ hq) h2⟩
    · exact h.elim
def sh_X10_ofBoat (x : Nat × Int32 × Int32) : List ix_V := [vr 9 x.1, vi x.2.1, vi x.2.2]
def T_X10_ofBoat : Nat × Int32 × Int32 → ix_M → (ix_R → Prop) → Prop := fun (a0, a1, a2) μ Q => ∃ Q', ix_Ev o_X10_ofBoat Q' (0, [some (vr 9 a0), some (vi a1), some (vi a2), none], [], μ) ∧ ∀ r, Q' r → Q r
theorem mo_X10_ofBoat (x : Nat × Int32 × Int32) (μ : ix_M) (Q Q' : ix_R → Prop) (h : ∀ r, Q r → Q' r) (hT : T_X10_ofBoat x μ Q) : T_X10_ofBoat x μ Q' := by
  obtain ⟨a0, a1, a2⟩ := x
  obtain ⟨P, h1, h2⟩ := hT
  exact ⟨P, h1, fun r hr => h r (h2 r hr)⟩
theorem k_X10_ofBoat (l : Launch) : ix_Ct l yX10_ofBoat cX10_ofBoat 4 (some .int) 60 sh_X10_ofBoat T_X10_ofBoat := by
  intro E x μ Q hE hok hT
  obtain ⟨a0, a1, a2⟩ := x
  obtain ⟨Q', h1, h2⟩ := hT
  exact ct_weak (ix_ct (T := fun (y : Nat × Int32 × Int32) ν P => ix_Ev o_X10_ofBoat P (0, ix_en (sh_X10_ofBoat y) 4, [], ν)) (a_X10_ofBoat l) rfl (by decide) (fun _ => Nat.le_of_ble_eq_true rfl) (fun _ _ _ _ h => h)) E (a0, a1, a2) μ Q Q' hE hok h1 h2
def oc_X10_ofBoat (n : Nat) : ix_Op := fun k _ ls st μ => match st with
  | .inl a2 :: .inl a1 :: .inr (.inr (t0, a0)) :: r => t0 = 9 ∧ ix_cs r ≤ 8 ∧ T_X10_ofBoat (a0, a1, a2) μ (fun q => k (n, ls, q.1.toList ++ r, q.2))
  | _ => False
theorem oc_X10_ofBoat_s {l : Launch} {cc : ByteArray} {nL : Nat} {own : String} {d : Nat} {rt : Option FieldType} {pc n : Nat} (h : ix_S l cc nL own d rt pc (ix_call 3 sh_X10_ofBoat T_X10_ofBoat n)) : ix_S l cc nL own d rt pc (oc_X10_ofBoat n) := by
  refine h.by (fun k Q ls st μ h => ?_) (fun k k' Q ls st μ hk h => ?_)
  · unfold oc_X10_ofBoat at h
    split at h
    · rename_i a2 a1 t0 a0 r
      obtain ⟨rfl, h1, h2⟩ := h
      exact ⟨h1, (a0, a1, a2), rfl, _, h2, fun r h => h⟩
    · exact h.elim
  · unfold oc_X10_ofBoat at h ⊢
    split at h
    · obtain ⟨rfl, h1, h2⟩ := h
      exact ⟨rfl, h1, mo_X10_ofBoat _ _ _ _ (fun q hq => hk _ hq) h2⟩
    · exact h.elim
def sh_X11_ofBoat (x : Nat × Int32 × Int32) : List ix_V := [vr 10 x.1, vi x.2.1, vi x.2.2]
def T_X11_ofBoat : Nat × Int32 × Int32 → ix_M → (ix_R → Prop) → Prop := fun (a0, a1, a2) μ Q => ∃ Q', ix_Ev o_X11_ofBoat Q' (0, [some (vr 10 a0), some (vi a1), some (vi a2)], [], μ) ∧ ∀ r, Q' r → Q r
theorem mo_X11_ofBoat (x : Nat × Int32 × Int32) (μ : ix_M) (Q Q' : ix_R → Prop) (h : ∀ r, Q r → Q' r) (hT : T_X11_ofBoat x μ Q) : T_X11_ofBoat x μ Q' := by
  obtain ⟨a0, a1, a2⟩ := x
  obtain ⟨P, h1, h2⟩ := hT
  exact ⟨P, h1, fun r hr => h r (h2 r hr)⟩
theorem k_X11_ofBoat (l : Launch) : ix_Ct l yX11_ofBoat cX11_ofBoat 3 (some .int) 60 sh_X11_ofBoat T_X11_ofBoat := by
  intro E x μ Q hE hok hT
  obtain ⟨a0, a1, a2⟩ := x
  obtain ⟨Q', h1, h2⟩ := hT
  exact ct_weak (ix_ct (T := fun (y : Nat × Int32 × Int32) ν P => ix_Ev o_X11_ofBoat P (0, ix_en (sh_X11_ofBoat y) 3, [], ν)) (a_X11_ofBoat l) rfl (by decide) (fun _ => Nat.le_of_ble_eq_true rfl) (fun _ _ _ _ h => h)) E (a0, a1, a2) μ Q Q' hE hok h1 h2
def oc_X11_ofBoat (n : Nat) : ix_Op := fun k _ ls st μ => match st with
  | .inl a2 :: .inl a1 :: .inr (.inr (t0, a0)) :: r => t0 = 10 ∧ ix_cs r ≤ 8 ∧ T_X11_ofBoat (a0, a1, a2) μ (fun q => k (n, ls, q.1.toList ++ r, q.2))
  | _ => False
theorem oc_X11_ofBoat_s {l : Launch} {cc : ByteArray} {nL : Nat} {own : String} {d : Nat} {rt : Option FieldType} {pc n : Nat} (h : ix_S l cc nL own d rt pc (ix_call 3 sh_X11_ofBoat T_X11_ofBoat n)) : ix_S l cc nL own d rt pc (oc_X11_ofBoat n) := by
  refine h.by (fun k Q ls st μ h => ?_) (fun k k' Q ls st μ hk h => ?_)
  · unfold oc_X11_ofBoat at h
    split at h
    · rename_i a2 a1 t0 a0 r
      obtain ⟨rfl, h1, h2⟩ := h
      exact ⟨h1, (a0, a1, a2), rfl, _, h2, fun r h => h⟩
    · exact h.elim
  · unfold oc_X11_ofBoat at h ⊢
    split at h
    · obtain ⟨rfl, h1, h2⟩ := h
      exact ⟨rfl, h1, mo_X11_ofBoat _ _ _ _ (fun q hq => hk _ hq) h2⟩
    · exact h.elim
def sh_X10_change (x : Nat × Int32 × Int32 × Int32) : List ix_V := [vr 9 x.1, vi x.2.1, vi x.2.2.1, vi x.2.2.2]
def T_X10_change : Nat × Int32 × Int32 × Int32 → ix_M → (ix_R → Prop) → Prop := fun (a0, a1, a2, a3) μ Q => ∃ Q', ix_Ev o_X10_change Q' (0, [some (vr 9 a0), some (vi a1), some (vi a2), some (vi a3)], [], μ) ∧ ∀ r, Q' r → Q r
theorem mo_X10_change (x : Nat × Int32 × Int32 × Int32) (μ : ix_M) (Q Q' : ix_R → Prop) (h : ∀ r, Q r → Q' r) (hT : T_X10_change x μ Q) : T_X10_change x μ Q' := by
  obtain ⟨a0, a1, a2, a3⟩ := x
  obtain ⟨P, h1, h2⟩ := hT
  exact ⟨P, h1, fun r hr => h r (h2 r hr)⟩
theorem k_X10_change (l : Launch) : ix_Ct l yX10_change cX10_change 4 (some .int) 60 sh_X10_change T_X10_change := by
  intro E x μ Q hE hok hT
  obtain ⟨a0, a1, a2, a3⟩ := x
  obtain ⟨Q', h1, h2⟩ := hT
  exact ct_weak (ix_ct (T := fun (y : Nat × Int32 × Int32 × Int32) ν P => ix_Ev o_X10_change P (0, ix_en (sh_X10_change y) 4, [], ν)) (a_X10_change l) rfl (by decide) (fun _ => Nat.le_of_ble_eq_true rfl) (fun _ _ _ _ h => h)) E (a0, a1, a2, a3) μ Q Q' hE hok h1 h2
def oc_X10_change (n : Nat) : ix_Op := fun k _ ls st μ => match st with
  | .inl a3 :: .inl a2 :: .inl a1 :: .inr (.inr (t0, a0)) :: r => t0 = 9 ∧ ix_cs r ≤ 8 ∧ T_X10_change (a0, a1, a2, a3) μ (fun q => k (n, ls, q.1.toList ++ r, q.2))
  | _ => False
theorem oc_X10_change_s {l : Launch} {cc : ByteArray} {nL : Nat} {own : String} {d : Nat} {rt : Option FieldType} {pc n : Nat} (h : ix_S l cc nL own d rt pc (ix_call 4 sh_X10_change T_X10_change n)) : ix_S l cc nL own d rt pc (oc_X10_change n) := by
  refine h.by (fun k Q ls st μ h => ?_) (fun k k' Q ls st μ hk h => ?_)
  · unfold oc_X10_change at h
    split at h
    · rename_i a3 a2 a1 t0 a0 r
      obtain ⟨rfl, h1, h2⟩ := h
      exact ⟨h1, (a0, a1, a2, a3), rfl, _, h2, fun r h => h⟩
    · exact h.elim
  · unfold oc_X10_change at h ⊢
    split at h
    · obtain ⟨rfl, h1, h2⟩ := h
      exact ⟨rfl, h1, mo_X10_change _ _ _ _ (fun q hq => hk _ hq) h2⟩
    · exact h.elim
def sh_X11_change (x : Nat × Int32 × Int32 × Int32) : List ix_V := [vr 10 x.1, vi x.2.1, vi x.2.2.1, vi x.2.2.2]
def T_X11_change : Nat × Int32 × Int32 × Int32 → ix_M → (ix_R → Prop) → Prop := fun (a0, a1, a2, a3) μ Q => ∃ Q', ix_Ev o_X11_change Q' (0, [some (vr 10 a0), some (vi a1), some (vi a2), some (vi a3), none], [], μ) ∧ ∀ r, Q' r → Q r
theorem mo_X11_change (x : Nat × Int32 × Int32 × Int32) (μ : ix_M) (Q Q' : ix_R → Prop) (h : ∀ r, Q r → Q' r) (hT : T_X11_change x μ Q) : T_X11_change x μ Q' := by
  obtain ⟨a0, a1, a2, a3⟩ := x
  obtain ⟨P, h1, h2⟩ := hT
  exact ⟨P, h1, fun r hr => h r (h2 r hr)⟩
theorem k_X11_change (l : Launch) : ix_Ct l yX11_change cX11_change 5 (some .int) 60 sh_X11_change T_X11_change := by
  intro E x μ Q hE hok hT
  obtain ⟨a0, a1, a2, a3⟩ := x
  obtain ⟨Q', h1, h2⟩ := hT
  exact ct_weak (ix_ct (T := fun (y : Nat × Int32 × Int32 × Int32) ν P => ix_Ev o_X11_change P (0, ix_en (sh_X11_change y) 5, [], ν)) (a_X11_change l) rfl (by decide) (fun _ => Nat.le_of_ble_eq_true rfl) (fun _ _ _ _ h => h)) E (a0, a1, a2, a3) μ Q Q' hE hok h1 h2
def oc_X11_change (n : Nat) : ix_Op := fun k _ ls st μ => match st with
  | .inl a3 :: .inl a2 :: .inl a1 :: .inr (.inr (t0, a0)) :: r => t0 = 10 ∧ ix_cs r ≤ 8 ∧ T_X11_change (a0, a1, a2, a3) μ (fun q => k (n, ls, q.1.toList ++ r, q.2))
  | _ => False
theorem oc_X11_change_s {l : Launch} {cc : ByteArray} {nL : Nat} {own : String} {d : Nat} {rt : Option FieldType} {pc n : Nat} (h : ix_S l cc nL own d rt pc (ix_call 4 sh_X11_change T_X11_change n)) : ix_S l cc nL own d rt pc (oc_X11_change n) := by
  refine h.by (fun k Q ls st μ h => ?_) (fun k k' Q ls st μ hk h => ?_)
  · unfold oc_X11_change at h
    split at h
    · rename_i a3 a2 a1 t0 a0 r
      obtain ⟨rfl, h1, h2⟩ := h
      exact ⟨h1, (a0, a1, a2, a3), rfl, _, h2, fun r h => h⟩
    · exact h.elim
  · unfold oc_X11_change at h ⊢
    split at h
    · obtain ⟨rfl, h1, h2⟩ := h
      exact ⟨rfl, h1, mo_X11_change _ _ _ _ (fun q hq => hk _ hq) h2⟩
    · exact h.elim
def sh_X10_become (x : Nat × Int32 × Int32) : List ix_V := [vr 9 x.1, vi x.2.1, vi x.2.2]
def T_X10_become : Nat × Int32 × Int32 → ix_M → (ix_R → Prop) → Prop := fun (a0, a1, a2) μ Q => ∃ Q', ix_Ev o_X10_become Q' (0, [some (vr 9 a0), some (vi a1), some (vi a2)], [], μ) ∧ ∀ r, Q' r → Q r
theorem mo_X10_become (x : Nat × Int32 × Int32) (μ : ix_M) (Q Q' : ix_R → Prop) (h : ∀ r, Q r → Q' r) (hT : T_X10_become x μ Q) : T_X10_become x μ Q' := by
  obtain ⟨a0, a1, a2⟩ := x
  obtain ⟨P, h1, h2⟩ := hT
  exact ⟨P, h1, fun r hr => h r (h2 r hr)⟩
theorem k_X10_become (l : Launch) : ix_Ct l yX10_become cX10_become 3 (some .int) 60 sh_X10_become T_X10_become := by
  intro E x μ Q hE hok hT
  obtain ⟨a0, a1, a2⟩ := x
  obtain ⟨Q', h1, h2⟩ := hT
  exact ct_weak (ix_ct (T := fun (y : Nat × Int32 × Int32) ν P => ix_Ev o_X10_become P (0, ix_en (sh_X10_become y) 3, [], ν)) (a_X10_become l) rfl (by decide) (fun _ => Nat.le_of_ble_eq_true rfl) (fun _ _ _ _ h => h)) E (a0, a1, a2) μ Q Q' hE hok h1 h2
def oc_X10_become (n : Nat) : ix_Op := fun k _ ls st μ => match st with
  | .inl a2 :: .inl a1 :: .inr (.inr (t0, a0)) :: r => t0 = 9 ∧ ix_cs r ≤ 8 ∧ T_X10_become (a0, a1, a2) μ (fun q => k (n, ls, q.1.toList ++ r, q.2))
  | _ => False
theorem oc_X10_become_s {l : Launch} {cc : ByteArray} {nL : Nat} {own : String} {d : Nat} {rt : Option FieldType} {pc n : Nat} (h : ix_S l cc nL own d rt pc (ix_call 3 sh_X10_become T_X10_become n)) : ix_S l cc nL own d rt pc (oc_X10_become n) := by
  refine h.by (fun k Q ls st μ h => ?_) (fun k k' Q ls st μ hk h => ?_)
  · unfold oc_X10_become at h
    split at h
    · rename_i a2 a1 t0 a0 r
      obtain ⟨rfl, h1, h2⟩ := h
      exact ⟨h1, (a0, a1, a2), rfl, _, h2, fun r h => h⟩
    · exact h.elim
  · unfold oc_X10_become at h ⊢
    split at h
    · obtain ⟨rfl, h1, h2⟩ := h
      exact ⟨rfl, h1, mo_X10_become _ _ _ _ (fun q hq => hk _ hq) h2⟩
    · exact h.elim
def sh_X11_become (x : Nat × Int32 × Int32) : List ix_V := [vr 10 x.1, vi x.2.1, vi x.2.2]
def T_X11_become : Nat × Int32 × Int32 → ix_M → (ix_R → Prop) → Prop := fun (a0, a1, a2) μ Q => ∃ Q', ix_Ev o_X11_become Q' (0, [some (vr 10 a0), some (vi a1), some (vi a2)], [], μ) ∧ ∀ r, Q' r → Q r
theorem mo_X11_become (x : Nat × Int32 × Int32) (μ : ix_M) (Q Q' : ix_R → Prop) (h : ∀ r, Q r → Q' r) (hT : T_X11_become x μ Q) : T_X11_become x μ Q' := by
  obtain ⟨a0, a1, a2⟩ := x
  obtain ⟨P, h1, h2⟩ := hT
  exact ⟨P, h1, fun r hr => h r (h2 r hr)⟩
theorem k_X11_become (l : Launch) : ix_Ct l yX11_become cX11_become 3 (some .int) 60 sh_X11_become T_X11_become := by
  intro E x μ Q hE hok hT
  obtain ⟨a0, a1, a2⟩ := x
  obtain ⟨Q', h1, h2⟩ := hT
  exact ct_weak (ix_ct (T := fun (y : Nat × Int32 × Int32) ν P => ix_Ev o_X11_become P (0, ix_en (sh_X11_become y) 3, [], ν)) (a_X11_become l) rfl (by decide) (fun _ => Nat.le_of_ble_eq_true rfl) (fun _ _ _ _ h => h)) E (a0, a1, a2) μ Q Q' hE hok h1 h2
def oc_X11_become (n : Nat) : ix_Op := fun k _ ls st μ => match st with
  | .inl a2 :: .inl a1 :: .inr (.inr (t0, a0)) :: r => t0 = 10 ∧ ix_cs r ≤ 8 ∧ T_X11_become (a0, a1, a2) μ (fun q => k (n, ls, q.1.toList ++ r, q.2))
  | _ => False
theorem oc_X11_become_s {l : Launch} {cc : ByteArray} {nL : Nat} {own : String} {d : Nat} {rt : Option FieldType} {pc n : Nat} (h : ix_S l cc nL own d rt pc (ix_call 3 sh_X11_become T_X11_become n)) : ix_S l cc nL own d rt pc (oc_X11_become n) := by
  refine h.by (fun k Q ls st μ h => ?_) (fun k k' Q ls st μ hk h => ?_)
  · unfold oc_X11_become at h
    split at h
    · rename_i a2 a1 t0 a0 r
      obtain ⟨rfl, h1, h2⟩ := h
      exact ⟨h1, (a0, a1, a2), rfl, _, h2, fun r h => h⟩
    · exact h.elim
  · unfold oc_X11_become at h ⊢
    split at h
    · obtain ⟨rfl, h1, h2⟩ := h
      exact ⟨rfl, h1, mo_X11_become _ _ _ _ (fun q hq => hk _ hq) h2⟩
    · exact h.elim
def sh_X10_as (x : Nat × Int32 × Int32) : List ix_V := [vr 9 x.1, vi x.2.1, vi x.2.2]
def T_X10_as : Nat × Int32 × Int32 → ix_M → (ix_R → Prop) → Prop := fun (a0, a1, a2) μ Q => ∃ Q', ix_Ev o_X10_as Q' (0, [some (vr 9 a0), some (vi a1), some (vi a2)], [], μ) ∧ ∀ r, Q' r → Q r
theorem mo_X10_as (x : Nat × Int32 × Int32) (μ : ix_M) (Q Q' : ix_R → Prop) (h : ∀ r, Q r → Q' r) (hT : T_X10_as x μ Q) : T_X10_as x μ Q' := by
  obtain ⟨a0, a1, a2⟩ := x
  obtain ⟨P, h1, h2⟩ := hT
  exact ⟨P, h1, fun r hr => h r (h2 r hr)⟩
theorem k_X10_as (l : Launch) : ix_Ct l yX10_as cX10_as 3 (some .int) 60 sh_X10_as T_X10_as := by
  intro E x μ Q hE hok hT
  obtain ⟨a0, a1, a2⟩ := x
  obtain ⟨Q', h1, h2⟩ := hT
  exact ct_weak (ix_ct (T := fun (y : Nat × Int32 × Int32) ν P => ix_Ev o_X10_as P (0, ix_en (sh_X10_as y) 3, [], ν)) (a_X10_as l) rfl (by decide) (fun _ => Nat.le_of_ble_eq_true rfl) (fun _ _ _ _ h => h)) E (a0, a1, a2) μ Q Q' hE hok h1 h2
def oc_X10_as (n : Nat) : ix_Op := fun k _ ls st μ => match st with
  | .inl a2 :: .inl a1 :: .inr (.inr (t0, a0)) :: r => t0 = 9 ∧ ix_cs r ≤ 8 ∧ T_X10_as (a0, a1, a2) μ (fun q => k (n, ls, q.1.toList ++ r, q.2))
  | _ => False
theorem oc_X10_as_s {l : Launch} {cc : ByteArray} {nL : Nat} {own : String} {d : Nat} {rt : Option FieldType} {pc n : Nat} (h : ix_S l cc nL own d rt pc (ix_call 3 sh_X10_as T_X10_as n)) : ix_S l cc nL own d rt pc (oc_X10_as n) := by
  refine h.by (fun k Q ls st μ h => ?_) (fun k k' Q ls st μ hk h => ?_)
  · unfold oc_X10_as at h
    split at h
    · rename_i a2 a1 t0 a0 r
      obtain ⟨rfl, h1, h2⟩ := h
      exact ⟨h1, (a0, a1, a2), rfl, _, h2, fun r h => h⟩
    · exact h.elim
  · unfold oc_X10_as at h ⊢
    split at h
    · obtain ⟨rfl, h1, h2⟩ := h
      exact ⟨rfl, h1, mo_X10_as _ _ _ _ (fun q hq => hk _ hq) h2⟩
    · exact h.elim
def sh_X11_as (x : Nat × Int32 × Int32) : List ix_V := [vr 10 x.1, vi x.2.1, vi x.2.2]
def T_X11_as : Nat × Int32 × Int32 → ix_M → (ix_R → Prop) → Prop := fun (a0, a1, a2) μ Q => ∃ Q', ix_Ev o_X11_as Q' (0, [some (vr 10 a0), some (vi a1), some (vi a2)], [], μ) ∧ ∀ r, Q' r → Q r
theorem mo_X11_as (x : Nat × Int32 × Int32) (μ : ix_M) (Q Q' : ix_R → Prop) (h : ∀ r, Q r → Q' r) (hT : T_X11_as x μ Q) : T_X11_as x μ Q' := by
  obtain ⟨a0, a1, a2⟩ := x
  obtain ⟨P, h1, h2⟩ := hT
  exact ⟨P, h1, fun r hr => h r (h2 r hr)⟩
theorem k_X11_as (l : Launch) : ix_Ct l yX11_as cX11_as 3 (some .int) 60 sh_X11_as T_X11_as := by
  intro E x μ Q hE hok hT
  obtain ⟨a0, a1, a2⟩ := x
  obtain ⟨Q', h1, h2⟩ := hT
  exact ct_weak (ix_ct (T := fun (y : Nat × Int32 × Int32) ν P => ix_Ev o_X11_as P (0, ix_en (sh_X11_as y) 3, [], ν)) (a_X11_as l) rfl (by decide) (fun _ => Nat.le_of_ble_eq_true rfl) (fun _ _ _ _ h => h)) E (a0, a1, a2) μ Q Q' hE hok h1 h2
def oc_X11_as (n : Nat) : ix_Op := fun k _ ls st μ => match st with
  | .inl a2 :: .inl a1 :: .inr (.inr (t0, a0)) :: r => t0 = 10 ∧ ix_cs r ≤ 8 ∧ T_X11_as (a0, a1, a2) μ (fun q => k (n, ls, q.1.toList ++ r, q.2))
  | _ => False
theorem oc_X11_as_s {l : Launch} {cc : ByteArray} {nL : Nat} {own : String} {d : Nat} {rt : Option FieldType} {pc n : Nat} (h : ix_S l cc nL own d rt pc (ix_call 3 sh_X11_as T_X11_as n)) : ix_S l cc nL own d rt pc (oc_X11_as n) := by
  refine h.by (fun k Q ls st μ h => ?_) (fun k k' Q ls st μ hk h => ?_)
  · unfold oc_X11_as at h
    split at h
    · rename_i a2 a1 t0 a0 r
      obtain ⟨rfl, h1, h2⟩ := h
      exact ⟨h1, (a0, a1, a2), rfl, _, h2, fun r h => h⟩
    · exact h.elim
  · unfold oc_X11_as at h ⊢
    split at h
    · obtain ⟨rfl, h1, h2⟩ := h
      exact ⟨rfl, h1, mo_X11_as _ _ _ _ (fun q hq => hk _ hq) h2⟩
    · exact h.elim
def sh_X10_feed (x : Nat × Int64 × Int32) : List ix_V := [vr 9 x.1, vl x.2.1, vi x.2.2]
def T_X10_feed : Nat × Int64 × Int32 → ix_M → (ix_R → Prop) → Prop := fun (a0, a1, a2) μ Q => ∃ Q', ix_Ev o_X10_feed Q' (0, [some (vr 9 a0), some (vl a1), none, some (vi a2), none], [], μ) ∧ ∀ r, Q' r → Q r
theorem mo_X10_feed (x : Nat × Int64 × Int32) (μ : ix_M) (Q Q' : ix_R → Prop) (h : ∀ r, Q r → Q' r) (hT : T_X10_feed x μ Q) : T_X10_feed x μ Q' := by
  obtain ⟨a0, a1, a2⟩ := x
  obtain ⟨P, h1, h2⟩ := hT
  exact ⟨P, h1, fun r hr => h r (h2 r hr)⟩
theorem k_X10_feed (l : Launch) : ix_Ct l yX10_feed cX10_feed 5 (some .int) 60 sh_X10_feed T_X10_feed := by
  intro E x μ Q hE hok hT
  obtain ⟨a0, a1, a2⟩ := x
  obtain ⟨Q', h1, h2⟩ := hT
  exact ct_weak (ix_ct (T := fun (y : Nat × Int64 × Int32) ν P => ix_Ev o_X10_feed P (0, ix_en (sh_X10_feed y) 5, [], ν)) (a_X10_feed l) rfl (by decide) (fun _ => Nat.le_of_ble_eq_true rfl) (fun _ _ _ _ h => h)) E (a0, a1, a2) μ Q Q' hE hok h1 h2
def oc_X10_feed (n : Nat) : ix_Op := fun k _ ls st μ => match st with
  | .inl a2 :: .inr (.inl a1) :: .inr (.inr (t0, a0)) :: r => t0 = 9 ∧ ix_cs r ≤ 8 ∧ T_X10_feed (a0, a1, a2) μ (fun q => k (n, ls, q.1.toList ++ r, q.2))
  | _ => False
theorem oc_X10_feed_s {l : Launch} {cc : ByteArray} {nL : Nat} {own : String} {d : Nat} {rt : Option FieldType} {pc n : Nat} (h : ix_S l cc nL own d rt pc (ix_call 3 sh_X10_feed T_X10_feed n)) : ix_S l cc nL own d rt pc (oc_X10_feed n) := by
  refine h.by (fun k Q ls st μ h => ?_) (fun k k' Q ls st μ hk h => ?_)
  · unfold oc_X10_feed at h
    split at h
    · rename_i a2 a1 t0 a0 r
      obtain ⟨rfl, h1, h2⟩ := h
      exact ⟨h1, (a0, a1, a2), rfl, _, h2, fun r h => h⟩
    · exact h.elim
  · unfold oc_X10_feed at h ⊢
    split at h
    · obtain ⟨rfl, h1, h2⟩ := h
      exact ⟨rfl, h1, mo_X10_feed _ _ _ _ (fun q hq => hk _ hq) h2⟩
    · exact h.elim
def sh_X11_feed (x : Nat × Int64 × Int32) : List ix_V := [vr 10 x.1, vl x.2.1, vi x.2.2]
def T_X11_feed : Nat × Int64 × Int32 → ix_M → (ix_R → Prop) → Prop := fun (a0, a1, a2) μ Q => ∃ Q', ix_Ev o_X11_feed Q' (0, [some (vr 10 a0), some (vl a1), none, some (vi a2), none], [], μ) ∧ ∀ r, Q' r → Q r
theorem mo_X11_feed (x : Nat × Int64 × Int32) (μ : ix_M) (Q Q' : ix_R → Prop) (h : ∀ r, Q r → Q' r) (hT : T_X11_feed x μ Q) : T_X11_feed x μ Q' := by
  obtain ⟨a0, a1, a2⟩ := x
  obtain ⟨P, h1, h2⟩ := hT
  exact ⟨P, h1, fun r hr => h r (h2 r hr)⟩
theorem k_X11_feed (l : Launch) : ix_Ct l yX11_feed cX11_feed 5 (some .int) 60 sh_X11_feed T_X11_feed := by
  intro E x μ Q hE hok hT
  obtain ⟨a0, a1, a2⟩ := x
  obtain ⟨Q', h1, h2⟩ := hT
  exact ct_weak (ix_ct (T := fun (y : Nat × Int64 × Int32) ν P => ix_Ev o_X11_feed P (0, ix_en (sh_X11_feed y) 5, [], ν)) (a_X11_feed l) rfl (by decide) (fun _ => Nat.le_of_ble_eq_true rfl) (fun _ _ _ _ h => h)) E (a0, a1, a2) μ Q Q' hE hok h1 h2
def oc_X11_feed (n : Nat) : ix_Op := fun k _ ls st μ => match st with
  | .inl a2 :: .inr (.inl a1) :: .inr (.inr (t0, a0)) :: r => t0 = 10 ∧ ix_cs r ≤ 8 ∧ T_X11_feed (a0, a1, a2) μ (fun q => k (n, ls, q.1.toList ++ r, q.2))
  | _ => False
theorem oc_X11_feed_s {l : Launch} {cc : ByteArray} {nL : Nat} {own : String} {d : Nat} {rt : Option FieldType} {pc n : Nat} (h : ix_S l cc nL own d rt pc (ix_call 3 sh_X11_feed T_X11_feed n)) : ix_S l cc nL own d rt pc (oc_X11_feed n) := by
  refine h.by (fun k Q ls st μ h => ?_) (fun k k' Q ls st μ hk h => ?_)
  · unfold oc_X11_feed at h
    split at h
    · rename_i a2 a1 t0 a0 r
      obtain ⟨rfl, h1, h2⟩ := h
      exact ⟨h1, (a0, a1, a2), rfl, _, h2, fun r h => h⟩
    · exact h.elim
  · unfold oc_X11_feed at h ⊢
    split at h
    · obtain ⟨rfl, h1, h2⟩ := h
      exact ⟨rfl, h1, mo_X11_feed _ _ _ _ (fun q hq => hk _ hq) h2⟩
    · exact h.elim
def sh_X10_text (x : Nat × Int32) : List ix_V := [vr 9 x.1, vi x.2]
def T_X10_text : Nat × Int32 → ix_M → (ix_R → Prop) → Prop := fun (a0, a1) μ Q => ∃ Q', ix_Ev o_X10_text Q' (0, [some (vr 9 a0), some (vi a1), none], [], μ) ∧ ∀ r, Q' r → Q r
theorem mo_X10_text (x : Nat × Int32) (μ : ix_M) (Q Q' : ix_R → Prop) (h : ∀ r, Q r → Q' r) (hT : T_X10_text x μ Q) : T_X10_text x μ Q' := by
  obtain ⟨a0, a1⟩ := x
  obtain ⟨P, h1, h2⟩ := hT
  exact ⟨P, h1, fun r hr => h r (h2 r hr)⟩
theorem k_X10_text (l : Launch) : ix_Ct l yX10_text cX10_text 3 (some .int) 60 sh_X10_text T_X10_text := by
  intro E x μ Q hE hok hT
  obtain ⟨a0, a1⟩ := x
  obtain ⟨Q', h1, h2⟩ := hT
  exact ct_weak (ix_ct (T := fun (y : Nat × Int32) ν P => ix_Ev o_X10_text P (0, ix_en (sh_X10_text y) 3, [], ν)) (a_X10_text l) rfl (by decide) (fun _ => Nat.le_of_ble_eq_true rfl) (fun _ _ _ _ h => h)) E (a0, a1) μ Q Q' hE hok h1 h2
def oc_X10_text (n : Nat) : ix_Op := fun k _ ls st μ => match st with
  | .inl a1 :: .inr (.inr (t0, a0)) :: r => t0 = 9 ∧ ix_cs r ≤ 8 ∧ T_X10_text (a0, a1) μ (fun q => k (n, ls, q.1.toList ++ r, q.2))
  | _ => False
theorem oc_X10_text_s {l : Launch} {cc : ByteArray} {nL : Nat} {own : String} {d : Nat} {rt : Option FieldType} {pc n : Nat} (h : ix_S l cc nL own d rt pc (ix_call 2 sh_X10_text T_X10_text n)) : ix_S l cc nL own d rt pc (oc_X10_text n) := by
  refine h.by (fun k Q ls st μ h => ?_) (fun k k' Q ls st μ hk h => ?_)
  · unfold oc_X10_text at h
    split at h
    · rename_i a1 t0 a0 r
      obtain ⟨rfl, h1, h2⟩ := h
      exact ⟨h1, (a0, a1), rfl, _, h2, fun r h => h⟩
    · exact h.elim
  · unfold oc_X10_text at h ⊢
    split at h
    · obtain ⟨rfl, h1, h2⟩ := h
      exact ⟨rfl, h1, mo_X10_text _ _ _ _ (fun q hq => hk _ hq) h2⟩
    · exact h.elim
def sh_X11_text (x : Nat × Int32) : List ix_V := [vr 10 x.1, vi x.2]
def T_X11_text : Nat × Int32 → ix_M → (ix_R → Prop) → Prop := fun (a0, a1) μ Q => ∃ Q', ix_Ev o_X11_text Q' (0, [some (vr 10 a0), some (vi a1), none], [], μ) ∧ ∀ r, Q' r → Q r
theorem mo_X11_text (x : Nat × Int32) (μ : ix_M) (Q Q' : ix_R → Prop) (h : ∀ r, Q r → Q' r) (hT : T_X11_text x μ Q) : T_X11_text x μ Q' := by
  obtain ⟨a0, a1⟩ := x
  obtain ⟨P, h1, h2⟩ := hT
  exact ⟨P, h1, fun r hr => h r (h2 r hr)⟩
theorem k_X11_text (l : Launch) : ix_Ct l yX11_text cX11_text 3 (some .int) 60 sh_X11_text T_X11_text := by
  intro E x μ Q hE hok hT
  obtain ⟨a0, a1⟩ := x
  obtain ⟨Q', h1, h2⟩ := hT
  exact ct_weak (ix_ct (T := fun (y : Nat × Int32) ν P => ix_Ev o_X11_text P (0, ix_en (sh_X11_text y) 3, [], ν)) (a_X11_text l) rfl (by decide) (fun _ => Nat.le_of_ble_eq_true rfl) (fun _ _ _ _ h => h)) E (a0, a1) μ Q Q' hE hok h1 h2
def oc_X11_text (n : Nat) : ix_Op := fun k _ ls st μ => match st with
  | .inl a1 :: .inr (.inr (t0, a0)) :: r => t0 = 10 ∧ ix_cs r ≤ 8 ∧ T_X11_text (a0, a1) μ (fun q => k (n, ls, q.1.toList ++ r, q.2))
  | _ => False
theorem oc_X11_text_s {l : Launch} {cc : ByteArray} {nL : Nat} {own : String} {d : Nat} {rt : Option FieldType} {pc n : Nat} (h : ix_S l cc nL own d rt pc (ix_call 2 sh_X11_text T_X11_text n)) : ix_S l cc nL own d rt pc (oc_X11_text n) := by
  refine h.by (fun k Q ls st μ h => ?_) (fun k k' Q ls st μ hk h => ?_)
  · unfold oc_X11_text at h
    split at h
    · rename_i a1 t0 a0 r
      obtain ⟨rfl, h1, h2⟩ := h
      exact ⟨h1, (a0, a1), rfl, _, h2, fun r h => h⟩
    · exact h.elim
  · unfold oc_X11_text at h ⊢
    split at h
    · obtain ⟨rfl, h1, h2⟩ := h
      exact ⟨rfl, h1, mo_X11_text _ _ _ _ (fun q hq => hk _ hq) h2⟩
    · exact h.elim
def sh_X10_law (x : Nat × Int32 × Int32 × Int32 × Int32) : List ix_V := [vr 9 x.1, vi x.2.1, vi x.2.2.1, vi x.2.2.2.1, vi x.2.2.2.2]
def T_X10_law : Nat × Int32 × Int32 × Int32 × Int32 → ix_M → (ix_R → Prop) → Prop := fun (a0, a1, a2, a3, a4) μ Q => ∃ Q', ix_Ev o_X10_law Q' (0, [some (vr 9 a0), some (vi a1), some (vi a2), some (vi a3), some (vi a4)], [], μ) ∧ ∀ r, Q' r → Q r
theorem mo_X10_law (x : Nat × Int32 × Int32 × Int32 × Int32) (μ : ix_M) (Q Q' : ix_R → Prop) (h : ∀ r, Q r → Q' r) (hT : T_X10_law x μ Q) : T_X10_law x μ Q' := by
  obtain ⟨a0, a1, a2, a3, a4⟩ := x
  obtain ⟨P, h1, h2⟩ := hT
  exact ⟨P, h1, fun r hr => h r (h2 r hr)⟩
theorem k_X10_law (l : Launch) : ix_Ct l yX10_law cX10_law 5 (some .int) 60 sh_X10_law T_X10_law := by
  intro E x μ Q hE hok hT
  obtain ⟨a0, a1, a2, a3, a4⟩ := x
  obtain ⟨Q', h1, h2⟩ := hT
  exact ct_weak (ix_ct (T := fun (y : Nat × Int32 × Int32 × Int32 × Int32) ν P => ix_Ev o_X10_law P (0, ix_en (sh_X10_law y) 5, [], ν)) (a_X10_law l) rfl (by decide) (fun _ => Nat.le_of_ble_eq_true rfl) (fun _ _ _ _ h => h)) E (a0, a1, a2, a3, a4) μ Q Q' hE hok h1 h2
def oc_X10_law (n : Nat) : ix_Op := fun k _ ls st μ => match st with
  | .inl a4 :: .inl a3 :: .inl a2 :: .inl a1 :: .inr (.inr (t0, a0)) :: r => t0 = 9 ∧ ix_cs r ≤ 8 ∧ T_X10_law (a0, a1, a2, a3, a4) μ (fun q => k (n, ls, q.1.toList ++ r, q.2))
  | _ => False
theorem oc_X10_law_s {l : Launch} {cc : ByteArray} {nL : Nat} {own : String} {d : Nat} {rt : Option FieldType} {pc n : Nat} (h : ix_S l cc nL own d rt pc (ix_call 5 sh_X10_law T_X10_law n)) : ix_S l cc nL own d rt pc (oc_X10_law n) := by
  refine h.by (fun k Q ls st μ h => ?_) (fun k k' Q ls st μ hk h => ?_)
  · unfold oc_X10_law at h
    split at h
    · rename_i a4 a3 a2 a1 t0 a0 r
      obtain ⟨rfl, h1, h2⟩ := h
      exact ⟨h1, (a0, a1, a2, a3, a4), rfl, _, h2, fun r h => h⟩
    · exact h.elim
  · unfold oc_X10_law at h ⊢
    split at h
    · obtain ⟨rfl, h1, h2⟩ := h
      exact ⟨rfl, h1, mo_X10_law _ _ _ _ (fun q hq => hk _ hq) h2⟩
    · exact h.elim
def sh_X11_law (x : Nat × Int32 × Int32 × Int32 × Int32) : List ix_V := [vr 10 x.1, vi x.2.1, vi x.2.2.1, vi x.2.2.2.1, vi x.2.2.2.2]
def T_X11_law : Nat × Int32 × Int32 × Int32 × Int32 → ix_M → (ix_R → Prop) → Prop := fun (a0, a1, a2, a3, a4) μ Q => ∃ Q', ix_Ev o_X11_law Q' (0, [some (vr 10 a0), some (vi a1), some (vi a2), some (vi a3), some (vi a4)], [], μ) ∧ ∀ r, Q' r → Q r
theorem mo_X11_law (x : Nat × Int32 × Int32 × Int32 × Int32) (μ : ix_M) (Q Q' : ix_R → Prop) (h : ∀ r, Q r → Q' r) (hT : T_X11_law x μ Q) : T_X11_law x μ Q' := by
  obtain ⟨a0, a1, a2, a3, a4⟩ := x
  obtain ⟨P, h1, h2⟩ := hT
  exact ⟨P, h1, fun r hr => h r (h2 r hr)⟩
theorem k_X11_law (l : Launch) : ix_Ct l yX11_law cX11_law 5 (some .int) 60 sh_X11_law T_X11_law := by
  intro E x μ Q hE hok hT
  obtain ⟨a0, a1, a2, a3, a4⟩ := x
  obtain ⟨Q', h1, h2⟩ := hT
  exact ct_weak (ix_ct (T := fun (y : Nat × Int32 × Int32 × Int32 × Int32) ν P => ix_Ev o_X11_law P (0, ix_en (sh_X11_law y) 5, [], ν)) (a_X11_law l) rfl (by decide) (fun _ => Nat.le_of_ble_eq_true rfl) (fun _ _ _ _ h => h)) E (a0, a1, a2, a3, a4) μ Q Q' hE hok h1 h2
def oc_X11_law (n : Nat) : ix_Op := fun k _ ls st μ => match st with
  | .inl a4 :: .inl a3 :: .inl a2 :: .inl a1 :: .inr (.inr (t0, a0)) :: r => t0 = 10 ∧ ix_cs r ≤ 8 ∧ T_X11_law (a0, a1, a2, a3, a4) μ (fun q => k (n, ls, q.1.toList ++ r, q.2))
  | _ => False
theorem oc_X11_law_s {l : Launch} {cc : ByteArray} {nL : Nat} {own : String} {d : Nat} {rt : Option FieldType} {pc n : Nat} (h : ix_S l cc nL own d rt pc (ix_call 5 sh_X11_law T_X11_law n)) : ix_S l cc nL own d rt pc (oc_X11_law n) := by
  refine h.by (fun k Q ls st μ h => ?_) (fun k k' Q ls st μ hk h => ?_)
  · unfold oc_X11_law at h
    split at h
    · rename_i a4 a3 a2 a1 t0 a0 r
      obtain ⟨rfl, h1, h2⟩ := h
      exact ⟨h1, (a0, a1, a2, a3, a4), rfl, _, h2, fun r h => h⟩
    · exact h.elim
  · unfold oc_X11_law at h ⊢
    split at h
    · obtain ⟨rfl, h1, h2⟩ := h
      exact ⟨rfl, h1, mo_X11_law _ _ _ _ (fun q hq => hk _ hq) h2⟩
    · exact h.elim
def sh_X10_minutes (x : Nat × Int32) : List ix_V := [vr 9 x.1, vi x.2]
def T_X10_minutes : Nat × Int32 → ix_M → (ix_R → Prop) → Prop := fun (a0, a1) μ Q => ∃ Q', ix_Ev o_X10_minutes Q' (0, [some (vr 9 a0), some (vi a1)], [], μ) ∧ ∀ r, Q' r → Q r
theorem mo_X10_minutes (x : Nat × Int32) (μ : ix_M) (Q Q' : ix_R → Prop) (h : ∀ r, Q r → Q' r) (hT : T_X10_minutes x μ Q) : T_X10_minutes x μ Q' := by
  obtain ⟨a0, a1⟩ := x
  obtain ⟨P, h1, h2⟩ := hT
  exact ⟨P, h1, fun r hr => h r (h2 r hr)⟩
theorem k_X10_minutes (l : Launch) : ix_Ct l yX10_minutes cX10_minutes 2 (some .int) 60 sh_X10_minutes T_X10_minutes := by
  intro E x μ Q hE hok hT
  obtain ⟨a0, a1⟩ := x
  obtain ⟨Q', h1, h2⟩ := hT
  exact ct_weak (ix_ct (T := fun (y : Nat × Int32) ν P => ix_Ev o_X10_minutes P (0, ix_en (sh_X10_minutes y) 2, [], ν)) (a_X10_minutes l) rfl (by decide) (fun _ => Nat.le_of_ble_eq_true rfl) (fun _ _ _ _ h => h)) E (a0, a1) μ Q Q' hE hok h1 h2
def oc_X10_minutes (n : Nat) : ix_Op := fun k _ ls st μ => match st with
  | .inl a1 :: .inr (.inr (t0, a0)) :: r => t0 = 9 ∧ ix_cs r ≤ 8 ∧ T_X10_minutes (a0, a1) μ (fun q => k (n, ls, q.1.toList ++ r, q.2))
  | _ => False
theorem oc_X10_minutes_s {l : Launch} {cc : ByteArray} {nL : Nat} {own : String} {d : Nat} {rt : Option FieldType} {pc n : Nat} (h : ix_S l cc nL own d rt pc (ix_call 2 sh_X10_minutes T_X10_minutes n)) : ix_S l cc nL own d rt pc (oc_X10_minutes n) := by
  refine h.by (fun k Q ls st μ h => ?_) (fun k k' Q ls st μ hk h => ?_)
  · unfold oc_X10_minutes at h
    split at h
    · rename_i a1 t0 a0 r
      obtain ⟨rfl, h1, h2⟩ := h
      exact ⟨h1, (a0, a1), rfl, _, h2, fun r h => h⟩
    · exact h.elim
  · unfold oc_X10_minutes at h ⊢
    split at h
    · obtain ⟨rfl, h1, h2⟩ := h
      exact ⟨rfl, h1, mo_X10_minutes _ _ _ _ (fun q hq => hk _ hq) h2⟩
    · exact h.elim
def sh_X11_minutes (x : Nat × Int32) : List ix_V := [vr 10 x.1, vi x.2]
def T_X11_minutes : Nat × Int32 → ix_M → (ix_R → Prop) → Prop := fun (a0, a1) μ Q => ∃ Q', ix_Ev o_X11_minutes Q' (0, [some (vr 10 a0), some (vi a1)], [], μ) ∧ ∀ r, Q' r → Q r
theorem mo_X11_minutes (x : Nat × Int32) (μ : ix_M) (Q Q' : ix_R → Prop) (h : ∀ r, Q r → Q' r) (hT : T_X11_minutes x μ Q) : T_X11_minutes x μ Q' := by
  obtain ⟨a0, a1⟩ := x
  obtain ⟨P, h1, h2⟩ := hT
  exact ⟨P, h1, fun r hr => h r (h2 r hr)⟩
theorem k_X11_minutes (l : Launch) : ix_Ct l yX11_minutes cX11_minutes 2 (some .int) 60 sh_X11_minutes T_X11_minutes := by
  intro E x μ Q hE hok hT
  obtain ⟨a0, a1⟩ := x
  obtain ⟨Q', h1, h2⟩ := hT
  exact ct_weak (ix_ct (T := fun (y : Nat × Int32) ν P => ix_Ev o_X11_minutes P (0, ix_en (sh_X11_minutes y) 2, [], ν)) (a_X11_minutes l) rfl (by decide) (fun _ => Nat.le_of_ble_eq_true rfl) (fun _ _ _ _ h => h)) E (a0, a1) μ Q Q' hE hok h1 h2
def oc_X11_minutes (n : Nat) : ix_Op := fun k _ ls st μ => match st with
  | .inl a1 :: .inr (.inr (t0, a0)) :: r => t0 = 10 ∧ ix_cs r ≤ 8 ∧ T_X11_minutes (a0, a1) μ (fun q => k (n, ls, q.1.toList ++ r, q.2))
  | _ => False
theorem oc_X11_minutes_s {l : Launch} {cc : ByteArray} {nL : Nat} {own : String} {d : Nat} {rt : Option FieldType} {pc n : Nat} (h : ix_S l cc nL own d rt pc (ix_call 2 sh_X11_minutes T_X11_minutes n)) : ix_S l cc nL own d rt pc (oc_X11_minutes n) := by
  refine h.by (fun k Q ls st μ h => ?_) (fun k k' Q ls st μ hk h => ?_)
  · unfold oc_X11_minutes at h
    split at h
    · rename_i a1 t0 a0 r
      obtain ⟨rfl, h1, h2⟩ := h
      exact ⟨h1, (a0, a1), rfl, _, h2, fun r h => h⟩
    · exact h.elim
  · unfold oc_X11_minutes at h ⊢
    split at h
    · obtain ⟨rfl, h1, h2⟩ := h
      exact ⟨rfl, h1, mo_X11_minutes _ _ _ _ (fun q hq => hk _ hq) h2⟩
    · exact h.elim
def sh_X10_loose (x : Nat × Int32) : List ix_V := [vr 9 x.1, vi x.2]
def T_X10_loose : Nat × Int32 → ix_M → (ix_R → Prop) → Prop := fun (a0, a1) μ Q => ∃ Q', ix_Ev o_X10_loose Q' (0, [some (vr 9 a0), some (vi a1), none, none], [], μ) ∧ ∀ r, Q' r → Q r
theorem mo_X10_loose (x : Nat × Int32) (μ : ix_M) (Q Q' : ix_R → Prop) (h : ∀ r, Q r → Q' r) (hT : T_X10_loose x μ Q) : T_X10_loose x μ Q' := by
  obtain ⟨a0, a1⟩ := x
  obtain ⟨P, h1, h2⟩ := hT
  exact ⟨P, h1, fun r hr => h r (h2 r hr)⟩
theorem k_X10_loose (l : Launch) : ix_Ct l yX10_loose cX10_loose 4 (some .int) 60 sh_X10_loose T_X10_loose := by
  intro E x μ Q hE hok hT
  obtain ⟨a0, a1⟩ := x
  obtain ⟨Q', h1, h2⟩ := hT
  exact ct_weak (ix_ct (T := fun (y : Nat × Int32) ν P => ix_Ev o_X10_loose P (0, ix_en (sh_X10_loose y) 4, [], ν)) (a_X10_loose l) rfl (by decide) (fun _ => Nat.le_of_ble_eq_true rfl) (fun _ _ _ _ h => h)) E (a0, a1) μ Q Q' hE hok h1 h2
def oc_X10_loose (n : Nat) : ix_Op := fun k _ ls st μ => match st with
  | .inl a1 :: .inr (.inr (t0, a0)) :: r => t0 = 9 ∧ ix_cs r ≤ 8 ∧ T_X10_loose (a0, a1) μ (fun q => k (n, ls, q.1.toList ++ r, q.2))
  | _ => False
theorem oc_X10_loose_s {l : Launch} {cc : ByteArray} {nL : Nat} {own : String} {d : Nat} {rt : Option FieldType} {pc n : Nat} (h : ix_S l cc nL own d rt pc (ix_call 2 sh_X10_loose T_X10_loose n)) : ix_S l cc nL own d rt pc (oc_X10_loose n) := by
  refine h.by (fun k Q ls st μ h => ?_) (fun k k' Q ls st μ hk h => ?_)
  · unfold oc_X10_loose at h
    split at h
    · rename_i a1 t0 a0 r
      obtain ⟨rfl, h1, h2⟩ := h
      exact ⟨h1, (a0, a1), rfl, _, h2, fun r h => h⟩
    · exact h.elim
  · unfold oc_X10_loose at h ⊢
    split at h
    · obtain ⟨rfl, h1, h2⟩ := h
      exact ⟨rfl, h1, mo_X10_loose _ _ _ _ (fun q hq => hk _ hq) h2⟩
    · exact h.elim
def sh_X11_loose (x : Nat × Int32) : List ix_V := [vr 10 x.1, vi x.2]
def T_X11_loose : Nat × Int32 → ix_M → (ix_R → Prop) → Prop := fun (a0, a1) μ Q => ∃ Q', ix_Ev o_X11_loose Q' (0, [some (vr 10 a0), some (vi a1), none, none, none], [], μ) ∧ ∀ r, Q' r → Q r
theorem mo_X11_loose (x : Nat × Int32) (μ : ix_M) (Q Q' : ix_R → Prop) (h : ∀ r, Q r → Q' r) (hT : T_X11_loose x μ Q) : T_X11_loose x μ Q' := by
  obtain ⟨a0, a1⟩ := x
  obtain ⟨P, h1, h2⟩ := hT
  exact ⟨P, h1, fun r hr => h r (h2 r hr)⟩
theorem k_X11_loose (l : Launch) : ix_Ct l yX11_loose cX11_loose 5 (some .int) 60 sh_X11_loose T_X11_loose := by
  intro E x μ Q hE hok hT
  obtain ⟨a0, a1⟩ := x
  obtain ⟨Q', h1, h2⟩ := hT
  exact ct_weak (ix_ct (T := fun (y : Nat × Int32) ν P => ix_Ev o_X11_loose P (0, ix_en (sh_X11_loose y) 5, [], ν)) (a_X11_loose l) rfl (by decide) (fun _ => Nat.le_of_ble_eq_true rfl) (fun _ _ _ _ h => h)) E (a0, a1) μ Q Q' hE hok h1 h2
def oc_X11_loose (n : Nat) : ix_Op := fun k _ ls st μ => match st with
  | .inl a1 :: .inr (.inr (t0, a0)) :: r => t0 = 10 ∧ ix_cs r ≤ 8 ∧ T_X11_loose (a0, a1) μ (fun q => k (n, ls, q.1.toList ++ r, q.2))
  | _ => False
theorem oc_X11_loose_s {l : Launch} {cc : ByteArray} {nL : Nat} {own : String} {d : Nat} {rt : Option FieldType} {pc n : Nat} (h : ix_S l cc nL own d rt pc (ix_call 2 sh_X11_loose T_X11_loose n)) : ix_S l cc nL own d rt pc (oc_X11_loose n) := by
  refine h.by (fun k Q ls st μ h => ?_) (fun k k' Q ls st μ hk h => ?_)
  · unfold oc_X11_loose at h
    split at h
    · rename_i a1 t0 a0 r
      obtain ⟨rfl, h1, h2⟩ := h
      exact ⟨h1, (a0, a1), rfl, _, h2, fun r h => h⟩
    · exact h.elim
  · unfold oc_X11_loose at h ⊢
    split at h
    · obtain ⟨rfl, h1, h2⟩ := h
      exact ⟨rfl, h1, mo_X11_loose _ _ _ _ (fun q hq => hk _ hq) h2⟩
    · exact h.elim
def sh_X10_then (x : Nat × Int32 × Int32) : List ix_V := [vr 9 x.1, vi x.2.1, vi x.2.2]
def T_X10_then : Nat × Int32 × Int32 → ix_M → (ix_R → Prop) → Prop := fun (a0, a1, a2) μ Q => ∃ Q', ix_Ev o_X10_then Q' (0, [some (vr 9 a0), some (vi a1), some (vi a2), none, none], [], μ) ∧ ∀ r, Q' r → Q r
theorem mo_X10_then (x : Nat × Int32 × Int32) (μ : ix_M) (Q Q' : ix_R → Prop) (h : ∀ r, Q r → Q' r) (hT : T_X10_then x μ Q) : T_X10_then x μ Q' := by
  obtain ⟨a0, a1, a2⟩ := x
  obtain ⟨P, h1, h2⟩ := hT
  exact ⟨P, h1, fun r hr => h r (h2 r hr)⟩
theorem k_X10_then (l : Launch) : ix_Ct l yX10_then cX10_then 5 (some .int) 60 sh_X10_then T_X10_then := by
  intro E x μ Q hE hok hT
  obtain ⟨a0, a1, a2⟩ := x
  obtain ⟨Q', h1, h2⟩ := hT
  exact ct_weak (ix_ct (T := fun (y : Nat × Int32 × Int32) ν P => ix_Ev o_X10_then P (0, ix_en (sh_X10_then y) 5, [], ν)) (a_X10_then l) rfl (by decide) (fun _ => Nat.le_of_ble_eq_true rfl) (fun _ _ _ _ h => h)) E (a0, a1, a2) μ Q Q' hE hok h1 h2
def oc_X10_then (n : Nat) : ix_Op := fun k _ ls st μ => match st with
  | .inl a2 :: .inl a1 :: .inr (.inr (t0, a0)) :: r => t0 = 9 ∧ ix_cs r ≤ 8 ∧ T_X10_then (a0, a1, a2) μ (fun q => k (n, ls, q.1.toList ++ r, q.2))
  | _ => False
theorem oc_X10_then_s {l : Launch} {cc : ByteArray} {nL : Nat} {own : String} {d : Nat} {rt : Option FieldType} {pc n : Nat} (h : ix_S l cc nL own d rt pc (ix_call 3 sh_X10_then T_X10_then n)) : ix_S l cc nL own d rt pc (oc_X10_then n) := by
  refine h.by (fun k Q ls st μ h => ?_) (fun k k' Q ls st μ hk h => ?_)
  · unfold oc_X10_then at h
    split at h
    · rename_i a2 a1 t0 a0 r
      obtain ⟨rfl, h1, h2⟩ := h
      exact ⟨h1, (a0, a1, a2), rfl, _, h2, fun r h => h⟩
    · exact h.elim
  · unfold oc_X10_then at h ⊢
    split at h
    · obtain ⟨rfl, h1, h2⟩ := h
      exact ⟨rfl, h1, mo_X10_then _ _ _ _ (fun q hq => hk _ hq) h2⟩
    · exact h.elim
def sh_X11_then (x : Nat × Int32 × Int32) : List ix_V := [vr 10 x.1, vi x.2.1, vi x.2.2]
def T_X11_then : Nat × Int32 × Int32 → ix_M → (ix_R → Prop) → Prop := fun (a0, a1, a2) μ Q => ∃ Q', ix_Ev o_X11_then Q' (0, [some (vr 10 a0), some (vi a1), some (vi a2), none], [], μ) ∧ ∀ r, Q' r → Q r
theorem mo_X11_then (x : Nat × Int32 × Int32) (μ : ix_M) (Q Q' : ix_R → Prop) (h : ∀ r, Q r → Q' r) (hT : T_X11_then x μ Q) : T_X11_then x μ Q' := by
  obtain ⟨a0, a1, a2⟩ := x
  obtain ⟨P, h1, h2⟩ := hT
  exact ⟨P, h1, fun r hr => h r (h2 r hr)⟩
theorem k_X11_then (l : Launch) : ix_Ct l yX11_then cX11_then 4 (some .int) 60 sh_X11_then T_X11_then := by
  intro E x μ Q hE hok hT
  obtain ⟨a0, a1, a2⟩ := x
  obtain ⟨Q', h1, h2⟩ := hT
  exact ct_weak (ix_ct (T := fun (y : Nat × Int32 × Int32) ν P => ix_Ev o_X11_then P (0, ix_en (sh_X11_then y) 4, [], ν)) (a_X11_then l) rfl (by decide) (fun _ => Nat.le_of_ble_eq_true rfl) (fun _ _ _ _ h => h)) E (a0, a1, a2) μ Q Q' hE hok h1 h2
def oc_X11_then (n : Nat) : ix_Op := fun k _ ls st μ => match st with
  | .inl a2 :: .inl a1 :: .inr (.inr (t0, a0)) :: r => t0 = 10 ∧ ix_cs r ≤ 8 ∧ T_X11_then (a0, a1, a2) μ (fun q => k (n, ls, q.1.toList ++ r, q.2))
  | _ => False
theorem oc_X11_then_s {l : Launch} {cc : ByteArray} {nL : Nat} {own : String} {d : Nat} {rt : Option FieldType} {pc n : Nat} (h : ix_S l cc nL own d rt pc (ix_call 3 sh_X11_then T_X11_then n)) : ix_S l cc nL own d rt pc (oc_X11_then n) := by
  refine h.by (fun k Q ls st μ h => ?_) (fun k k' Q ls st μ hk h => ?_)
  · unfold oc_X11_then at h
    split at h
    · rename_i a2 a1 t0 a0 r
      obtain ⟨rfl, h1, h2⟩ := h
      exact ⟨h1, (a0, a1, a2), rfl, _, h2, fun r h => h⟩
    · exact h.elim
  · unfold oc_X11_then at h ⊢
    split at h
    · obtain ⟨rfl, h1, h2⟩ := h
      exact ⟨rfl, h1, mo_X11_then _ _ _ _ (fun q hq => hk _ hq) h2⟩
    · exact h.elim
def sh_X10_on (x : Nat × Int32 × Int32 × Int32) : List ix_V := [vr 9 x.1, vi x.2.1, vi x.2.2.1, vi x.2.2.2]
def T_X10_on : Nat × Int32 × Int32 × Int32 → ix_M → (ix_R → Prop) → Prop := fun (a0, a1, a2, a3) μ Q => ∃ Q', ix_Ev o_X10_on Q' (0, [some (vr 9 a0), some (vi a1), some (vi a2), some (vi a3), none], [], μ) ∧ ∀ r, Q' r → Q r
theorem mo_X10_on (x : Nat × Int32 × Int32 × Int32) (μ : ix_M) (Q Q' : ix_R → Prop) (h : ∀ r, Q r → Q' r) (hT : T_X10_on x μ Q) : T_X10_on x μ Q' := by
  obtain ⟨a0, a1, a2, a3⟩ := x
  obtain ⟨P, h1, h2⟩ := hT
  exact ⟨P, h1, fun r hr => h r (h2 r hr)⟩
theorem k_X10_on (l : Launch) : ix_Ct l yX10_on cX10_on 5 (some .int) 60 sh_X10_on T_X10_on := by
  intro E x μ Q hE hok hT
  obtain ⟨a0, a1, a2, a3⟩ := x
  obtain ⟨Q', h1, h2⟩ := hT
  exact ct_weak (ix_ct (T := fun (y : Nat × Int32 × Int32 × Int32) ν P => ix_Ev o_X10_on P (0, ix_en (sh_X10_on y) 5, [], ν)) (a_X10_on l) rfl (by decide) (fun _ => Nat.le_of_ble_eq_true rfl) (fun _ _ _ _ h => h)) E (a0, a1, a2, a3) μ Q Q' hE hok h1 h2
def oc_X10_on (n : Nat) : ix_Op := fun k _ ls st μ => match st with
  | .inl a3 :: .inl a2 :: .inl a1 :: .inr (.inr (t0, a0)) :: r => t0 = 9 ∧ ix_cs r ≤ 8 ∧ T_X10_on (a0, a1, a2, a3) μ (fun q => k (n, ls, q.1.toList ++ r, q.2))
  | _ => False
theorem oc_X10_on_s {l : Launch} {cc : ByteArray} {nL : Nat} {own : String} {d : Nat} {rt : Option FieldType} {pc n : Nat} (h : ix_S l cc nL own d rt pc (ix_call 4 sh_X10_on T_X10_on n)) : ix_S l cc nL own d rt pc (oc_X10_on n) := by
  refine h.by (fun k Q ls st μ h => ?_) (fun k k' Q ls st μ hk h => ?_)
  · unfold oc_X10_on at h
    split at h
    · rename_i a3 a2 a1 t0 a0 r
      obtain ⟨rfl, h1, h2⟩ := h
      exact ⟨h1, (a0, a1, a2, a3), rfl, _, h2, fun r h => h⟩
    · exact h.elim
  · unfold oc_X10_on at h ⊢
    split at h
    · obtain ⟨rfl, h1, h2⟩ := h
      exact ⟨rfl, h1, mo_X10_on _ _ _ _ (fun q hq => hk _ hq) h2⟩
    · exact h.elim
def sh_X11_on (x : Nat × Int32 × Int32 × Int32) : List ix_V := [vr 10 x.1, vi x.2.1, vi x.2.2.1, vi x.2.2.2]
def T_X11_on : Nat × Int32 × Int32 × Int32 → ix_M → (ix_R → Prop) → Prop := fun (a0, a1, a2, a3) μ Q => ∃ Q', ix_Ev o_X11_on Q' (0, [some (vr 10 a0), some (vi a1), some (vi a2), some (vi a3), none], [], μ) ∧ ∀ r, Q' r → Q r
theorem mo_X11_on (x : Nat × Int32 × Int32 × Int32) (μ : ix_M) (Q Q' : ix_R → Prop) (h : ∀ r, Q r → Q' r) (hT : T_X11_on x μ Q) : T_X11_on x μ Q' := by
  obtain ⟨a0, a1, a2, a3⟩ := x
  obtain ⟨P, h1, h2⟩ := hT
  exact ⟨P, h1, fun r hr => h r (h2 r hr)⟩
theorem k_X11_on (l : Launch) : ix_Ct l yX11_on cX11_on 5 (some .int) 60 sh_X11_on T_X11_on := by
  intro E x μ Q hE hok hT
  obtain ⟨a0, a1, a2, a3⟩ := x
  obtain ⟨Q', h1, h2⟩ := hT
  exact ct_weak (ix_ct (T := fun (y : Nat × Int32 × Int32 × Int32) ν P => ix_Ev o_X11_on P (0, ix_en (sh_X11_on y) 5, [], ν)) (a_X11_on l) rfl (by decide) (fun _ => Nat.le_of_ble_eq_true rfl) (fun _ _ _ _ h => h)) E (a0, a1, a2, a3) μ Q Q' hE hok h1 h2
def oc_X11_on (n : Nat) : ix_Op := fun k _ ls st μ => match st with
  | .inl a3 :: .inl a2 :: .inl a1 :: .inr (.inr (t0, a0)) :: r => t0 = 10 ∧ ix_cs r ≤ 8 ∧ T_X11_on (a0, a1, a2, a3) μ (fun q => k (n, ls, q.1.toList ++ r, q.2))
  | _ => False
theorem oc_X11_on_s {l : Launch} {cc : ByteArray} {nL : Nat} {own : String} {d : Nat} {rt : Option FieldType} {pc n : Nat} (h : ix_S l cc nL own d rt pc (ix_call 4 sh_X11_on T_X11_on n)) : ix_S l cc nL own d rt pc (oc_X11_on n) := by
  refine h.by (fun k Q ls st μ h => ?_) (fun k k' Q ls st μ hk h => ?_)
  · unfold oc_X11_on at h
    split at h
    · rename_i a3 a2 a1 t0 a0 r
      obtain ⟨rfl, h1, h2⟩ := h
      exact ⟨h1, (a0, a1, a2, a3), rfl, _, h2, fun r h => h⟩
    · exact h.elim
  · unfold oc_X11_on at h ⊢
    split at h
    · obtain ⟨rfl, h1, h2⟩ := h
      exact ⟨rfl, h1, mo_X11_on _ _ _ _ (fun q hq => hk _ hq) h2⟩
    · exact h.elim
def sh_X10_full (x : Nat × Int32 × Int32) : List ix_V := [vr 9 x.1, vi x.2.1, vi x.2.2]
def T_X10_full : Nat × Int32 × Int32 → ix_M → (ix_R → Prop) → Prop := fun (a0, a1, a2) μ Q => ∃ Q', ix_Ev o_X10_full Q' (0, [some (vr 9 a0), some (vi a1), some (vi a2), none, none], [], μ) ∧ ∀ r, Q' r → Q r
theorem mo_X10_full (x : Nat × Int32 × Int32) (μ : ix_M) (Q Q' : ix_R → Prop) (h : ∀ r, Q r → Q' r) (hT : T_X10_full x μ Q) : T_X10_full x μ Q' := by
  obtain ⟨a0, a1, a2⟩ := x
  obtain ⟨P, h1, h2⟩ := hT
  exact ⟨P, h1, fun r hr => h r (h2 r hr)⟩
theorem k_X10_full (l : Launch) : ix_Ct l yX10_full cX10_full 5 (some .int) 60 sh_X10_full T_X10_full := by
  intro E x μ Q hE hok hT
  obtain ⟨a0, a1, a2⟩ := x
  obtain ⟨Q', h1, h2⟩ := hT
  exact ct_weak (ix_ct (T := fun (y : Nat × Int32 × Int32) ν P => ix_Ev o_X10_full P (0, ix_en (sh_X10_full y) 5, [], ν)) (a_X10_full l) rfl (by decide) (fun _ => Nat.le_of_ble_eq_true rfl) (fun _ _ _ _ h => h)) E (a0, a1, a2) μ Q Q' hE hok h1 h2
def oc_X10_full (n : Nat) : ix_Op := fun k _ ls st μ => match st with
  | .inl a2 :: .inl a1 :: .inr (.inr (t0, a0)) :: r => t0 = 9 ∧ ix_cs r ≤ 8 ∧ T_X10_full (a0, a1, a2) μ (fun q => k (n, ls, q.1.toList ++ r, q.2))
  | _ => False
theorem oc_X10_full_s {l : Launch} {cc : ByteArray} {nL : Nat} {own : String} {d : Nat} {rt : Option FieldType} {pc n : Nat} (h : ix_S l cc nL own d rt pc (ix_call 3 sh_X10_full T_X10_full n)) : ix_S l cc nL own d rt pc (oc_X10_full n) := by
  refine h.by (fun k Q ls st μ h => ?_) (fun k k' Q ls st μ hk h => ?_)
  · unfold oc_X10_full at h
    split at h
    · rename_i a2 a1 t0 a0 r
      obtain ⟨rfl, h1, h2⟩ := h
      exact ⟨h1, (a0, a1, a2), rfl, _, h2, fun r h => h⟩
    · exact h.elim
  · unfold oc_X10_full at h ⊢
    split at h
    · obtain ⟨rfl, h1, h2⟩ := h
      exact ⟨rfl, h1, mo_X10_full _ _ _ _ (fun q hq => hk _ hq) h2⟩
    · exact h.elim
def sh_X11_full (x : Nat × Int32 × Int32) : List ix_V := [vr 10 x.1, vi x.2.1, vi x.2.2]
def T_X11_full : Nat × Int32 × Int32 → ix_M → (ix_R → Prop) → Prop := fun (a0, a1, a2) μ Q => ∃ Q', ix_Ev o_X11_full Q' (0, [some (vr 10 a0), some (vi a1), some (vi a2), none, none], [], μ) ∧ ∀ r, Q' r → Q r
theorem mo_X11_full (x : Nat × Int32 × Int32) (μ : ix_M) (Q Q' : ix_R → Prop) (h : ∀ r, Q r → Q' r) (hT : T_X11_full x μ Q) : T_X11_full x μ Q' := by
  obtain ⟨a0, a1, a2⟩ := x
  obtain ⟨P, h1, h2⟩ := hT
  exact ⟨P, h1, fun r hr => h r (h2 r hr)⟩
theorem k_X11_full (l : Launch) : ix_Ct l yX11_full cX11_full 5 (some .int) 60 sh_X11_full T_X11_full := by
  intro E x μ Q hE hok hT
  obtain ⟨a0, a1, a2⟩ := x
  obtain ⟨Q', h1, h2⟩ := hT
  exact ct_weak (ix_ct (T := fun (y : Nat × Int32 × Int32) ν P => ix_Ev o_X11_full P (0, ix_en (sh_X11_full y) 5, [], ν)) (a_X11_full l) rfl (by decide) (fun _ => Nat.le_of_ble_eq_true rfl) (fun _ _ _ _ h => h)) E (a0, a1, a2) μ Q Q' hE hok h1 h2
def oc_X11_full (n : Nat) : ix_Op := fun k _ ls st μ => match st with
  | .inl a2 :: .inl a1 :: .inr (.inr (t0, a0)) :: r => t0 = 10 ∧ ix_cs r ≤ 8 ∧ T_X11_full (a0, a1, a2) μ (fun q => k (n, ls, q.1.toList ++ r, q.2))
  | _ => False
theorem oc_X11_full_s {l : Launch} {cc : ByteArray} {nL : Nat} {own : String} {d : Nat} {rt : Option FieldType} {pc n : Nat} (h : ix_S l cc nL own d rt pc (ix_call 3 sh_X11_full T_X11_full n)) : ix_S l cc nL own d rt pc (oc_X11_full n) := by
  refine h.by (fun k Q ls st μ h => ?_) (fun k k' Q ls st μ hk h => ?_)
  · unfold oc_X11_full at h
    split at h
    · rename_i a2 a1 t0 a0 r
      obtain ⟨rfl, h1, h2⟩ := h
      exact ⟨h1, (a0, a1, a2), rfl, _, h2, fun r h => h⟩
    · exact h.elim
  · unfold oc_X11_full at h ⊢
    split at h
    · obtain ⟨rfl, h1, h2⟩ := h
      exact ⟨rfl, h1, mo_X11_full _ _ _ _ (fun q hq => hk _ hq) h2⟩
    · exact h.elim
def sh_X10_wayFor (x : Nat × Int32 × Int32) : List ix_V := [vr 9 x.1, vi x.2.1, vi x.2.2]
def T_X10_wayFor : Nat × Int32 × Int32 → ix_M → (ix_R → Prop) → Prop := fun (a0, a1, a2) μ Q => ∃ Q', ix_Ev o_X10_wayFor Q' (0, [some (vr 9 a0), some (vi a1), some (vi a2)], [], μ) ∧ ∀ r, Q' r → Q r
theorem mo_X10_wayFor (x : Nat × Int32 × Int32) (μ : ix_M) (Q Q' : ix_R → Prop) (h : ∀ r, Q r → Q' r) (hT : T_X10_wayFor x μ Q) : T_X10_wayFor x μ Q' := by
  obtain ⟨a0, a1, a2⟩ := x
  obtain ⟨P, h1, h2⟩ := hT
  exact ⟨P, h1, fun r hr => h r (h2 r hr)⟩
theorem k_X10_wayFor (l : Launch) : ix_Ct l yX10_wayFor cX10_wayFor 3 (some .int) 60 sh_X10_wayFor T_X10_wayFor := by
  intro E x μ Q hE hok hT
  obtain ⟨a0, a1, a2⟩ := x
  obtain ⟨Q', h1, h2⟩ := hT
  exact ct_weak (ix_ct (T := fun (y : Nat × Int32 × Int32) ν P => ix_Ev o_X10_wayFor P (0, ix_en (sh_X10_wayFor y) 3, [], ν)) (a_X10_wayFor l) rfl (by decide) (fun _ => Nat.le_of_ble_eq_true rfl) (fun _ _ _ _ h => h)) E (a0, a1, a2) μ Q Q' hE hok h1 h2
def oc_X10_wayFor (n : Nat) : ix_Op := fun k _ ls st μ => match st with
  | .inl a2 :: .inl a1 :: .inr (.inr (t0, a0)) :: r => t0 = 9 ∧ ix_cs r ≤ 8 ∧ T_X10_wayFor (a0, a1, a2) μ (fun q => k (n, ls, q.1.toList ++ r, q.2))
  | _ => False
theorem oc_X10_wayFor_s {l : Launch} {cc : ByteArray} {nL : Nat} {own : String} {d : Nat} {rt : Option FieldType} {pc n : Nat} (h : ix_S l cc nL own d rt pc (ix_call 3 sh_X10_wayFor T_X10_wayFor n)) : ix_S l cc nL own d rt pc (oc_X10_wayFor n) := by
  refine h.by (fun k Q ls st μ h => ?_) (fun k k' Q ls st μ hk h => ?_)
  · unfold oc_X10_wayFor at h
    split at h
    · rename_i a2 a1 t0 a0 r
      obtain ⟨rfl, h1, h2⟩ := h
      exact ⟨h1, (a0, a1, a2), rfl, _, h2, fun r h => h⟩
    · exact h.elim
  · unfold oc_X10_wayFor at h ⊢
    split at h
    · obtain ⟨rfl, h1, h2⟩ := h
      exact ⟨rfl, h1, mo_X10_wayFor _ _ _ _ (fun q hq => hk _ hq) h2⟩
    · exact h.elim
def sh_X11_wayFor (x : Nat × Int32 × Int32) : List ix_V := [vr 10 x.1, vi x.2.1, vi x.2.2]
def T_X11_wayFor : Nat × Int32 × Int32 → ix_M → (ix_R → Prop) → Prop := fun (a0, a1, a2) μ Q => ∃ Q', ix_Ev o_X11_wayFor Q' (0, [some (vr 10 a0), some (vi a1), some (vi a2)], [], μ) ∧ ∀ r, Q' r → Q r
theorem mo_X11_wayFor (x : Nat × Int32 × Int32) (μ : ix_M) (Q Q' : ix_R → Prop) (h : ∀ r, Q r → Q' r) (hT : T_X11_wayFor x μ Q) : T_X11_wayFor x μ Q' := by
  obtain ⟨a0, a1, a2⟩ := x
  obtain ⟨P, h1, h2⟩ := hT
  exact ⟨P, h1, fun r hr => h r (h2 r hr)⟩
theorem k_X11_wayFor (l : Launch) : ix_Ct l yX11_wayFor cX11_wayFor 3 (some .int) 60 sh_X11_wayFor T_X11_wayFor := by
  intro E x μ Q hE hok hT
  obtain ⟨a0, a1, a2⟩ := x
  obtain ⟨Q', h1, h2⟩ := hT
  exact ct_weak (ix_ct (T := fun (y : Nat × Int32 × Int32) ν P => ix_Ev o_X11_wayFor P (0, ix_en (sh_X11_wayFor y) 3, [], ν)) (a_X11_wayFor l) rfl (by decide) (fun _ => Nat.le_of_ble_eq_true rfl) (fun _ _ _ _ h => h)) E (a0, a1, a2) μ Q Q' hE hok h1 h2
def oc_X11_wayFor (n : Nat) : ix_Op := fun k _ ls st μ => match st with
  | .inl a2 :: .inl a1 :: .inr (.inr (t0, a0)) :: r => t0 = 10 ∧ ix_cs r ≤ 8 ∧ T_X11_wayFor (a0, a1, a2) μ (fun q => k (n, ls, q.1.toList ++ r, q.2))
  | _ => False
theorem oc_X11_wayFor_s {l : Launch} {cc : ByteArray} {nL : Nat} {own : String} {d : Nat} {rt : Option FieldType} {pc n : Nat} (h : ix_S l cc nL own d rt pc (ix_call 3 sh_X11_wayFor T_X11_wayFor n)) : ix_S l cc nL own d rt pc (oc_X11_wayFor n) := by
  refine h.by (fun k Q ls st μ h => ?_) (fun k k' Q ls st μ hk h => ?_)
  · unfold oc_X11_wayFor at h
    split at h
    · rename_i a2 a1 t0 a0 r
      obtain ⟨rfl, h1, h2⟩ := h
      exact ⟨h1, (a0, a1, a2), rfl, _, h2, fun r h => h⟩
    · exact h.elim
  · unfold oc_X11_wayFor at h ⊢
    split at h
    · obtain ⟨rfl, h1, h2⟩ := h
      exact ⟨rfl, h1, mo_X11_wayFor _ _ _ _ (fun q hq => hk _ hq) h2⟩
    · exact h.elim
def sh_X10_cellFor (x : Nat × Int32 × Int32) : List ix_V := [vr 9 x.1, vi x.2.1, vi x.2.2]
def T_X10_cellFor : Nat × Int32 × Int32 → ix_M → (ix_R → Prop) → Prop := fun (a0, a1, a2) μ Q => ∃ Q', ix_Ev o_X10_cellFor Q' (0, [some (vr 9 a0), some (vi a1), some (vi a2)], [], μ) ∧ ∀ r, Q' r → Q r
theorem mo_X10_cellFor (x : Nat × Int32 × Int32) (μ : ix_M) (Q Q' : ix_R → Prop) (h : ∀ r, Q r → Q' r) (hT : T_X10_cellFor x μ Q) : T_X10_cellFor x μ Q' := by
  obtain ⟨a0, a1, a2⟩ := x
  obtain ⟨P, h1, h2⟩ := hT
  exact ⟨P, h1, fun r hr => h r (h2 r hr)⟩
theorem k_X10_cellFor (l : Launch) : ix_Ct l yX10_cellFor cX10_cellFor 3 (some .int) 60 sh_X10_cellFor T_X10_cellFor := by
  intro E x μ Q hE hok hT
  obtain ⟨a0, a1, a2⟩ := x
  obtain ⟨Q', h1, h2⟩ := hT
  exact ct_weak (ix_ct (T := fun (y : Nat × Int32 × Int32) ν P => ix_Ev o_X10_cellFor P (0, ix_en (sh_X10_cellFor y) 3, [], ν)) (a_X10_cellFor l) rfl (by decide) (fun _ => Nat.le_of_ble_eq_true rfl) (fun _ _ _ _ h => h)) E (a0, a1, a2) μ Q Q' hE hok h1 h2
def oc_X10_cellFor (n : Nat) : ix_Op := fun k _ ls st μ => match st with
  | .inl a2 :: .inl a1 :: .inr (.inr (t0, a0)) :: r => t0 = 9 ∧ ix_cs r ≤ 8 ∧ T_X10_cellFor (a0, a1, a2) μ (fun q => k (n, ls, q.1.toList ++ r, q.2))
  | _ => False
theorem oc_X10_cellFor_s {l : Launch} {cc : ByteArray} {nL : Nat} {own : String} {d : Nat} {rt : Option FieldType} {pc n : Nat} (h : ix_S l cc nL own d rt pc (ix_call 3 sh_X10_cellFor T_X10_cellFor n)) : ix_S l cc nL own d rt pc (oc_X10_cellFor n) := by
  refine h.by (fun k Q ls st μ h => ?_) (fun k k' Q ls st μ hk h => ?_)
  · unfold oc_X10_cellFor at h
    split at h
    · rename_i a2 a1 t0 a0 r
      obtain ⟨rfl, h1, h2⟩ := h
      exact ⟨h1, (a0, a1, a2), rfl, _, h2, fun r h => h⟩
    · exact h.elim
  · unfold oc_X10_cellFor at h ⊢
    split at h
    · obtain ⟨rfl, h1, h2⟩ := h
      exact ⟨rfl, h1, mo_X10_cellFor _ _ _ _ (fun q hq => hk _ hq) h2⟩
    · exact h.elim
def sh_X11_cellFor (x : Nat × Int32 × Int32) : List ix_V := [vr 10 x.1, vi x.2.1, vi x.2.2]
def T_X11_cellFor : Nat × Int32 × Int32 → ix_M → (ix_R → Prop) → Prop := fun (a0, a1, a2) μ Q => ∃ Q', ix_Ev o_X11_cellFor Q' (0, [some (vr 10 a0), some (vi a1), some (vi a2)], [], μ) ∧ ∀ r, Q' r → Q r
theorem mo_X11_cellFor (x : Nat × Int32 × Int32) (μ : ix_M) (Q Q' : ix_R → Prop) (h : ∀ r, Q r → Q' r) (hT : T_X11_cellFor x μ Q) : T_X11_cellFor x μ Q' := by
  obtain ⟨a0, a1, a2⟩ := x
  obtain ⟨P, h1, h2⟩ := hT
  exact ⟨P, h1, fun r hr => h r (h2 r hr)⟩
theorem k_X11_cellFor (l : Launch) : ix_Ct l yX11_cellFor cX11_cellFor 3 (some .int) 60 sh_X11_cellFor T_X11_cellFor := by
  intro E x μ Q hE hok hT
  obtain ⟨a0, a1, a2⟩ := x
  obtain ⟨Q', h1, h2⟩ := hT
  exact ct_weak (ix_ct (T := fun (y : Nat × Int32 × Int32) ν P => ix_Ev o_X11_cellFor P (0, ix_en (sh_X11_cellFor y) 3, [], ν)) (a_X11_cellFor l) rfl (by decide) (fun _ => Nat.le_of_ble_eq_true rfl) (fun _ _ _ _ h => h)) E (a0, a1, a2) μ Q Q' hE hok h1 h2
def oc_X11_cellFor (n : Nat) : ix_Op := fun k _ ls st μ => match st with
  | .inl a2 :: .inl a1 :: .inr (.inr (t0, a0)) :: r => t0 = 10 ∧ ix_cs r ≤ 8 ∧ T_X11_cellFor (a0, a1, a2) μ (fun q => k (n, ls, q.1.toList ++ r, q.2))
  | _ => False
theorem oc_X11_cellFor_s {l : Launch} {cc : ByteArray} {nL : Nat} {own : String} {d : Nat} {rt : Option FieldType} {pc n : Nat} (h : ix_S l cc nL own d rt pc (ix_call 3 sh_X11_cellFor T_X11_cellFor n)) : ix_S l cc nL own d rt pc (oc_X11_cellFor n) := by
  refine h.by (fun k Q ls st μ h => ?_) (fun k k' Q ls st μ hk h => ?_)
  · unfold oc_X11_cellFor at h
    split at h
    · rename_i a2 a1 t0 a0 r
      obtain ⟨rfl, h1, h2⟩ := h
      exact ⟨h1, (a0, a1, a2), rfl, _, h2, fun r h => h⟩
    · exact h.elim
  · unfold oc_X11_cellFor at h ⊢
    split at h
    · obtain ⟨rfl, h1, h2⟩ := h
      exact ⟨rfl, h1, mo_X11_cellFor _ _ _ _ (fun q hq => hk _ hq) h2⟩
    · exact h.elim
def sh_X10_kindFor (x : Nat × Int32 × Int32) : List ix_V := [vr 9 x.1, vi x.2.1, vi x.2.2]
def T_X10_kindFor : Nat × Int32 × Int32 → ix_M → (ix_R → Prop) → Prop := fun (a0, a1, a2) μ Q => ∃ Q', ix_Ev o_X10_kindFor Q' (0, [some (vr 9 a0), some (vi a1), some (vi a2)], [], μ) ∧ ∀ r, Q' r → Q r
theorem mo_X10_kindFor (x : Nat × Int32 × Int32) (μ : ix_M) (Q Q' : ix_R → Prop) (h : ∀ r, Q r → Q' r) (hT : T_X10_kindFor x μ Q) : T_X10_kindFor x μ Q' := by
  obtain ⟨a0, a1, a2⟩ := x
  obtain ⟨P, h1, h2⟩ := hT
  exact ⟨P, h1, fun r hr => h r (h2 r hr)⟩
theorem k_X10_kindFor (l : Launch) : ix_Ct l yX10_kindFor cX10_kindFor 3 (some .int) 60 sh_X10_kindFor T_X10_kindFor := by
  intro E x μ Q hE hok hT
  obtain ⟨a0, a1, a2⟩ := x
  obtain ⟨Q', h1, h2⟩ := hT
  exact ct_weak (ix_ct (T := fun (y : Nat × Int32 × Int32) ν P => ix_Ev o_X10_kindFor P (0, ix_en (sh_X10_kindFor y) 3, [], ν)) (a_X10_kindFor l) rfl (by decide) (fun _ => Nat.le_of_ble_eq_true rfl) (fun _ _ _ _ h => h)) E (a0, a1, a2) μ Q Q' hE hok h1 h2
def oc_X10_kindFor (n : Nat) : ix_Op := fun k _ ls st μ => match st with
  | .inl a2 :: .inl a1 :: .inr (.inr (t0, a0)) :: r => t0 = 9 ∧ ix_cs r ≤ 8 ∧ T_X10_kindFor (a0, a1, a2) μ (fun q => k (n, ls, q.1.toList ++ r, q.2))
  | _ => False
theorem oc_X10_kindFor_s {l : Launch} {cc : ByteArray} {nL : Nat} {own : String} {d : Nat} {rt : Option FieldType} {pc n : Nat} (h : ix_S l cc nL own d rt pc (ix_call 3 sh_X10_kindFor T_X10_kindFor n)) : ix_S l cc nL own d rt pc (oc_X10_kindFor n) := by
  refine h.by (fun k Q ls st μ h => ?_) (fun k k' Q ls st μ hk h => ?_)
  · unfold oc_X10_kindFor at h
    split at h
    · rename_i a2 a1 t0 a0 r
      obtain ⟨rfl, h1, h2⟩ := h
      exact ⟨h1, (a0, a1, a2), rfl, _, h2, fun r h => h⟩
    · exact h.elim
  · unfold oc_X10_kindFor at h ⊢
    split at h
    · obtain ⟨rfl, h1, h2⟩ := h
      exact ⟨rfl, h1, mo_X10_kindFor _ _ _ _ (fun q hq => hk _ hq) h2⟩
    · exact h.elim
def sh_X11_kindFor (x : Nat × Int32 × Int32) : List ix_V := [vr 10 x.1, vi x.2.1, vi x.2.2]
def T_X11_kindFor : Nat × Int32 × Int32 → ix_M → (ix_R → Prop) → Prop := fun (a0, a1, a2) μ Q => ∃ Q', ix_Ev o_X11_kindFor Q' (0, [some (vr 10 a0), some (vi a1), some (vi a2)], [], μ) ∧ ∀ r, Q' r → Q r
theorem mo_X11_kindFor (x : Nat × Int32 × Int32) (μ : ix_M) (Q Q' : ix_R → Prop) (h : ∀ r, Q r → Q' r) (hT : T_X11_kindFor x μ Q) : T_X11_kindFor x μ Q' := by
  obtain ⟨a0, a1, a2⟩ := x
  obtain ⟨P, h1, h2⟩ := hT
  exact ⟨P, h1, fun r hr => h r (h2 r hr)⟩
theorem k_X11_kindFor (l : Launch) : ix_Ct l yX11_kindFor cX11_kindFor 3 (some .int) 60 sh_X11_kindFor T_X11_kindFor := by
  intro E x μ Q hE hok hT
  obtain ⟨a0, a1, a2⟩ := x
  obtain ⟨Q', h1, h2⟩ := hT
  exact ct_weak (ix_ct (T := fun (y : Nat × Int32 × Int32) ν P => ix_Ev o_X11_kindFor P (0, ix_en (sh_X11_kindFor y) 3, [], ν)) (a_X11_kindFor l) rfl (by decide) (fun _ => Nat.le_of_ble_eq_true rfl) (fun _ _ _ _ h => h)) E (a0, a1, a2) μ Q Q' hE hok h1 h2
def oc_X11_kindFor (n : Nat) : ix_Op := fun k _ ls st μ => match st with
  | .inl a2 :: .inl a1 :: .inr (.inr (t0, a0)) :: r => t0 = 10 ∧ ix_cs r ≤ 8 ∧ T_X11_kindFor (a0, a1, a2) μ (fun q => k (n, ls, q.1.toList ++ r, q.2))
  | _ => False
theorem oc_X11_kindFor_s {l : Launch} {cc : ByteArray} {nL : Nat} {own : String} {d : Nat} {rt : Option FieldType} {pc n : Nat} (h : ix_S l cc nL own d rt pc (ix_call 3 sh_X11_kindFor T_X11_kindFor n)) : ix_S l cc nL own d rt pc (oc_X11_kindFor n) := by
  refine h.by (fun k Q ls st μ h => ?_) (fun k k' Q ls st μ hk h => ?_)
  · unfold oc_X11_kindFor at h
    split at h
    · rename_i a2 a1 t0 a0 r
      obtain ⟨rfl, h1, h2⟩ := h
      exact ⟨h1, (a0, a1, a2), rfl, _, h2, fun r h => h⟩
    · exact h.elim
  · unfold oc_X11_kindFor at h ⊢
    split at h
    · obtain ⟨rfl, h1, h2⟩ := h
      exact ⟨rfl, h1, mo_X11_kindFor _ _ _ _ (fun q hq => hk _ hq) h2⟩
    · exact h.elim
def sh_X10_route (x : Nat × Int32 × Int32 × Int32) : List ix_V := [vr 9 x.1, vi x.2.1, vi x.2.2.1, vi x.2.2.2]
def T_X10_route : Nat × Int32 × Int32 × Int32 → ix_M → (ix_R → Prop) → Prop := fun (a0, a1, a2, a3) μ Q => ∃ Q', ix_Ev (o_X10_route T_tryR) Q' (0, [some (vr 9 a0), some (vi a1), some (vi a2), some (vi a3)], [], μ) ∧ ∀ r, Q' r → Q r
theorem mo_X10_route (x : Nat × Int32 × Int32 × Int32) (μ : ix_M) (Q Q' : ix_R → Prop) (h : ∀ r, Q r → Q' r) (hT : T_X10_route x μ Q) : T_X10_route x μ Q' := by
  obtain ⟨a0, a1, a2, a3⟩ := x
  obtain ⟨P, h1, h2⟩ := hT
  exact ⟨P, h1, fun r hr => h r (h2 r hr)⟩
theorem k_X10_route (l : Launch) : ix_Ct l yX10_route cX10_route 4 (some .int) 60 sh_X10_route T_X10_route := by
  intro E x μ Q hE hok hT
  obtain ⟨a0, a1, a2, a3⟩ := x
  obtain ⟨Q', h1, h2⟩ := hT
  exact ct_weak (ix_ct (T := fun (y : Nat × Int32 × Int32 × Int32) ν P => ix_Ev (o_X10_route T_tryR) P (0, ix_en (sh_X10_route y) 4, [], ν)) (a_X10_route l 60 (by decide) (k_tryR l) (by decide) mo_tryR) rfl (by decide) (fun _ => Nat.le_of_ble_eq_true rfl) (fun _ _ _ _ h => h)) E (a0, a1, a2, a3) μ Q Q' hE hok h1 h2
def oc_X10_route (n : Nat) : ix_Op := fun k _ ls st μ => match st with
  | .inl a3 :: .inl a2 :: .inl a1 :: .inr (.inr (t0, a0)) :: r => t0 = 9 ∧ ix_cs r ≤ 8 ∧ T_X10_route (a0, a1, a2, a3) μ (fun q => k (n, ls, q.1.toList ++ r, q.2))
  | _ => False
theorem oc_X10_route_s {l : Launch} {cc : ByteArray} {nL : Nat} {own : String} {d : Nat} {rt : Option FieldType} {pc n : Nat} (h : ix_S l cc nL own d rt pc (ix_call 4 sh_X10_route T_X10_route n)) : ix_S l cc nL own d rt pc (oc_X10_route n) := by
  refine h.by (fun k Q ls st μ h => ?_) (fun k k' Q ls st μ hk h => ?_)
  · unfold oc_X10_route at h
    split at h
    · rename_i a3 a2 a1 t0 a0 r
      obtain ⟨rfl, h1, h2⟩ := h
      exact ⟨h1, (a0, a1, a2, a3), rfl, _, h2, fun r h => h⟩
    · exact h.elim
  · unfold oc_X10_route at h ⊢
    split at h
    · obtain ⟨rfl, h1, h2⟩ := h
      exact ⟨rfl, h1, mo_X10_route _ _ _ _ (fun q hq => hk _ hq) h2⟩
    · exact h.elim
def sh_X11_route (x : Nat × Int32 × Int32 × Int32) : List ix_V := [vr 10 x.1, vi x.2.1, vi x.2.2.1, vi x.2.2.2]
def T_X11_route : Nat × Int32 × Int32 × Int32 → ix_M → (ix_R → Prop) → Prop := fun (a0, a1, a2, a3) μ Q => ∃ Q', ix_Ev o_X11_route Q' (0, [some (vr 10 a0), some (vi a1), some (vi a2), some (vi a3), none, none, none, none, none], [], μ) ∧ ∀ r, Q' r → Q r
theorem mo_X11_route (x : Nat × Int32 × Int32 × Int32) (μ : ix_M) (Q Q' : ix_R → Prop) (h : ∀ r, Q r → Q' r) (hT : T_X11_route x μ Q) : T_X11_route x μ Q' := by
  obtain ⟨a0, a1, a2, a3⟩ := x
  obtain ⟨P, h1, h2⟩ := hT
  exact ⟨P, h1, fun r hr => h r (h2 r hr)⟩
theorem k_X11_route (l : Launch) : ix_Ct l yX11_route cX11_route 9 (some .int) 60 sh_X11_route T_X11_route := by
  intro E x μ Q hE hok hT
  obtain ⟨a0, a1, a2, a3⟩ := x
  obtain ⟨Q', h1, h2⟩ := hT
  exact ct_weak (ix_ct (T := fun (y : Nat × Int32 × Int32 × Int32) ν P => ix_Ev o_X11_route P (0, ix_en (sh_X11_route y) 9, [], ν)) (a_X11_route l) rfl (by decide) (fun _ => Nat.le_of_ble_eq_true rfl) (fun _ _ _ _ h => h)) E (a0, a1, a2, a3) μ Q Q' hE hok h1 h2
def oc_X11_route (n : Nat) : ix_Op := fun k _ ls st μ => match st with
  | .inl a3 :: .inl a2 :: .inl a1 :: .inr (.inr (t0, a0)) :: r => t0 = 10 ∧ ix_cs r ≤ 8 ∧ T_X11_route (a0, a1, a2, a3) μ (fun q => k (n, ls, q.1.toList ++ r, q.2))
  | _ => False
theorem oc_X11_route_s {l : Launch} {cc : ByteArray} {nL : Nat} {own : String} {d : Nat} {rt : Option FieldType} {pc n : Nat} (h : ix_S l cc nL own d rt pc (ix_call 4 sh_X11_route T_X11_route n)) : ix_S l cc nL own d rt pc (oc_X11_route n) := by
  refine h.by (fun k Q ls st μ h => ?_) (fun k k' Q ls st μ hk h => ?_)
  · unfold oc_X11_route at h
    split at h
    · rename_i a3 a2 a1 t0 a0 r
      obtain ⟨rfl, h1, h2⟩ := h
      exact ⟨h1, (a0, a1, a2, a3), rfl, _, h2, fun r h => h⟩
    · exact h.elim
  · unfold oc_X11_route at h ⊢
    split at h
    · obtain ⟨rfl, h1, h2⟩ := h
      exact ⟨rfl, h1, mo_X11_route _ _ _ _ (fun q hq => hk _ hq) h2⟩
    · exact h.elim
def sh_X10_darkFor (x : Nat × Int32 × Int32) : List ix_V := [vr 9 x.1, vi x.2.1, vi x.2.2]
def T_X10_darkFor : Nat × Int32 × Int32 → ix_M → (ix_R → Prop) → Prop := fun (a0, a1, a2) μ Q => ∃ Q', ix_Ev o_X10_darkFor Q' (0, [some (vr 9 a0), some (vi a1), some (vi a2), none], [], μ) ∧ ∀ r, Q' r → Q r
theorem mo_X10_darkFor (x : Nat × Int32 × Int32) (μ : ix_M) (Q Q' : ix_R → Prop) (h : ∀ r, Q r → Q' r) (hT : T_X10_darkFor x μ Q) : T_X10_darkFor x μ Q' := by
  obtain ⟨a0, a1, a2⟩ := x
  obtain ⟨P, h1, h2⟩ := hT
  exact ⟨P, h1, fun r hr => h r (h2 r hr)⟩
theorem k_X10_darkFor (l : Launch) : ix_Ct l yX10_darkFor cX10_darkFor 4 (some .int) 60 sh_X10_darkFor T_X10_darkFor := by
  intro E x μ Q hE hok hT
  obtain ⟨a0, a1, a2⟩ := x
  obtain ⟨Q', h1, h2⟩ := hT
  exact ct_weak (ix_ct (T := fun (y : Nat × Int32 × Int32) ν P => ix_Ev o_X10_darkFor P (0, ix_en (sh_X10_darkFor y) 4, [], ν)) (a_X10_darkFor l) rfl (by decide) (fun _ => Nat.le_of_ble_eq_true rfl) (fun _ _ _ _ h => h)) E (a0, a1, a2) μ Q Q' hE hok h1 h2
def oc_X10_darkFor (n : Nat) : ix_Op := fun k _ ls st μ => match st with
  | .inl a2 :: .inl a1 :: .inr (.inr (t0, a0)) :: r => t0 = 9 ∧ ix_cs r ≤ 8 ∧ T_X10_darkFor (a0, a1, a2) μ (fun q => k (n, ls, q.1.toList ++ r, q.2))
  | _ => False
theorem oc_X10_darkFor_s {l : Launch} {cc : ByteArray} {nL : Nat} {own : String} {d : Nat} {rt : Option FieldType} {pc n : Nat} (h : ix_S l cc nL own d rt pc (ix_call 3 sh_X10_darkFor T_X10_darkFor n)) : ix_S l cc nL own d rt pc (oc_X10_darkFor n) := by
  refine h.by (fun k Q ls st μ h => ?_) (fun k k' Q ls st μ hk h => ?_)
  · unfold oc_X10_darkFor at h
    split at h
    · rename_i a2 a1 t0 a0 r
      obtain ⟨rfl, h1, h2⟩ := h
      exact ⟨h1, (a0, a1, a2), rfl, _, h2, fun r h => h⟩
    · exact h.elim
  · unfold oc_X10_darkFor at h ⊢
    split at h
    · obtain ⟨rfl, h1, h2⟩ := h
      exact ⟨rfl, h1, mo_X10_darkFor _ _ _ _ (fun q hq => hk _ hq) h2⟩
    · exact h.elim
def sh_X11_darkFor (x : Nat × Int32 × Int32) : List ix_V := [vr 10 x.1, vi x.2.1, vi x.2.2]
def T_X11_darkFor : Nat × Int32 × Int32 → ix_M → (ix_R → Prop) → Prop := fun (a0, a1, a2) μ Q => ∃ Q', ix_Ev o_X11_darkFor Q' (0, [some (vr 10 a0), some (vi a1), some (vi a2), none, none, none], [], μ) ∧ ∀ r, Q' r → Q r
theorem mo_X11_darkFor (x : Nat × Int32 × Int32) (μ : ix_M) (Q Q' : ix_R → Prop) (h : ∀ r, Q r → Q' r) (hT : T_X11_darkFor x μ Q) : T_X11_darkFor x μ Q' := by
  obtain ⟨a0, a1, a2⟩ := x
  obtain ⟨P, h1, h2⟩ := hT
  exact ⟨P, h1, fun r hr => h r (h2 r hr)⟩
theorem k_X11_darkFor (l : Launch) : ix_Ct l yX11_darkFor cX11_darkFor 6 (some .int) 60 sh_X11_darkFor T_X11_darkFor := by
  intro E x μ Q hE hok hT
  obtain ⟨a0, a1, a2⟩ := x
  obtain ⟨Q', h1, h2⟩ := hT
  exact ct_weak (ix_ct (T := fun (y : Nat × Int32 × Int32) ν P => ix_Ev o_X11_darkFor P (0, ix_en (sh_X11_darkFor y) 6, [], ν)) (a_X11_darkFor l) rfl (by decide) (fun _ => Nat.le_of_ble_eq_true rfl) (fun _ _ _ _ h => h)) E (a0, a1, a2) μ Q Q' hE hok h1 h2
def oc_X11_darkFor (n : Nat) : ix_Op := fun k _ ls st μ => match st with
  | .inl a2 :: .inl a1 :: .inr (.inr (t0, a0)) :: r => t0 = 10 ∧ ix_cs r ≤ 8 ∧ T_X11_darkFor (a0, a1, a2) μ (fun q => k (n, ls, q.1.toList ++ r, q.2))
  | _ => False
theorem oc_X11_darkFor_s {l : Launch} {cc : ByteArray} {nL : Nat} {own : String} {d : Nat} {rt : Option FieldType} {pc n : Nat} (h : ix_S l cc nL own d rt pc (ix_call 3 sh_X11_darkFor T_X11_darkFor n)) : ix_S l cc nL own d rt pc (oc_X11_darkFor n) := by
  refine h.by (fun k Q ls st μ h => ?_) (fun k k' Q ls st μ hk h => ?_)
  · unfold oc_X11_darkFor at h
    split at h
    · rename_i a2 a1 t0 a0 r
      obtain ⟨rfl, h1, h2⟩ := h
      exact ⟨h1, (a0, a1, a2), rfl, _, h2, fun r h => h⟩
    · exact h.elim
  · unfold oc_X11_darkFor at h ⊢
    split at h
    · obtain ⟨rfl, h1, h2⟩ := h
      exact ⟨rfl, h1, mo_X11_darkFor _ _ _ _ (fun q hq => hk _ hq) h2⟩
    · exact h.elim
def sh_X10_match (x : Nat × Int32) : List ix_V := [vr 9 x.1, vi x.2]
def T_X10_match : Nat × Int32 → ix_M → (ix_R → Prop) → Prop := fun (a0, a1) μ Q => ∃ Q', ix_Ev o_X10_match Q' (0, [some (vr 9 a0), some (vi a1)], [], μ) ∧ ∀ r, Q' r → Q r
theorem mo_X10_match (x : Nat × Int32) (μ : ix_M) (Q Q' : ix_R → Prop) (h : ∀ r, Q r → Q' r) (hT : T_X10_match x μ Q) : T_X10_match x μ Q' := by
  obtain ⟨a0, a1⟩ := x
  obtain ⟨P, h1, h2⟩ := hT
  exact ⟨P, h1, fun r hr => h r (h2 r hr)⟩
theorem k_X10_match (l : Launch) : ix_Ct l yX10_match cX10_match 2 (some .int) 60 sh_X10_match T_X10_match := by
  intro E x μ Q hE hok hT
  obtain ⟨a0, a1⟩ := x
  obtain ⟨Q', h1, h2⟩ := hT
  exact ct_weak (ix_ct (T := fun (y : Nat × Int32) ν P => ix_Ev o_X10_match P (0, ix_en (sh_X10_match y) 2, [], ν)) (a_X10_match l) rfl (by decide) (fun _ => Nat.le_of_ble_eq_true rfl) (fun _ _ _ _ h => h)) E (a0, a1) μ Q Q' hE hok h1 h2
def oc_X10_match (n : Nat) : ix_Op := fun k _ ls st μ => match st with
  | .inl a1 :: .inr (.inr (t0, a0)) :: r => t0 = 9 ∧ ix_cs r ≤ 8 ∧ T_X10_match (a0, a1) μ (fun q => k (n, ls, q.1.toList ++ r, q.2))
  | _ => False
theorem oc_X10_match_s {l : Launch} {cc : ByteArray} {nL : Nat} {own : String} {d : Nat} {rt : Option FieldType} {pc n : Nat} (h : ix_S l cc nL own d rt pc (ix_call 2 sh_X10_match T_X10_match n)) : ix_S l cc nL own d rt pc (oc_X10_match n) := by
  refine h.by (fun k Q ls st μ h => ?_) (fun k k' Q ls st μ hk h => ?_)
  · unfold oc_X10_match at h
    split at h
    · rename_i a1 t0 a0 r
      obtain ⟨rfl, h1, h2⟩ := h
      exact ⟨h1, (a0, a1), rfl, _, h2, fun r h => h⟩
    · exact h.elim
  · unfold oc_X10_match at h ⊢
    split at h
    · obtain ⟨rfl, h1, h2⟩ := h
      exact ⟨rfl, h1, mo_X10_match _ _ _ _ (fun q hq => hk _ hq) h2⟩
    · exact h.elim
def sh_X11_match (x : Nat × Int32) : List ix_V := [vr 10 x.1, vi x.2]
def T_X11_match : Nat × Int32 → ix_M → (ix_R → Prop) → Prop := fun (a0, a1) μ Q => ∃ Q', ix_Ev o_X11_match Q' (0, [some (vr 10 a0), some (vi a1), none, none, none], [], μ) ∧ ∀ r, Q' r → Q r
theorem mo_X11_match (x : Nat × Int32) (μ : ix_M) (Q Q' : ix_R → Prop) (h : ∀ r, Q r → Q' r) (hT : T_X11_match x μ Q) : T_X11_match x μ Q' := by
  obtain ⟨a0, a1⟩ := x
  obtain ⟨P, h1, h2⟩ := hT
  exact ⟨P, h1, fun r hr => h r (h2 r hr)⟩
theorem k_X11_match (l : Launch) : ix_Ct l yX11_match cX11_match 5 (some .int) 60 sh_X11_match T_X11_match := by
  intro E x μ Q hE hok hT
  obtain ⟨a0, a1⟩ := x
  obtain ⟨Q', h1, h2⟩ := hT
  exact ct_weak (ix_ct (T := fun (y : Nat × Int32) ν P => ix_Ev o_X11_match P (0, ix_en (sh_X11_match y) 5, [], ν)) (a_X11_match l) rfl (by decide) (fun _ => Nat.le_of_ble_eq_true rfl) (fun _ _ _ _ h => h)) E (a0, a1) μ Q Q' hE hok h1 h2
def oc_X11_match (n : Nat) : ix_Op := fun k _ ls st μ => match st with
  | .inl a1 :: .inr (.inr (t0, a0)) :: r => t0 = 10 ∧ ix_cs r ≤ 8 ∧ T_X11_match (a0, a1) μ (fun q => k (n, ls, q.1.toList ++ r, q.2))
  | _ => False
theorem oc_X11_match_s {l : Launch} {cc : ByteArray} {nL : Nat} {own : String} {d : Nat} {rt : Option FieldType} {pc n : Nat} (h : ix_S l cc nL own d rt pc (ix_call 2 sh_X11_match T_X11_match n)) : ix_S l cc nL own d rt pc (oc_X11_match n) := by
  refine h.by (fun k Q ls st μ h => ?_) (fun k k' Q ls st μ hk h => ?_)
  · unfold oc_X11_match at h
    split at h
    · rename_i a1 t0 a0 r
      obtain ⟨rfl, h1, h2⟩ := h
      exact ⟨h1, (a0, a1), rfl, _, h2, fun r h => h⟩
    · exact h.elim
  · unfold oc_X11_match at h ⊢
    split at h
    · obtain ⟨rfl, h1, h2⟩ := h
      exact ⟨rfl, h1, mo_X11_match _ _ _ _ (fun q hq => hk _ hq) h2⟩
    · exact h.elim
def sh_X10_blend (x : Nat × Int32) : List ix_V := [vr 9 x.1, vi x.2]
def T_X10_blend : Nat × Int32 → ix_M → (ix_R → Prop) → Prop := fun (a0, a1) μ Q => ∃ Q', ix_Ev o_X10_blend Q' (0, [some (vr 9 a0), some (vi a1), none, none, none, none, none, none], [], μ) ∧ ∀ r, Q' r → Q r
theorem mo_X10_blend (x : Nat × Int32) (μ : ix_M) (Q Q' : ix_R → Prop) (h : ∀ r, Q r → Q' r) (hT : T_X10_blend x μ Q) : T_X10_blend x μ Q' := by
  obtain ⟨a0, a1⟩ := x
  obtain ⟨P, h1, h2⟩ := hT
  exact ⟨P, h1, fun r hr => h r (h2 r hr)⟩
theorem k_X10_blend (l : Launch) : ix_Ct l yX10_blend cX10_blend 8 (some .int) 60 sh_X10_blend T_X10_blend := by
  intro E x μ Q hE hok hT
  obtain ⟨a0, a1⟩ := x
  obtain ⟨Q', h1, h2⟩ := hT
  exact ct_weak (ix_ct (T := fun (y : Nat × Int32) ν P => ix_Ev o_X10_blend P (0, ix_en (sh_X10_blend y) 8, [], ν)) (a_X10_blend l) rfl (by decide) (fun _ => Nat.le_of_ble_eq_true rfl) (fun _ _ _ _ h => h)) E (a0, a1) μ Q Q' hE hok h1 h2
def oc_X10_blend (n : Nat) : ix_Op := fun k _ ls st μ => match st with
  | .inl a1 :: .inr (.inr (t0, a0)) :: r => t0 = 9 ∧ ix_cs r ≤ 8 ∧ T_X10_blend (a0, a1) μ (fun q => k (n, ls, q.1.toList ++ r, q.2))
  | _ => False
theorem oc_X10_blend_s {l : Launch} {cc : ByteArray} {nL : Nat} {own : String} {d : Nat} {rt : Option FieldType} {pc n : Nat} (h : ix_S l cc nL own d rt pc (ix_call 2 sh_X10_blend T_X10_blend n)) : ix_S l cc nL own d rt pc (oc_X10_blend n) := by
  refine h.by (fun k Q ls st μ h => ?_) (fun k k' Q ls st μ hk h => ?_)
  · unfold oc_X10_blend at h
    split at h
    · rename_i a1 t0 a0 r
      obtain ⟨rfl, h1, h2⟩ := h
      exact ⟨h1, (a0, a1), rfl, _, h2, fun r h => h⟩
    · exact h.elim
  · unfold oc_X10_blend at h ⊢
    split at h
    · obtain ⟨rfl, h1, h2⟩ := h
      exact ⟨rfl, h1, mo_X10_blend _ _ _ _ (fun q hq => hk _ hq) h2⟩
    · exact h.elim
def sh_X11_blend (x : Nat × Int32) : List ix_V := [vr 10 x.1, vi x.2]
def T_X11_blend : Nat × Int32 → ix_M → (ix_R → Prop) → Prop := fun (a0, a1) μ Q => ∃ Q', ix_Ev o_X11_blend Q' (0, [some (vr 10 a0), some (vi a1), none, none, none, none, none], [], μ) ∧ ∀ r, Q' r → Q r
theorem mo_X11_blend (x : Nat × Int32) (μ : ix_M) (Q Q' : ix_R → Prop) (h : ∀ r, Q r → Q' r) (hT : T_X11_blend x μ Q) : T_X11_blend x μ Q' := by
  obtain ⟨a0, a1⟩ := x
  obtain ⟨P, h1, h2⟩ := hT
  exact ⟨P, h1, fun r hr => h r (h2 r hr)⟩
theorem k_X11_blend (l : Launch) : ix_Ct l yX11_blend cX11_blend 7 (some .int) 60 sh_X11_blend T_X11_blend := by
  intro E x μ Q hE hok hT
  obtain ⟨a0, a1⟩ := x
  obtain ⟨Q', h1, h2⟩ := hT
  exact ct_weak (ix_ct (T := fun (y : Nat × Int32) ν P => ix_Ev o_X11_blend P (0, ix_en (sh_X11_blend y) 7, [], ν)) (a_X11_blend l) rfl (by decide) (fun _ => Nat.le_of_ble_eq_true rfl) (fun _ _ _ _ h => h)) E (a0, a1) μ Q Q' hE hok h1 h2
def oc_X11_blend (n : Nat) : ix_Op := fun k _ ls st μ => match st with
  | .inl a1 :: .inr (.inr (t0, a0)) :: r => t0 = 10 ∧ ix_cs r ≤ 8 ∧ T_X11_blend (a0, a1) μ (fun q => k (n, ls, q.1.toList ++ r, q.2))
  | _ => False
theorem oc_X11_blend_s {l : Launch} {cc : ByteArray} {nL : Nat} {own : String} {d : Nat} {rt : Option FieldType} {pc n : Nat} (h : ix_S l cc nL own d rt pc (ix_call 2 sh_X11_blend T_X11_blend n)) : ix_S l cc nL own d rt pc (oc_X11_blend n) := by
  refine h.by (fun k Q ls st μ h => ?_) (fun k k' Q ls st μ hk h => ?_)
  · unfold oc_X11_blend at h
    split at h
    · rename_i a1 t0 a0 r
      obtain ⟨rfl, h1, h2⟩ := h
      exact ⟨h1, (a0, a1), rfl, _, h2, fun r h => h⟩
    · exact h.elim
  · unfold oc_X11_blend at h ⊢
    split at h
    · obtain ⟨rfl, h1, h2⟩ := h
      exact ⟨rfl, h1, mo_X11_blend _ _ _ _ (fun q hq => hk _ hq) h2⟩
    · exact h.elim
def sh_X10_which (x : Nat × Int32 × Int32) : List ix_V := [vr 9 x.1, vi x.2.1, vi x.2.2]
def T_X10_which : Nat × Int32 × Int32 → ix_M → (ix_R → Prop) → Prop := fun (a0, a1, a2) μ Q => ∃ Q', ix_Ev o_X10_which Q' (0, [some (vr 9 a0), some (vi a1), some (vi a2), none, none], [], μ) ∧ ∀ r, Q' r → Q r
theorem mo_X10_which (x : Nat × Int32 × Int32) (μ : ix_M) (Q Q' : ix_R → Prop) (h : ∀ r, Q r → Q' r) (hT : T_X10_which x μ Q) : T_X10_which x μ Q' := by
  obtain ⟨a0, a1, a2⟩ := x
  obtain ⟨P, h1, h2⟩ := hT
  exact ⟨P, h1, fun r hr => h r (h2 r hr)⟩
theorem k_X10_which (l : Launch) : ix_Ct l yX10_which cX10_which 5 (some .int) 60 sh_X10_which T_X10_which := by
  intro E x μ Q hE hok hT
  obtain ⟨a0, a1, a2⟩ := x
  obtain ⟨Q', h1, h2⟩ := hT
  exact ct_weak (ix_ct (T := fun (y : Nat × Int32 × Int32) ν P => ix_Ev o_X10_which P (0, ix_en (sh_X10_which y) 5, [], ν)) (a_X10_which l) rfl (by decide) (fun _ => Nat.le_of_ble_eq_true rfl) (fun _ _ _ _ h => h)) E (a0, a1, a2) μ Q Q' hE hok h1 h2
def oc_X10_which (n : Nat) : ix_Op := fun k _ ls st μ => match st with
  | .inl a2 :: .inl a1 :: .inr (.inr (t0, a0)) :: r => t0 = 9 ∧ ix_cs r ≤ 8 ∧ T_X10_which (a0, a1, a2) μ (fun q => k (n, ls, q.1.toList ++ r, q.2))
  | _ => False
theorem oc_X10_which_s {l : Launch} {cc : ByteArray} {nL : Nat} {own : String} {d : Nat} {rt : Option FieldType} {pc n : Nat} (h : ix_S l cc nL own d rt pc (ix_call 3 sh_X10_which T_X10_which n)) : ix_S l cc nL own d rt pc (oc_X10_which n) := by
  refine h.by (fun k Q ls st μ h => ?_) (fun k k' Q ls st μ hk h => ?_)
  · unfold oc_X10_which at h
    split at h
    · rename_i a2 a1 t0 a0 r
      obtain ⟨rfl, h1, h2⟩ := h
      exact ⟨h1, (a0, a1, a2), rfl, _, h2, fun r h => h⟩
    · exact h.elim
  · unfold oc_X10_which at h ⊢
    split at h
    · obtain ⟨rfl, h1, h2⟩ := h
      exact ⟨rfl, h1, mo_X10_which _ _ _ _ (fun q hq => hk _ hq) h2⟩
    · exact h.elim
def sh_X11_which (x : Nat × Int32 × Int32) : List ix_V := [vr 10 x.1, vi x.2.1, vi x.2.2]
def T_X11_which : Nat × Int32 × Int32 → ix_M → (ix_R → Prop) → Prop := fun (a0, a1, a2) μ Q => ∃ Q', ix_Ev o_X11_which Q' (0, [some (vr 10 a0), some (vi a1), some (vi a2), none, none, none], [], μ) ∧ ∀ r, Q' r → Q r
theorem mo_X11_which (x : Nat × Int32 × Int32) (μ : ix_M) (Q Q' : ix_R → Prop) (h : ∀ r, Q r → Q' r) (hT : T_X11_which x μ Q) : T_X11_which x μ Q' := by
  obtain ⟨a0, a1, a2⟩ := x
  obtain ⟨P, h1, h2⟩ := hT
  exact ⟨P, h1, fun r hr => h r (h2 r hr)⟩
theorem k_X11_which (l : Launch) : ix_Ct l yX11_which cX11_which 6 (some .int) 60 sh_X11_which T_X11_which := by
  intro E x μ Q hE hok hT
  obtain ⟨a0, a1, a2⟩ := x
  obtain ⟨Q', h1, h2⟩ := hT
  exact ct_weak (ix_ct (T := fun (y : Nat × Int32 × Int32) ν P => ix_Ev o_X11_which P (0, ix_en (sh_X11_which y) 6, [], ν)) (a_X11_which l) rfl (by decide) (fun _ => Nat.le_of_ble_eq_true rfl) (fun _ _ _ _ h => h)) E (a0, a1, a2) μ Q Q' hE hok h1 h2
def oc_X11_which (n : Nat) : ix_Op := fun k _ ls st μ => match st with
  | .inl a2 :: .inl a1 :: .inr (.inr (t0, a0)) :: r => t0 = 10 ∧ ix_cs r ≤ 8 ∧ T_X11_which (a0, a1, a2) μ (fun q => k (n, ls, q.1.toList ++ r, q.2))
  | _ => False
theorem oc_X11_which_s {l : Launch} {cc : ByteArray} {nL : Nat} {own : String} {d : Nat} {rt : Option FieldType} {pc n : Nat} (h : ix_S l cc nL own d rt pc (ix_call 3 sh_X11_which T_X11_which n)) : ix_S l cc nL own d rt pc (oc_X11_which n) := by
  refine h.by (fun k Q ls st μ h => ?_) (fun k k' Q ls st μ hk h => ?_)
  · unfold oc_X11_which at h
    split at h
    · rename_i a2 a1 t0 a0 r
      obtain ⟨rfl, h1, h2⟩ := h
      exact ⟨h1, (a0, a1, a2), rfl, _, h2, fun r h => h⟩
    · exact h.elim
  · unfold oc_X11_which at h ⊢
    split at h
    · obtain ⟨rfl, h1, h2⟩ := h
      exact ⟨rfl, h1, mo_X11_which _ _ _ _ (fun q hq => hk _ hq) h2⟩
    · exact h.elim
def sh_X10_lay (x : Nat × Int32 × Int32 × Int32) : List ix_V := [vr 9 x.1, vi x.2.1, vi x.2.2.1, vi x.2.2.2]
def T_X10_lay : Nat × Int32 × Int32 × Int32 → ix_M → (ix_R → Prop) → Prop := fun (a0, a1, a2, a3) μ Q => ∃ Q', ix_Ev o_X10_lay Q' (0, [some (vr 9 a0), some (vi a1), some (vi a2), some (vi a3), none, none], [], μ) ∧ ∀ r, Q' r → Q r
theorem mo_X10_lay (x : Nat × Int32 × Int32 × Int32) (μ : ix_M) (Q Q' : ix_R → Prop) (h : ∀ r, Q r → Q' r) (hT : T_X10_lay x μ Q) : T_X10_lay x μ Q' := by
  obtain ⟨a0, a1, a2, a3⟩ := x
  obtain ⟨P, h1, h2⟩ := hT
  exact ⟨P, h1, fun r hr => h r (h2 r hr)⟩
theorem k_X10_lay (l : Launch) : ix_Ct l yX10_lay cX10_lay 6 (some .int) 60 sh_X10_lay T_X10_lay := by
  intro E x μ Q hE hok hT
  obtain ⟨a0, a1, a2, a3⟩ := x
  obtain ⟨Q', h1, h2⟩ := hT
  exact ct_weak (ix_ct (T := fun (y : Nat × Int32 × Int32 × Int32) ν P => ix_Ev o_X10_lay P (0, ix_en (sh_X10_lay y) 6, [], ν)) (a_X10_lay l) rfl (by decide) (fun _ => Nat.le_of_ble_eq_true rfl) (fun _ _ _ _ h => h)) E (a0, a1, a2, a3) μ Q Q' hE hok h1 h2
def oc_X10_lay (n : Nat) : ix_Op := fun k _ ls st μ => match st with
  | .inl a3 :: .inl a2 :: .inl a1 :: .inr (.inr (t0, a0)) :: r => t0 = 9 ∧ ix_cs r ≤ 8 ∧ T_X10_lay (a0, a1, a2, a3) μ (fun q => k (n, ls, q.1.toList ++ r, q.2))
  | _ => False
theorem oc_X10_lay_s {l : Launch} {cc : ByteArray} {nL : Nat} {own : String} {d : Nat} {rt : Option FieldType} {pc n : Nat} (h : ix_S l cc nL own d rt pc (ix_call 4 sh_X10_lay T_X10_lay n)) : ix_S l cc nL own d rt pc (oc_X10_lay n) := by
  refine h.by (fun k Q ls st μ h => ?_) (fun k k' Q ls st μ hk h => ?_)
  · unfold oc_X10_lay at h
    split at h
    · rename_i a3 a2 a1 t0 a0 r
      obtain ⟨rfl, h1, h2⟩ := h
      exact ⟨h1, (a0, a1, a2, a3), rfl, _, h2, fun r h => h⟩
    · exact h.elim
  · unfold oc_X10_lay at h ⊢
    split at h
    · obtain ⟨rfl, h1, h2⟩ := h
      exact ⟨rfl, h1, mo_X10_lay _ _ _ _ (fun q hq => hk _ hq) h2⟩
    · exact h.elim
def sh_X11_lay (x : Nat × Int32 × Int32 × Int32) : List ix_V := [vr 10 x.1, vi x.2.1, vi x.2.2.1, vi x.2.2.2]
def T_X11_lay : Nat × Int32 × Int32 × Int32 → ix_M → (ix_R → Prop) → Prop := fun (a0, a1, a2, a3) μ Q => ∃ Q', ix_Ev o_X11_lay Q' (0, [some (vr 10 a0), some (vi a1), some (vi a2), some (vi a3), none, none, none, none, none], [], μ) ∧ ∀ r, Q' r → Q r
theorem mo_X11_lay (x : Nat × Int32 × Int32 × Int32) (μ : ix_M) (Q Q' : ix_R → Prop) (h : ∀ r, Q r → Q' r) (hT : T_X11_lay x μ Q) : T_X11_lay x μ Q' := by
  obtain ⟨a0, a1, a2, a3⟩ := x
  obtain ⟨P, h1, h2⟩ := hT
  exact ⟨P, h1, fun r hr => h r (h2 r hr)⟩
theorem k_X11_lay (l : Launch) : ix_Ct l yX11_lay cX11_lay 9 (some .int) 60 sh_X11_lay T_X11_lay := by
  intro E x μ Q hE hok hT
  obtain ⟨a0, a1, a2, a3⟩ := x
  obtain ⟨Q', h1, h2⟩ := hT
  exact ct_weak (ix_ct (T := fun (y : Nat × Int32 × Int32 × Int32) ν P => ix_Ev o_X11_lay P (0, ix_en (sh_X11_lay y) 9, [], ν)) (a_X11_lay l) rfl (by decide) (fun _ => Nat.le_of_ble_eq_true rfl) (fun _ _ _ _ h => h)) E (a0, a1, a2, a3) μ Q Q' hE hok h1 h2
def oc_X11_lay (n : Nat) : ix_Op := fun k _ ls st μ => match st with
  | .inl a3 :: .inl a2 :: .inl a1 :: .inr (.inr (t0, a0)) :: r => t0 = 10 ∧ ix_cs r ≤ 8 ∧ T_X11_lay (a0, a1, a2, a3) μ (fun q => k (n, ls, q.1.toList ++ r, q.2))
  | _ => False
theorem oc_X11_lay_s {l : Launch} {cc : ByteArray} {nL : Nat} {own : String} {d : Nat} {rt : Option FieldType} {pc n : Nat} (h : ix_S l cc nL own d rt pc (ix_call 4 sh_X11_lay T_X11_lay n)) : ix_S l cc nL own d rt pc (oc_X11_lay n) := by
  refine h.by (fun k Q ls st μ h => ?_) (fun k k' Q ls st μ hk h => ?_)
  · unfold oc_X11_lay at h
    split at h
    · rename_i a3 a2 a1 t0 a0 r
      obtain ⟨rfl, h1, h2⟩ := h
      exact ⟨h1, (a0, a1, a2, a3), rfl, _, h2, fun r h => h⟩
    · exact h.elim
  · unfold oc_X11_lay at h ⊢
    split at h
    · obtain ⟨rfl, h1, h2⟩ := h
      exact ⟨rfl, h1, mo_X11_lay _ _ _ _ (fun q hq => hk _ hq) h2⟩
    · exact h.elim
def sh_X10_odds (x : Nat × Int32 × Int32 × Int32) : List ix_V := [vr 9 x.1, vi x.2.1, vi x.2.2.1, vi x.2.2.2]
def T_X10_odds : Nat × Int32 × Int32 × Int32 → ix_M → (ix_R → Prop) → Prop := fun (a0, a1, a2, a3) μ Q => ∃ Q', ix_Ev o_X10_odds Q' (0, [some (vr 9 a0), some (vi a1), some (vi a2), some (vi a3), none, none], [], μ) ∧ ∀ r, Q' r → Q r
theorem mo_X10_odds (x : Nat × Int32 × Int32 × Int32) (μ : ix_M) (Q Q' : ix_R → Prop) (h : ∀ r, Q r → Q' r) (hT : T_X10_odds x μ Q) : T_X10_odds x μ Q' := by
  obtain ⟨a0, a1, a2, a3⟩ := x
  obtain ⟨P, h1, h2⟩ := hT
  exact ⟨P, h1, fun r hr => h r (h2 r hr)⟩
theorem k_X10_odds (l : Launch) : ix_Ct l yX10_odds cX10_odds 6 (some .int) 60 sh_X10_odds T_X10_odds := by
  intro E x μ Q hE hok hT
  obtain ⟨a0, a1, a2, a3⟩ := x
  obtain ⟨Q', h1, h2⟩ := hT
  exact ct_weak (ix_ct (T := fun (y : Nat × Int32 × Int32 × Int32) ν P => ix_Ev o_X10_odds P (0, ix_en (sh_X10_odds y) 6, [], ν)) (a_X10_odds l) rfl (by decide) (fun _ => Nat.le_of_ble_eq_true rfl) (fun _ _ _ _ h => h)) E (a0, a1, a2, a3) μ Q Q' hE hok h1 h2
def oc_X10_odds (n : Nat) : ix_Op := fun k _ ls st μ => match st with
  | .inl a3 :: .inl a2 :: .inl a1 :: .inr (.inr (t0, a0)) :: r => t0 = 9 ∧ ix_cs r ≤ 8 ∧ T_X10_odds (a0, a1, a2, a3) μ (fun q => k (n, ls, q.1.toList ++ r, q.2))
  | _ => False
theorem oc_X10_odds_s {l : Launch} {cc : ByteArray} {nL : Nat} {own : String} {d : Nat} {rt : Option FieldType} {pc n : Nat} (h : ix_S l cc nL own d rt pc (ix_call 4 sh_X10_odds T_X10_odds n)) : ix_S l cc nL own d rt pc (oc_X10_odds n) := by
  refine h.by (fun k Q ls st μ h => ?_) (fun k k' Q ls st μ hk h => ?_)
  · unfold oc_X10_odds at h
    split at h
    · rename_i a3 a2 a1 t0 a0 r
      obtain ⟨rfl, h1, h2⟩ := h
      exact ⟨h1, (a0, a1, a2, a3), rfl, _, h2, fun r h => h⟩
    · exact h.elim
  · unfold oc_X10_odds at h ⊢
    split at h
    · obtain ⟨rfl, h1, h2⟩ := h
      exact ⟨rfl, h1, mo_X10_odds _ _ _ _ (fun q hq => hk _ hq) h2⟩
    · exact h.elim
def sh_X11_odds (x : Nat × Int32 × Int32 × Int32) : List ix_V := [vr 10 x.1, vi x.2.1, vi x.2.2.1, vi x.2.2.2]
def T_X11_odds : Nat × Int32 × Int32 × Int32 → ix_M → (ix_R → Prop) → Prop := fun (a0, a1, a2, a3) μ Q => ∃ Q', ix_Ev o_X11_odds Q' (0, [some (vr 10 a0), some (vi a1), some (vi a2), some (vi a3), none, none, none, none, none], [], μ) ∧ ∀ r, Q' r → Q r
theorem mo_X11_odds (x : Nat × Int32 × Int32 × Int32) (μ : ix_M) (Q Q' : ix_R → Prop) (h : ∀ r, Q r → Q' r) (hT : T_X11_odds x μ Q) : T_X11_odds x μ Q' := by
  obtain ⟨a0, a1, a2, a3⟩ := x
  obtain ⟨P, h1, h2⟩ := hT
  exact ⟨P, h1, fun r hr => h r (h2 r hr)⟩
theorem k_X11_odds (l : Launch) : ix_Ct l yX11_odds cX11_odds 9 (some .int) 60 sh_X11_odds T_X11_odds := by
  intro E x μ Q hE hok hT
  obtain ⟨a0, a1, a2, a3⟩ := x
  obtain ⟨Q', h1, h2⟩ := hT
  exact ct_weak (ix_ct (T := fun (y : Nat × Int32 × Int32 × Int32) ν P => ix_Ev o_X11_odds P (0, ix_en (sh_X11_odds y) 9, [], ν)) (a_X11_odds l) rfl (by decide) (fun _ => Nat.le_of_ble_eq_true rfl) (fun _ _ _ _ h => h)) E (a0, a1, a2, a3) μ Q Q' hE hok h1 h2
def oc_X11_odds (n : Nat) : ix_Op := fun k _ ls st μ => match st with
  | .inl a3 :: .inl a2 :: .inl a1 :: .inr (.inr (t0, a0)) :: r => t0 = 10 ∧ ix_cs r ≤ 8 ∧ T_X11_odds (a0, a1, a2, a3) μ (fun q => k (n, ls, q.1.toList ++ r, q.2))
  | _ => False
theorem oc_X11_odds_s {l : Launch} {cc : ByteArray} {nL : Nat} {own : String} {d : Nat} {rt : Option FieldType} {pc n : Nat} (h : ix_S l cc nL own d rt pc (ix_call 4 sh_X11_odds T_X11_odds n)) : ix_S l cc nL own d rt pc (oc_X11_odds n) := by
  refine h.by (fun k Q ls st μ h => ?_) (fun k k' Q ls st μ hk h => ?_)
  · unfold oc_X11_odds at h
    split at h
    · rename_i a3 a2 a1 t0 a0 r
      obtain ⟨rfl, h1, h2⟩ := h
      exact ⟨h1, (a0, a1, a2, a3), rfl, _, h2, fun r h => h⟩
    · exact h.elim
  · unfold oc_X11_odds at h ⊢
    split at h
    · obtain ⟨rfl, h1, h2⟩ := h
      exact ⟨rfl, h1, mo_X11_odds _ _ _ _ (fun q hq => hk _ hq) h2⟩
    · exact h.elim
def sh_X10_seed (x : Nat × Int32) : List ix_V := [vr 9 x.1, vi x.2]
def T_X10_seed : Nat × Int32 → ix_M → (ix_R → Prop) → Prop := fun (a0, a1) μ Q => ∃ Q', ix_Ev o_X10_seed Q' (0, [some (vr 9 a0), some (vi a1), none], [], μ) ∧ ∀ r, Q' r → Q r
theorem mo_X10_seed (x : Nat × Int32) (μ : ix_M) (Q Q' : ix_R → Prop) (h : ∀ r, Q r → Q' r) (hT : T_X10_seed x μ Q) : T_X10_seed x μ Q' := by
  obtain ⟨a0, a1⟩ := x
  obtain ⟨P, h1, h2⟩ := hT
  exact ⟨P, h1, fun r hr => h r (h2 r hr)⟩
theorem k_X10_seed (l : Launch) : ix_Ct l yX10_seed cX10_seed 3 (some .int) 60 sh_X10_seed T_X10_seed := by
  intro E x μ Q hE hok hT
  obtain ⟨a0, a1⟩ := x
  obtain ⟨Q', h1, h2⟩ := hT
  exact ct_weak (ix_ct (T := fun (y : Nat × Int32) ν P => ix_Ev o_X10_seed P (0, ix_en (sh_X10_seed y) 3, [], ν)) (a_X10_seed l) rfl (by decide) (fun _ => Nat.le_of_ble_eq_true rfl) (fun _ _ _ _ h => h)) E (a0, a1) μ Q Q' hE hok h1 h2
def oc_X10_seed (n : Nat) : ix_Op := fun k _ ls st μ => match st with
  | .inl a1 :: .inr (.inr (t0, a0)) :: r => t0 = 9 ∧ ix_cs r ≤ 8 ∧ T_X10_seed (a0, a1) μ (fun q => k (n, ls, q.1.toList ++ r, q.2))
  | _ => False
theorem oc_X10_seed_s {l : Launch} {cc : ByteArray} {nL : Nat} {own : String} {d : Nat} {rt : Option FieldType} {pc n : Nat} (h : ix_S l cc nL own d rt pc (ix_call 2 sh_X10_seed T_X10_seed n)) : ix_S l cc nL own d rt pc (oc_X10_seed n) := by
  refine h.by (fun k Q ls st μ h => ?_) (fun k k' Q ls st μ hk h => ?_)
  · unfold oc_X10_seed at h
    split at h
    · rename_i a1 t0 a0 r
      obtain ⟨rfl, h1, h2⟩ := h
      exact ⟨h1, (a0, a1), rfl, _, h2, fun r h => h⟩
    · exact h.elim
  · unfold oc_X10_seed at h ⊢
    split at h
    · obtain ⟨rfl, h1, h2⟩ := h
      exact ⟨rfl, h1, mo_X10_seed _ _ _ _ (fun q hq => hk _ hq) h2⟩
    · exact h.elim
def sh_X11_seed (x : Nat × Int32) : List ix_V := [vr 10 x.1, vi x.2]
def T_X11_seed : Nat × Int32 → ix_M → (ix_R → Prop) → Prop := fun (a0, a1) μ Q => ∃ Q', ix_Ev o_X11_seed Q' (0, [some (vr 10 a0), some (vi a1)], [], μ) ∧ ∀ r, Q' r → Q r
theorem mo_X11_seed (x : Nat × Int32) (μ : ix_M) (Q Q' : ix_R → Prop) (h : ∀ r, Q r → Q' r) (hT : T_X11_seed x μ Q) : T_X11_seed x μ Q' := by
  obtain ⟨a0, a1⟩ := x
  obtain ⟨P, h1, h2⟩ := hT
  exact ⟨P, h1, fun r hr => h r (h2 r hr)⟩
theorem k_X11_seed (l : Launch) : ix_Ct l yX11_seed cX11_seed 2 (some .int) 60 sh_X11_seed T_X11_seed := by
  intro E x μ Q hE hok hT
  obtain ⟨a0, a1⟩ := x
  obtain ⟨Q', h1, h2⟩ := hT
  exact ct_weak (ix_ct (T := fun (y : Nat × Int32) ν P => ix_Ev o_X11_seed P (0, ix_en (sh_X11_seed y) 2, [], ν)) (a_X11_seed l) rfl (by decide) (fun _ => Nat.le_of_ble_eq_true rfl) (fun _ _ _ _ h => h)) E (a0, a1) μ Q Q' hE hok h1 h2
def oc_X11_seed (n : Nat) : ix_Op := fun k _ ls st μ => match st with
  | .inl a1 :: .inr (.inr (t0, a0)) :: r => t0 = 10 ∧ ix_cs r ≤ 8 ∧ T_X11_seed (a0, a1) μ (fun q => k (n, ls, q.1.toList ++ r, q.2))
  | _ => False
theorem oc_X11_seed_s {l : Launch} {cc : ByteArray} {nL : Nat} {own : String} {d : Nat} {rt : Option FieldType} {pc n : Nat} (h : ix_S l cc nL own d rt pc (ix_call 2 sh_X11_seed T_X11_seed n)) : ix_S l cc nL own d rt pc (oc_X11_seed n) := by
  refine h.by (fun k Q ls st μ h => ?_) (fun k k' Q ls st μ hk h => ?_)
  · unfold oc_X11_seed at h
    split at h
    · rename_i a1 t0 a0 r
      obtain ⟨rfl, h1, h2⟩ := h
      exact ⟨h1, (a0, a1), rfl, _, h2, fun r h => h⟩
    · exact h.elim
  · unfold oc_X11_seed at h ⊢
    split at h
    · obtain ⟨rfl, h1, h2⟩ := h
      exact ⟨rfl, h1, mo_X11_seed _ _ _ _ (fun q hq => hk _ hq) h2⟩
    · exact h.elim
def sh_X10_voice (x : Nat × Int32 × Int32 × Int32) : List ix_V := [vr 9 x.1, vi x.2.1, vi x.2.2.1, vi x.2.2.2]
def T_X10_voice : Nat × Int32 × Int32 × Int32 → ix_M → (ix_R → Prop) → Prop := fun (a0, a1, a2, a3) μ Q => ∃ Q', ix_Ev o_X10_voice Q' (0, [some (vr 9 a0), some (vi a1), some (vi a2), some (vi a3)], [], μ) ∧ ∀ r, Q' r → Q r
theorem mo_X10_voice (x : Nat × Int32 × Int32 × Int32) (μ : ix_M) (Q Q' : ix_R → Prop) (h : ∀ r, Q r → Q' r) (hT : T_X10_voice x μ Q) : T_X10_voice x μ Q' := by
  obtain ⟨a0, a1, a2, a3⟩ := x
  obtain ⟨P, h1, h2⟩ := hT
  exact ⟨P, h1, fun r hr => h r (h2 r hr)⟩
theorem k_X10_voice (l : Launch) : ix_Ct l yX10_voice cX10_voice 4 (some .int) 60 sh_X10_voice T_X10_voice := by
  intro E x μ Q hE hok hT
  obtain ⟨a0, a1, a2, a3⟩ := x
  obtain ⟨Q', h1, h2⟩ := hT
  exact ct_weak (ix_ct (T := fun (y : Nat × Int32 × Int32 × Int32) ν P => ix_Ev o_X10_voice P (0, ix_en (sh_X10_voice y) 4, [], ν)) (a_X10_voice l) rfl (by decide) (fun _ => Nat.le_of_ble_eq_true rfl) (fun _ _ _ _ h => h)) E (a0, a1, a2, a3) μ Q Q' hE hok h1 h2
def oc_X10_voice (n : Nat) : ix_Op := fun k _ ls st μ => match st with
  | .inl a3 :: .inl a2 :: .inl a1 :: .inr (.inr (t0, a0)) :: r => t0 = 9 ∧ ix_cs r ≤ 8 ∧ T_X10_voice (a0, a1, a2, a3) μ (fun q => k (n, ls, q.1.toList ++ r, q.2))
  | _ => False
theorem oc_X10_voice_s {l : Launch} {cc : ByteArray} {nL : Nat} {own : String} {d : Nat} {rt : Option FieldType} {pc n : Nat} (h : ix_S l cc nL own d rt pc (ix_call 4 sh_X10_voice T_X10_voice n)) : ix_S l cc nL own d rt pc (oc_X10_voice n) := by
  refine h.by (fun k Q ls st μ h => ?_) (fun k k' Q ls st μ hk h => ?_)
  · unfold oc_X10_voice at h
    split at h
    · rename_i a3 a2 a1 t0 a0 r
      obtain ⟨rfl, h1, h2⟩ := h
      exact ⟨h1, (a0, a1, a2, a3), rfl, _, h2, fun r h => h⟩
    · exact h.elim
  · unfold oc_X10_voice at h ⊢
    split at h
    · obtain ⟨rfl, h1, h2⟩ := h
      exact ⟨rfl, h1, mo_X10_voice _ _ _ _ (fun q hq => hk _ hq) h2⟩
    · exact h.elim
def sh_X11_voice (x : Nat × Int32 × Int32 × Int32) : List ix_V := [vr 10 x.1, vi x.2.1, vi x.2.2.1, vi x.2.2.2]
def T_X11_voice : Nat × Int32 × Int32 × Int32 → ix_M → (ix_R → Prop) → Prop := fun (a0, a1, a2, a3) μ Q => ∃ Q', ix_Ev o_X11_voice Q' (0, [some (vr 10 a0), some (vi a1), some (vi a2), some (vi a3)], [], μ) ∧ ∀ r, Q' r → Q r
theorem mo_X11_voice (x : Nat × Int32 × Int32 × Int32) (μ : ix_M) (Q Q' : ix_R → Prop) (h : ∀ r, Q r → Q' r) (hT : T_X11_voice x μ Q) : T_X11_voice x μ Q' := by
  obtain ⟨a0, a1, a2, a3⟩ := x
  obtain ⟨P, h1, h2⟩ := hT
  exact ⟨P, h1, fun r hr => h r (h2 r hr)⟩
theorem k_X11_voice (l : Launch) : ix_Ct l yX11_voice cX11_voice 4 (some .int) 60 sh_X11_voice T_X11_voice := by
  intro E x μ Q hE hok hT
  obtain ⟨a0, a1, a2, a3⟩ := x
  obtain ⟨Q', h1, h2⟩ := hT
  exact ct_weak (ix_ct (T := fun (y : Nat × Int32 × Int32 × Int32) ν P => ix_Ev o_X11_voice P (0, ix_en (sh_X11_voice y) 4, [], ν)) (a_X11_voice l) rfl (by decide) (fun _ => Nat.le_of_ble_eq_true rfl) (fun _ _ _ _ h => h)) E (a0, a1, a2, a3) μ Q Q' hE hok h1 h2
def oc_X11_voice (n : Nat) : ix_Op := fun k _ ls st μ => match st with
  | .inl a3 :: .inl a2 :: .inl a1 :: .inr (.inr (t0, a0)) :: r => t0 = 10 ∧ ix_cs r ≤ 8 ∧ T_X11_voice (a0, a1, a2, a3) μ (fun q => k (n, ls, q.1.toList ++ r, q.2))
  | _ => False
theorem oc_X11_voice_s {l : Launch} {cc : ByteArray} {nL : Nat} {own : String} {d : Nat} {rt : Option FieldType} {pc n : Nat} (h : ix_S l cc nL own d rt pc (ix_call 4 sh_X11_voice T_X11_voice n)) : ix_S l cc nL own d rt pc (oc_X11_voice n) := by
  refine h.by (fun k Q ls st μ h => ?_) (fun k k' Q ls st μ hk h => ?_)
  · unfold oc_X11_voice at h
    split at h
    · rename_i a3 a2 a1 t0 a0 r
      obtain ⟨rfl, h1, h2⟩ := h
      exact ⟨h1, (a0, a1, a2, a3), rfl, _, h2, fun r h => h⟩
    · exact h.elim
  · unfold oc_X11_voice at h ⊢
    split at h
    · obtain ⟨rfl, h1, h2⟩ := h
      exact ⟨rfl, h1, mo_X11_voice _ _ _ _ (fun q hq => hk _ hq) h2⟩
    · exact h.elim
def sh_X10_trace (x : Nat × Int32) : List ix_V := [vr 9 x.1, vi x.2]
def T_X10_trace : Nat × Int32 → ix_M → (ix_R → Prop) → Prop := fun (a0, a1) μ Q => ∃ Q', ix_Ev o_X10_trace Q' (0, [some (vr 9 a0), some (vi a1)], [], μ) ∧ ∀ r, Q' r → Q r
theorem mo_X10_trace (x : Nat × Int32) (μ : ix_M) (Q Q' : ix_R → Prop) (h : ∀ r, Q r → Q' r) (hT : T_X10_trace x μ Q) : T_X10_trace x μ Q' := by
  obtain ⟨a0, a1⟩ := x
  obtain ⟨P, h1, h2⟩ := hT
  exact ⟨P, h1, fun r hr => h r (h2 r hr)⟩
theorem k_X10_trace (l : Launch) : ix_Ct l yX10_trace cX10_trace 2 (some .int) 60 sh_X10_trace T_X10_trace := by
  intro E x μ Q hE hok hT
  obtain ⟨a0, a1⟩ := x
  obtain ⟨Q', h1, h2⟩ := hT
  exact ct_weak (ix_ct (T := fun (y : Nat × Int32) ν P => ix_Ev o_X10_trace P (0, ix_en (sh_X10_trace y) 2, [], ν)) (a_X10_trace l) rfl (by decide) (fun _ => Nat.le_of_ble_eq_true rfl) (fun _ _ _ _ h => h)) E (a0, a1) μ Q Q' hE hok h1 h2
def oc_X10_trace (n : Nat) : ix_Op := fun k _ ls st μ => match st with
  | .inl a1 :: .inr (.inr (t0, a0)) :: r => t0 = 9 ∧ ix_cs r ≤ 8 ∧ T_X10_trace (a0, a1) μ (fun q => k (n, ls, q.1.toList ++ r, q.2))
  | _ => False
theorem oc_X10_trace_s {l : Launch} {cc : ByteArray} {nL : Nat} {own : String} {d : Nat} {rt : Option FieldType} {pc n : Nat} (h : ix_S l cc nL own d rt pc (ix_call 2 sh_X10_trace T_X10_trace n)) : ix_S l cc nL own d rt pc (oc_X10_trace n) := by
  refine h.by (fun k Q ls st μ h => ?_) (fun k k' Q ls st μ hk h => ?_)
  · unfold oc_X10_trace at h
    split at h
    · rename_i a1 t0 a0 r
      obtain ⟨rfl, h1, h2⟩ := h
      exact ⟨h1, (a0, a1), rfl, _, h2, fun r h => h⟩
    · exact h.elim
  · unfold oc_X10_trace at h ⊢
    split at h
    · obtain ⟨rfl, h1, h2⟩ := h
      exact ⟨rfl, h1, mo_X10_trace _ _ _ _ (fun q hq => hk _ hq) h2⟩
    · exact h.elim
def sh_X11_trace (x : Nat × Int32) : List ix_V := [vr 10 x.1, vi x.2]
def T_X11_trace : Nat × Int32 → ix_M → (ix_R → Prop) → Prop := fun (a0, a1) μ Q => ∃ Q', ix_Ev o_X11_trace Q' (0, [some (vr 10 a0), some (vi a1)], [], μ) ∧ ∀ r, Q' r → Q r
theorem mo_X11_trace (x : Nat × Int32) (μ : ix_M) (Q Q' : ix_R → Prop) (h : ∀ r, Q r → Q' r) (hT : T_X11_trace x μ Q) : T_X11_trace x μ Q' := by
  obtain ⟨a0, a1⟩ := x
  obtain ⟨P, h1, h2⟩ := hT
  exact ⟨P, h1, fun r hr => h r (h2 r hr)⟩
theorem k_X11_trace (l : Launch) : ix_Ct l yX11_trace cX11_trace 2 (some .int) 60 sh_X11_trace T_X11_trace := by
  intro E x μ Q hE hok hT
  obtain ⟨a0, a1⟩ := x
  obtain ⟨Q', h1, h2⟩ := hT
  exact ct_weak (ix_ct (T := fun (y : Nat × Int32) ν P => ix_Ev o_X11_trace P (0, ix_en (sh_X11_trace y) 2, [], ν)) (a_X11_trace l) rfl (by decide) (fun _ => Nat.le_of_ble_eq_true rfl) (fun _ _ _ _ h => h)) E (a0, a1) μ Q Q' hE hok h1 h2
def oc_X11_trace (n : Nat) : ix_Op := fun k _ ls st μ => match st with
  | .inl a1 :: .inr (.inr (t0, a0)) :: r => t0 = 10 ∧ ix_cs r ≤ 8 ∧ T_X11_trace (a0, a1) μ (fun q => k (n, ls, q.1.toList ++ r, q.2))
  | _ => False
theorem oc_X11_trace_s {l : Launch} {cc : ByteArray} {nL : Nat} {own : String} {d : Nat} {rt : Option FieldType} {pc n : Nat} (h : ix_S l cc nL own d rt pc (ix_call 2 sh_X11_trace T_X11_trace n)) : ix_S l cc nL own d rt pc (oc_X11_trace n) := by
  refine h.by (fun k Q ls st μ h => ?_) (fun k k' Q ls st μ hk h => ?_)
  · unfold oc_X11_trace at h
    split at h
    · rename_i a1 t0 a0 r
      obtain ⟨rfl, h1, h2⟩ := h
      exact ⟨h1, (a0, a1), rfl, _, h2, fun r h => h⟩
    · exact h.elim
  · unfold oc_X11_trace at h ⊢
    split at h
    · obtain ⟨rfl, h1, h2⟩ := h
      exact ⟨rfl, h1, mo_X11_trace _ _ _ _ (fun q hq => hk _ hq) h2⟩
    · exact h.elim
def sh_X10_sheet (x : Nat × Int32 × Int32 × Int32) : List ix_V := [vr 9 x.1, vi x.2.1, vi x.2.2.1, vi x.2.2.2]
def T_X10_sheet : Nat × Int32 × Int32 × Int32 → ix_M → (ix_R → Prop) → Prop := fun (a0, a1, a2, a3) μ Q => ∃ Q', ix_Ev o_X10_sheet Q' (0, [some (vr 9 a0), some (vi a1), some (vi a2), some (vi a3)], [], μ) ∧ ∀ r, Q' r → Q r
theorem mo_X10_sheet (x : Nat × Int32 × Int32 × Int32) (μ : ix_M) (Q Q' : ix_R → Prop) (h : ∀ r, Q r → Q' r) (hT : T_X10_sheet x μ Q) : T_X10_sheet x μ Q' := by
  obtain ⟨a0, a1, a2, a3⟩ := x
  obtain ⟨P, h1, h2⟩ := hT
  exact ⟨P, h1, fun r hr => h r (h2 r hr)⟩
theorem k_X10_sheet (l : Launch) : ix_Ct l yX10_sheet cX10_sheet 4 (some .int) 60 sh_X10_sheet T_X10_sheet := by
  intro E x μ Q hE hok hT
  obtain ⟨a0, a1, a2, a3⟩ := x
  obtain ⟨Q', h1, h2⟩ := hT
  exact ct_weak (ix_ct (T := fun (y : Nat × Int32 × Int32 × Int32) ν P => ix_Ev o_X10_sheet P (0, ix_en (sh_X10_sheet y) 4, [], ν)) (a_X10_sheet l) rfl (by decide) (fun _ => Nat.le_of_ble_eq_true rfl) (fun _ _ _ _ h => h)) E (a0, a1, a2, a3) μ Q Q' hE hok h1 h2
def oc_X10_sheet (n : Nat) : ix_Op := fun k _ ls st μ => match st with
  | .inl a3 :: .inl a2 :: .inl a1 :: .inr (.inr (t0, a0)) :: r => t0 = 9 ∧ ix_cs r ≤ 8 ∧ T_X10_sheet (a0, a1, a2, a3) μ (fun q => k (n, ls, q.1.toList ++ r, q.2))
  | _ => False
theorem oc_X10_sheet_s {l : Launch} {cc : ByteArray} {nL : Nat} {own : String} {d : Nat} {rt : Option FieldType} {pc n : Nat} (h : ix_S l cc nL own d rt pc (ix_call 4 sh_X10_sheet T_X10_sheet n)) : ix_S l cc nL own d rt pc (oc_X10_sheet n) := by
  refine h.by (fun k Q ls st μ h => ?_) (fun k k' Q ls st μ hk h => ?_)
  · unfold oc_X10_sheet at h
    split at h
    · rename_i a3 a2 a1 t0 a0 r
      obtain ⟨rfl, h1, h2⟩ := h
      exact ⟨h1, (a0, a1, a2, a3), rfl, _, h2, fun r h => h⟩
    · exact h.elim
  · unfold oc_X10_sheet at h ⊢
    split at h
    · obtain ⟨rfl, h1, h2⟩ := h
      exact ⟨rfl, h1, mo_X10_sheet _ _ _ _ (fun q hq => hk _ hq) h2⟩
    · exact h.elim
def sh_X11_sheet (x : Nat × Int32 × Int32 × Int32) : List ix_V := [vr 10 x.1, vi x.2.1, vi x.2.2.1, vi x.2.2.2]
def T_X11_sheet : Nat × Int32 × Int32 × Int32 → ix_M → (ix_R → Prop) → Prop := fun (a0, a1, a2, a3) μ Q => ∃ Q', ix_Ev o_X11_sheet Q' (0, [some (vr 10 a0), some (vi a1), some (vi a2), some (vi a3), none], [], μ) ∧ ∀ r, Q' r → Q r
theorem mo_X11_sheet (x : Nat × Int32 × Int32 × Int32) (μ : ix_M) (Q Q' : ix_R → Prop) (h : ∀ r, Q r → Q' r) (hT : T_X11_sheet x μ Q) : T_X11_sheet x μ Q' := by
  obtain ⟨a0, a1, a2, a3⟩ := x
  obtain ⟨P, h1, h2⟩ := hT
  exact ⟨P, h1, fun r hr => h r (h2 r hr)⟩
theorem k_X11_sheet (l : Launch) : ix_Ct l yX11_sheet cX11_sheet 5 (some .int) 60 sh_X11_sheet T_X11_sheet := by
  intro E x μ Q hE hok hT
  obtain ⟨a0, a1, a2, a3⟩ := x
  obtain ⟨Q', h1, h2⟩ := hT
  exact ct_weak (ix_ct (T := fun (y : Nat × Int32 × Int32 × Int32) ν P => ix_Ev o_X11_sheet P (0, ix_en (sh_X11_sheet y) 5, [], ν)) (a_X11_sheet l) rfl (by decide) (fun _ => Nat.le_of_ble_eq_true rfl) (fun _ _ _ _ h => h)) E (a0, a1, a2, a3) μ Q Q' hE hok h1 h2
def oc_X11_sheet (n : Nat) : ix_Op := fun k _ ls st μ => match st with
  | .inl a3 :: .inl a2 :: .inl a1 :: .inr (.inr (t0, a0)) :: r => t0 = 10 ∧ ix_cs r ≤ 8 ∧ T_X11_sheet (a0, a1, a2, a3) μ (fun q => k (n, ls, q.1.toList ++ r, q.2))
  | _ => False
theorem oc_X11_sheet_s {l : Launch} {cc : ByteArray} {nL : Nat} {own : String} {d : Nat} {rt : Option FieldType} {pc n : Nat} (h : ix_S l cc nL own d rt pc (ix_call 4 sh_X11_sheet T_X11_sheet n)) : ix_S l cc nL own d rt pc (oc_X11_sheet n) := by
  refine h.by (fun k Q ls st μ h => ?_) (fun k k' Q ls st μ hk h => ?_)
  · unfold oc_X11_sheet at h
    split at h
    · rename_i a3 a2 a1 t0 a0 r
      obtain ⟨rfl, h1, h2⟩ := h
      exact ⟨h1, (a0, a1, a2, a3), rfl, _, h2, fun r h => h⟩
    · exact h.elim
  · unfold oc_X11_sheet at h ⊢
    split at h
    · obtain ⟨rfl, h1, h2⟩ := h
      exact ⟨rfl, h1, mo_X11_sheet _ _ _ _ (fun q hq => hk _ hq) h2⟩
    · exact h.elim
def sh_X10_put (x : Nat × Int32 × Int32 × Int32) : List ix_V := [vr 9 x.1, vi x.2.1, vi x.2.2.1, vi x.2.2.2]
def T_X10_put : Nat × Int32 × Int32 × Int32 → ix_M → (ix_R → Prop) → Prop := fun (a0, a1, a2, a3) μ Q => ∃ Q', ix_Ev o_X10_put Q' (0, [some (vr 9 a0), some (vi a1), some (vi a2), some (vi a3)], [], μ) ∧ ∀ r, Q' r → Q r
theorem mo_X10_put (x : Nat × Int32 × Int32 × Int32) (μ : ix_M) (Q Q' : ix_R → Prop) (h : ∀ r, Q r → Q' r) (hT : T_X10_put x μ Q) : T_X10_put x μ Q' := by
  obtain ⟨a0, a1, a2, a3⟩ := x
  obtain ⟨P, h1, h2⟩ := hT
  exact ⟨P, h1, fun r hr => h r (h2 r hr)⟩
theorem k_X10_put (l : Launch) : ix_Ct l yX10_put cX10_put 4 (some .int) 60 sh_X10_put T_X10_put := by
  intro E x μ Q hE hok hT
  obtain ⟨a0, a1, a2, a3⟩ := x
  obtain ⟨Q', h1, h2⟩ := hT
  exact ct_weak (ix_ct (T := fun (y : Nat × Int32 × Int32 × Int32) ν P => ix_Ev o_X10_put P (0, ix_en (sh_X10_put y) 4, [], ν)) (a_X10_put l) rfl (by decide) (fun _ => Nat.le_of_ble_eq_true rfl) (fun _ _ _ _ h => h)) E (a0, a1, a2, a3) μ Q Q' hE hok h1 h2
def oc_X10_put (n : Nat) : ix_Op := fun k _ ls st μ => match st with
  | .inl a3 :: .inl a2 :: .inl a1 :: .inr (.inr (t0, a0)) :: r => t0 = 9 ∧ ix_cs r ≤ 8 ∧ T_X10_put (a0, a1, a2, a3) μ (fun q => k (n, ls, q.1.toList ++ r, q.2))
  | _ => False
theorem oc_X10_put_s {l : Launch} {cc : ByteArray} {nL : Nat} {own : String} {d : Nat} {rt : Option FieldType} {pc n : Nat} (h : ix_S l cc nL own d rt pc (ix_call 4 sh_X10_put T_X10_put n)) : ix_S l cc nL own d rt pc (oc_X10_put n) := by
  refine h.by (fun k Q ls st μ h => ?_) (fun k k' Q ls st μ hk h => ?_)
  · unfold oc_X10_put at h
    split at h
    · rename_i a3 a2 a1 t0 a0 r
      obtain ⟨rfl, h1, h2⟩ := h
      exact ⟨h1, (a0, a1, a2, a3), rfl, _, h2, fun r h => h⟩
    · exact h.elim
  · unfold oc_X10_put at h ⊢
    split at h
    · obtain ⟨rfl, h1, h2⟩ := h
      exact ⟨rfl, h1, mo_X10_put _ _ _ _ (fun q hq => hk _ hq) h2⟩
    · exact h.elim
def sh_X11_put (x : Nat × Int32 × Int32 × Int32) : List ix_V := [vr 10 x.1, vi x.2.1, vi x.2.2.1, vi x.2.2.2]
def T_X11_put : Nat × Int32 × Int32 × Int32 → ix_M → (ix_R → Prop) → Prop := fun (a0, a1, a2, a3) μ Q => ∃ Q', ix_Ev o_X11_put Q' (0, [some (vr 10 a0), some (vi a1), some (vi a2), some (vi a3)], [], μ) ∧ ∀ r, Q' r → Q r
theorem mo_X11_put (x : Nat × Int32 × Int32 × Int32) (μ : ix_M) (Q Q' : ix_R → Prop) (h : ∀ r, Q r → Q' r) (hT : T_X11_put x μ Q) : T_X11_put x μ Q' := by
  obtain ⟨a0, a1, a2, a3⟩ := x
  obtain ⟨P, h1, h2⟩ := hT
  exact ⟨P, h1, fun r hr => h r (h2 r hr)⟩
theorem k_X11_put (l : Launch) : ix_Ct l yX11_put cX11_put 4 (some .int) 60 sh_X11_put T_X11_put := by
  intro E x μ Q hE hok hT
  obtain ⟨a0, a1, a2, a3⟩ := x
  obtain ⟨Q', h1, h2⟩ := hT
  exact ct_weak (ix_ct (T := fun (y : Nat × Int32 × Int32 × Int32) ν P => ix_Ev o_X11_put P (0, ix_en (sh_X11_put y) 4, [], ν)) (a_X11_put l) rfl (by decide) (fun _ => Nat.le_of_ble_eq_true rfl) (fun _ _ _ _ h => h)) E (a0, a1, a2, a3) μ Q Q' hE hok h1 h2
def oc_X11_put (n : Nat) : ix_Op := fun k _ ls st μ => match st with
  | .inl a3 :: .inl a2 :: .inl a1 :: .inr (.inr (t0, a0)) :: r => t0 = 10 ∧ ix_cs r ≤ 8 ∧ T_X11_put (a0, a1, a2, a3) μ (fun q => k (n, ls, q.1.toList ++ r, q.2))
  | _ => False
theorem oc_X11_put_s {l : Launch} {cc : ByteArray} {nL : Nat} {own : String} {d : Nat} {rt : Option FieldType} {pc n : Nat} (h : ix_S l cc nL own d rt pc (ix_call 4 sh_X11_put T_X11_put n)) : ix_S l cc nL own d rt pc (oc_X11_put n) := by
  refine h.by (fun k Q ls st μ h => ?_) (fun k k' Q ls st μ hk h => ?_)
  · unfold oc_X11_put at h
    split at h
    · rename_i a3 a2 a1 t0 a0 r
      obtain ⟨rfl, h1, h2⟩ := h
      exact ⟨h1, (a0, a1, a2, a3), rfl, _, h2, fun r h => h⟩
    · exact h.elim
  · unfold oc_X11_put at h ⊢
    split at h
    · obtain ⟨rfl, h1, h2⟩ := h
      exact ⟨rfl, h1, mo_X11_put _ _ _ _ (fun q hq => hk _ hq) h2⟩
    · exact h.elim
def sh_X10_move (x : Nat × Int32 × Int32 × Int32 × Int32 × Int32) : List ix_V := [vr 9 x.1, vi x.2.1, vi x.2.2.1, vi x.2.2.2.1, vi x.2.2.2.2.1, vi x.2.2.2.2.2]
def T_X10_move : Nat × Int32 × Int32 × Int32 × Int32 × Int32 → ix_M → (ix_R → Prop) → Prop := fun (a0, a1, a2, a3, a4, a5) μ Q => ∃ Q', ix_Ev o_X10_move Q' (0, [some (vr 9 a0), some (vi a1), some (vi a2), some (vi a3), some (vi a4), some (vi a5), none, none], [], μ) ∧ ∀ r, Q' r → Q r
theorem mo_X10_move (x : Nat × Int32 × Int32 × Int32 × Int32 × Int32) (μ : ix_M) (Q Q' : ix_R → Prop) (h : ∀ r, Q r → Q' r) (hT : T_X10_move x μ Q) : T_X10_move x μ Q' := by
  obtain ⟨a0, a1, a2, a3, a4, a5⟩ := x
  obtain ⟨P, h1, h2⟩ := hT
  exact ⟨P, h1, fun r hr => h r (h2 r hr)⟩
theorem k_X10_move (l : Launch) : ix_Ct l yX10_move cX10_move 8 (some .int) 60 sh_X10_move T_X10_move := by
  intro E x μ Q hE hok hT
  obtain ⟨a0, a1, a2, a3, a4, a5⟩ := x
  obtain ⟨Q', h1, h2⟩ := hT
  exact ct_weak (ix_ct (T := fun (y : Nat × Int32 × Int32 × Int32 × Int32 × Int32) ν P => ix_Ev o_X10_move P (0, ix_en (sh_X10_move y) 8, [], ν)) (a_X10_move l) rfl (by decide) (fun _ => Nat.le_of_ble_eq_true rfl) (fun _ _ _ _ h => h)) E (a0, a1, a2, a3, a4, a5) μ Q Q' hE hok h1 h2
def oc_X10_move (n : Nat) : ix_Op := fun k _ ls st μ => match st with
  | .inl a5 :: .inl a4 :: .inl a3 :: .inl a2 :: .inl a1 :: .inr (.inr (t0, a0)) :: r => t0 = 9 ∧ ix_cs r ≤ 8 ∧ T_X10_move (a0, a1, a2, a3, a4, a5) μ (fun q => k (n, ls, q.1.toList ++ r, q.2))
  | _ => False
theorem oc_X10_move_s {l : Launch} {cc : ByteArray} {nL : Nat} {own : String} {d : Nat} {rt : Option FieldType} {pc n : Nat} (h : ix_S l cc nL own d rt pc (ix_call 6 sh_X10_move T_X10_move n)) : ix_S l cc nL own d rt pc (oc_X10_move n) := by
  refine h.by (fun k Q ls st μ h => ?_) (fun k k' Q ls st μ hk h => ?_)
  · unfold oc_X10_move at h
    split at h
    · rename_i a5 a4 a3 a2 a1 t0 a0 r
      obtain ⟨rfl, h1, h2⟩ := h
      exact ⟨h1, (a0, a1, a2, a3, a4, a5), rfl, _, h2, fun r h => h⟩
    · exact h.elim
  · unfold oc_X10_move at h ⊢
    split at h
    · obtain ⟨rfl, h1, h2⟩ := h
      exact ⟨rfl, h1, mo_X10_move _ _ _ _ (fun q hq => hk _ hq) h2⟩
    · exact h.elim
def sh_X11_move (x : Nat × Int32 × Int32 × Int32 × Int32 × Int32) : List ix_V := [vr 10 x.1, vi x.2.1, vi x.2.2.1, vi x.2.2.2.1, vi x.2.2.2.2.1, vi x.2.2.2.2.2]
def T_X11_move : Nat × Int32 × Int32 × Int32 × Int32 × Int32 → ix_M → (ix_R → Prop) → Prop := fun (a0, a1, a2, a3, a4, a5) μ Q => ∃ Q', ix_Ev o_X11_move Q' (0, [some (vr 10 a0), some (vi a1), some (vi a2), some (vi a3), some (vi a4), some (vi a5), none], [], μ) ∧ ∀ r, Q' r → Q r
theorem mo_X11_move (x : Nat × Int32 × Int32 × Int32 × Int32 × Int32) (μ : ix_M) (Q Q' : ix_R → Prop) (h : ∀ r, Q r → Q' r) (hT : T_X11_move x μ Q) : T_X11_move x μ Q' := by
  obtain ⟨a0, a1, a2, a3, a4, a5⟩ := x
  obtain ⟨P, h1, h2⟩ := hT
  exact ⟨P, h1, fun r hr => h r (h2 r hr)⟩
theorem k_X11_move (l : Launch) : ix_Ct l yX11_move cX11_move 7 (some .int) 60 sh_X11_move T_X11_move := by
  intro E x μ Q hE hok hT
  obtain ⟨a0, a1, a2, a3, a4, a5⟩ := x
  obtain ⟨Q', h1, h2⟩ := hT
  exact ct_weak (ix_ct (T := fun (y : Nat × Int32 × Int32 × Int32 × Int32 × Int32) ν P => ix_Ev o_X11_move P (0, ix_en (sh_X11_move y) 7, [], ν)) (a_X11_move l) rfl (by decide) (fun _ => Nat.le_of_ble_eq_true rfl) (fun _ _ _ _ h => h)) E (a0, a1, a2, a3, a4, a5) μ Q Q' hE hok h1 h2
def oc_X11_move (n : Nat) : ix_Op := fun k _ ls st μ => match st with
  | .inl a5 :: .inl a4 :: .inl a3 :: .inl a2 :: .inl a1 :: .inr (.inr (t0, a0)) :: r => t0 = 10 ∧ ix_cs r ≤ 8 ∧ T_X11_move (a0, a1, a2, a3, a4, a5) μ (fun q => k (n, ls, q.1.toList ++ r, q.2))
  | _ => False
theorem oc_X11_move_s {l : Launch} {cc : ByteArray} {nL : Nat} {own : String} {d : Nat} {rt : Option FieldType} {pc n : Nat} (h : ix_S l cc nL own d rt pc (ix_call 6 sh_X11_move T_X11_move n)) : ix_S l cc nL own d rt pc (oc_X11_move n) := by
  refine h.by (fun k Q ls st μ h => ?_) (fun k k' Q ls st μ hk h => ?_)
  · unfold oc_X11_move at h
    split at h
    · rename_i a5 a4 a3 a2 a1 t0 a0 r
      obtain ⟨rfl, h1, h2⟩ := h
      exact ⟨h1, (a0, a1, a2, a3, a4, a5), rfl, _, h2, fun r h => h⟩
    · exact h.elim
  · unfold oc_X11_move at h ⊢
    split at h
    · obtain ⟨rfl, h1, h2⟩ := h
      exact ⟨rfl, h1, mo_X11_move _ _ _ _ (fun q hq => hk _ hq) h2⟩
    · exact h.elim
def sh_X10_lies (x : Nat × Int32) : List ix_V := [vr 9 x.1, vi x.2]
def T_X10_lies : Nat × Int32 → ix_M → (ix_R → Prop) → Prop := fun (a0, a1) μ Q => ∃ Q', ix_Ev o_X10_lies Q' (0, [some (vr 9 a0), some (vi a1), none, none], [], μ) ∧ ∀ r, Q' r → Q r
theorem mo_X10_lies (x : Nat × Int32) (μ : ix_M) (Q Q' : ix_R → Prop) (h : ∀ r, Q r → Q' r) (hT : T_X10_lies x μ Q) : T_X10_lies x μ Q' := by
  obtain ⟨a0, a1⟩ := x
  obtain ⟨P, h1, h2⟩ := hT
  exact ⟨P, h1, fun r hr => h r (h2 r hr)⟩
theorem k_X10_lies (l : Launch) : ix_Ct l yX10_lies cX10_lies 4 (some .int) 60 sh_X10_lies T_X10_lies := by
  intro E x μ Q hE hok hT
  obtain ⟨a0, a1⟩ := x
  obtain ⟨Q', h1, h2⟩ := hT
  exact ct_weak (ix_ct (T := fun (y : Nat × Int32) ν P => ix_Ev o_X10_lies P (0, ix_en (sh_X10_lies y) 4, [], ν)) (a_X10_lies l) rfl (by decide) (fun _ => Nat.le_of_ble_eq_true rfl) (fun _ _ _ _ h => h)) E (a0, a1) μ Q Q' hE hok h1 h2
def oc_X10_lies (n : Nat) : ix_Op := fun k _ ls st μ => match st with
  | .inl a1 :: .inr (.inr (t0, a0)) :: r => t0 = 9 ∧ ix_cs r ≤ 8 ∧ T_X10_lies (a0, a1) μ (fun q => k (n, ls, q.1.toList ++ r, q.2))
  | _ => False
theorem oc_X10_lies_s {l : Launch} {cc : ByteArray} {nL : Nat} {own : String} {d : Nat} {rt : Option FieldType} {pc n : Nat} (h : ix_S l cc nL own d rt pc (ix_call 2 sh_X10_lies T_X10_lies n)) : ix_S l cc nL own d rt pc (oc_X10_lies n) := by
  refine h.by (fun k Q ls st μ h => ?_) (fun k k' Q ls st μ hk h => ?_)
  · unfold oc_X10_lies at h
    split at h
    · rename_i a1 t0 a0 r
      obtain ⟨rfl, h1, h2⟩ := h
      exact ⟨h1, (a0, a1), rfl, _, h2, fun r h => h⟩
    · exact h.elim
  · unfold oc_X10_lies at h ⊢
    split at h
    · obtain ⟨rfl, h1, h2⟩ := h
      exact ⟨rfl, h1, mo_X10_lies _ _ _ _ (fun q hq => hk _ hq) h2⟩
    · exact h.elim
def sh_X11_lies (x : Nat × Int32) : List ix_V := [vr 10 x.1, vi x.2]
def T_X11_lies : Nat × Int32 → ix_M → (ix_R → Prop) → Prop := fun (a0, a1) μ Q => ∃ Q', ix_Ev o_X11_lies Q' (0, [some (vr 10 a0), some (vi a1), none], [], μ) ∧ ∀ r, Q' r → Q r
theorem mo_X11_lies (x : Nat × Int32) (μ : ix_M) (Q Q' : ix_R → Prop) (h : ∀ r, Q r → Q' r) (hT : T_X11_lies x μ Q) : T_X11_lies x μ Q' := by
  obtain ⟨a0, a1⟩ := x
  obtain ⟨P, h1, h2⟩ := hT
  exact ⟨P, h1, fun r hr => h r (h2 r hr)⟩
theorem k_X11_lies (l : Launch) : ix_Ct l yX11_lies cX11_lies 3 (some .int) 60 sh_X11_lies T_X11_lies := by
  intro E x μ Q hE hok hT
  obtain ⟨a0, a1⟩ := x
  obtain ⟨Q', h1, h2⟩ := hT
  exact ct_weak (ix_ct (T := fun (y : Nat × Int32) ν P => ix_Ev o_X11_lies P (0, ix_en (sh_X11_lies y) 3, [], ν)) (a_X11_lies l) rfl (by decide) (fun _ => Nat.le_of_ble_eq_true rfl) (fun _ _ _ _ h => h)) E (a0, a1) μ Q Q' hE hok h1 h2
def oc_X11_lies (n : Nat) : ix_Op := fun k _ ls st μ => match st with
  | .inl a1 :: .inr (.inr (t0, a0)) :: r => t0 = 10 ∧ ix_cs r ≤ 8 ∧ T_X11_lies (a0, a1) μ (fun q => k (n, ls, q.1.toList ++ r, q.2))
  | _ => False
theorem oc_X11_lies_s {l : Launch} {cc : ByteArray} {nL : Nat} {own : String} {d : Nat} {rt : Option FieldType} {pc n : Nat} (h : ix_S l cc nL own d rt pc (ix_call 2 sh_X11_lies T_X11_lies n)) : ix_S l cc nL own d rt pc (oc_X11_lies n) := by
  refine h.by (fun k Q ls st μ h => ?_) (fun k k' Q ls st μ hk h => ?_)
  · unfold oc_X11_lies at h
    split at h
    · rename_i a1 t0 a0 r
      obtain ⟨rfl, h1, h2⟩ := h
      exact ⟨h1, (a0, a1), rfl, _, h2, fun r h => h⟩
    · exact h.elim
  · unfold oc_X11_lies at h ⊢
    split at h
    · obtain ⟨rfl, h1, h2⟩ := h
      exact ⟨rfl, h1, mo_X11_lies _ _ _ _ (fun q hq => hk _ hq) h2⟩
    · exact h.elim
def sh_X10_judge (x : Nat × Int32) : List ix_V := [vr 9 x.1, vi x.2]
def T_X10_judge : Nat × Int32 → ix_M → (ix_R → Prop) → Prop := fun (a0, a1) μ Q => ∃ Q', ix_Ev o_X10_judge Q' (0, [some (vr 9 a0), some (vi a1), none, none, none], [], μ) ∧ ∀ r, Q' r → Q r
theorem mo_X10_judge (x : Nat × Int32) (μ : ix_M) (Q Q' : ix_R → Prop) (h : ∀ r, Q r → Q' r) (hT : T_X10_judge x μ Q) : T_X10_judge x μ Q' := by
  obtain ⟨a0, a1⟩ := x
  obtain ⟨P, h1, h2⟩ := hT
  exact ⟨P, h1, fun r hr => h r (h2 r hr)⟩
theorem k_X10_judge (l : Launch) : ix_Ct l yX10_judge cX10_judge 5 (some .int) 60 sh_X10_judge T_X10_judge := by
  intro E x μ Q hE hok hT
  obtain ⟨a0, a1⟩ := x
  obtain ⟨Q', h1, h2⟩ := hT
  exact ct_weak (ix_ct (T := fun (y : Nat × Int32) ν P => ix_Ev o_X10_judge P (0, ix_en (sh_X10_judge y) 5, [], ν)) (a_X10_judge l) rfl (by decide) (fun _ => Nat.le_of_ble_eq_true rfl) (fun _ _ _ _ h => h)) E (a0, a1) μ Q Q' hE hok h1 h2
def oc_X10_judge (n : Nat) : ix_Op := fun k _ ls st μ => match st with
  | .inl a1 :: .inr (.inr (t0, a0)) :: r => t0 = 9 ∧ ix_cs r ≤ 8 ∧ T_X10_judge (a0, a1) μ (fun q => k (n, ls, q.1.toList ++ r, q.2))
  | _ => False
theorem oc_X10_judge_s {l : Launch} {cc : ByteArray} {nL : Nat} {own : String} {d : Nat} {rt : Option FieldType} {pc n : Nat} (h : ix_S l cc nL own d rt pc (ix_call 2 sh_X10_judge T_X10_judge n)) : ix_S l cc nL own d rt pc (oc_X10_judge n) := by
  refine h.by (fun k Q ls st μ h => ?_) (fun k k' Q ls st μ hk h => ?_)
  · unfold oc_X10_judge at h
    split at h
    · rename_i a1 t0 a0 r
      obtain ⟨rfl, h1, h2⟩ := h
      exact ⟨h1, (a0, a1), rfl, _, h2, fun r h => h⟩
    · exact h.elim
  · unfold oc_X10_judge at h ⊢
    split at h
    · obtain ⟨rfl, h1, h2⟩ := h
      exact ⟨rfl, h1, mo_X10_judge _ _ _ _ (fun q hq => hk _ hq) h2⟩
    · exact h.elim
def sh_X11_judge (x : Nat × Int32) : List ix_V := [vr 10 x.1, vi x.2]
def T_X11_judge : Nat × Int32 → ix_M → (ix_R → Prop) → Prop := fun (a0, a1) μ Q => ∃ Q', ix_Ev o_X11_judge Q' (0, [some (vr 10 a0), some (vi a1), none], [], μ) ∧ ∀ r, Q' r → Q r
theorem mo_X11_judge (x : Nat × Int32) (μ : ix_M) (Q Q' : ix_R → Prop) (h : ∀ r, Q r → Q' r) (hT : T_X11_judge x μ Q) : T_X11_judge x μ Q' := by
  obtain ⟨a0, a1⟩ := x
  obtain ⟨P, h1, h2⟩ := hT
  exact ⟨P, h1, fun r hr => h r (h2 r hr)⟩
theorem k_X11_judge (l : Launch) : ix_Ct l yX11_judge cX11_judge 3 (some .int) 60 sh_X11_judge T_X11_judge := by
  intro E x μ Q hE hok hT
  obtain ⟨a0, a1⟩ := x
  obtain ⟨Q', h1, h2⟩ := hT
  exact ct_weak (ix_ct (T := fun (y : Nat × Int32) ν P => ix_Ev o_X11_judge P (0, ix_en (sh_X11_judge y) 3, [], ν)) (a_X11_judge l) rfl (by decide) (fun _ => Nat.le_of_ble_eq_true rfl) (fun _ _ _ _ h => h)) E (a0, a1) μ Q Q' hE hok h1 h2
def oc_X11_judge (n : Nat) : ix_Op := fun k _ ls st μ => match st with
  | .inl a1 :: .inr (.inr (t0, a0)) :: r => t0 = 10 ∧ ix_cs r ≤ 8 ∧ T_X11_judge (a0, a1) μ (fun q => k (n, ls, q.1.toList ++ r, q.2))
  | _ => False
theorem oc_X11_judge_s {l : Launch} {cc : ByteArray} {nL : Nat} {own : String} {d : Nat} {rt : Option FieldType} {pc n : Nat} (h : ix_S l cc nL own d rt pc (ix_call 2 sh_X11_judge T_X11_judge n)) : ix_S l cc nL own d rt pc (oc_X11_judge n) := by
  refine h.by (fun k Q ls st μ h => ?_) (fun k k' Q ls st μ hk h => ?_)
  · unfold oc_X11_judge at h
    split at h
    · rename_i a1 t0 a0 r
      obtain ⟨rfl, h1, h2⟩ := h
      exact ⟨h1, (a0, a1), rfl, _, h2, fun r h => h⟩
    · exact h.elim
  · unfold oc_X11_judge at h ⊢
    split at h
    · obtain ⟨rfl, h1, h2⟩ := h
      exact ⟨rfl, h1, mo_X11_judge _ _ _ _ (fun q hq => hk _ hq) h2⟩
    · exact h.elim
def sh_X10_image (x : Nat) : List ix_V := [vr 9 x]
def T_X10_image : Nat → ix_M → (ix_R → Prop) → Prop := fun a0 μ Q => ∃ Q', ix_Ev o_X10_image Q' (0, [some (vr 9 a0)], [], μ) ∧ ∀ r, Q' r → Q r
theorem mo_X10_image (x : Nat) (μ : ix_M) (Q Q' : ix_R → Prop) (h : ∀ r, Q r → Q' r) (hT : T_X10_image x μ Q) : T_X10_image x μ Q' := by
  obtain ⟨P, h1, h2⟩ := hT
  exact ⟨P, h1, fun r hr => h r (h2 r hr)⟩
theorem k_X10_image (l : Launch) : ix_Ct l yX10_image cX10_image 1 (some .int) 60 sh_X10_image T_X10_image := by
  intro E x μ Q hE hok hT
  obtain ⟨Q', h1, h2⟩ := hT
  exact ct_weak (ix_ct (T := fun (y : Nat) ν P => ix_Ev o_X10_image P (0, ix_en (sh_X10_image y) 1, [], ν)) (a_X10_image l) rfl (by decide) (fun _ => Nat.le_of_ble_eq_true rfl) (fun _ _ _ _ h => h)) E x μ Q Q' hE hok h1 h2
def oc_X10_image (n : Nat) : ix_Op := fun k _ ls st μ => match st with
  | .inr (.inr (t0, a0)) :: r => t0 = 9 ∧ ix_cs r ≤ 8 ∧ T_X10_image a0 μ (fun q => k (n, ls, q.1.toList ++ r, q.2))
  | _ => False
theorem oc_X10_image_s {l : Launch} {cc : ByteArray} {nL : Nat} {own : String} {d : Nat} {rt : Option FieldType} {pc n : Nat} (h : ix_S l cc nL own d rt pc (ix_call 1 sh_X10_image T_X10_image n)) : ix_S l cc nL own d rt pc (oc_X10_image n) := by
  refine h.by (fun k Q ls st μ h => ?_) (fun k k' Q ls st μ hk h => ?_)
  · unfold oc_X10_image at h
    split at h
    · rename_i t0 a0 r
      obtain ⟨rfl, h1, h2⟩ := h
      exact ⟨h1, a0, rfl, _, h2, fun r h => h⟩
    · exact h.elim
  · unfold oc_X10_image at h ⊢
    split at h
    · obtain ⟨rfl, h1, h2⟩ := h
      exact ⟨rfl, h1, mo_X10_image _ _ _ _ (fun q hq => hk _ hq) h2⟩
    · exact h.elim
def sh_X11_image (x : Nat) : List ix_V := [vr 10 x]
def T_X11_image : Nat → ix_M → (ix_R → Prop) → Prop := fun a0 μ Q => ∃ Q', ix_Ev o_X11_image Q' (0, [some (vr 10 a0)], [], μ) ∧ ∀ r, Q' r → Q r
theorem mo_X11_image (x : Nat) (μ : ix_M) (Q Q' : ix_R → Prop) (h : ∀ r, Q r → Q' r) (hT : T_X11_image x μ Q) : T_X11_image x μ Q' := by
  obtain ⟨P, h1, h2⟩ := hT
  exact ⟨P, h1, fun r hr => h r (h2 r hr)⟩
theorem k_X11_image (l : Launch) : ix_Ct l yX11_image cX11_image 1 (some .int) 60 sh_X11_image T_X11_image := by
  intro E x μ Q hE hok hT
  obtain ⟨Q', h1, h2⟩ := hT
  exact ct_weak (ix_ct (T := fun (y : Nat) ν P => ix_Ev o_X11_image P (0, ix_en (sh_X11_image y) 1, [], ν)) (a_X11_image l) rfl (by decide) (fun _ => Nat.le_of_ble_eq_true rfl) (fun _ _ _ _ h => h)) E x μ Q Q' hE hok h1 h2
def oc_X11_image (n : Nat) : ix_Op := fun k _ ls st μ => match st with
  | .inr (.inr (t0, a0)) :: r => t0 = 10 ∧ ix_cs r ≤ 8 ∧ T_X11_image a0 μ (fun q => k (n, ls, q.1.toList ++ r, q.2))
  | _ => False
theorem oc_X11_image_s {l : Launch} {cc : ByteArray} {nL : Nat} {own : String} {d : Nat} {rt : Option FieldType} {pc n : Nat} (h : ix_S l cc nL own d rt pc (ix_call 1 sh_X11_image T_X11_image n)) : ix_S l cc nL own d rt pc (oc_X11_image n) := by
  refine h.by (fun k Q ls st μ h => ?_) (fun k k' Q ls st μ hk h => ?_)
  · unfold oc_X11_image at h
    split at h
    · rename_i t0 a0 r
      obtain ⟨rfl, h1, h2⟩ := h
      exact ⟨h1, a0, rfl, _, h2, fun r h => h⟩
    · exact h.elim
  · unfold oc_X11_image at h ⊢
    split at h
    · obtain ⟨rfl, h1, h2⟩ := h
      exact ⟨rfl, h1, mo_X11_image _ _ _ _ (fun q hq => hk _ hq) h2⟩
    · exact h.elim
def sh_X10_restore (x : Nat) : List ix_V := [vr 9 x]
def T_X10_restore : Nat → ix_M → (ix_R → Prop) → Prop := fun a0 μ Q => ∃ Q', ix_Ev o_X10_restore Q' (0, [some (vr 9 a0)], [], μ) ∧ ∀ r, Q' r → Q r
theorem mo_X10_restore (x : Nat) (μ : ix_M) (Q Q' : ix_R → Prop) (h : ∀ r, Q r → Q' r) (hT : T_X10_restore x μ Q) : T_X10_restore x μ Q' := by
  obtain ⟨P, h1, h2⟩ := hT
  exact ⟨P, h1, fun r hr => h r (h2 r hr)⟩
theorem k_X10_restore (l : Launch) : ix_Ct l yX10_restore cX10_restore 1 (some .int) 60 sh_X10_restore T_X10_restore := by
  intro E x μ Q hE hok hT
  obtain ⟨Q', h1, h2⟩ := hT
  exact ct_weak (ix_ct (T := fun (y : Nat) ν P => ix_Ev o_X10_restore P (0, ix_en (sh_X10_restore y) 1, [], ν)) (a_X10_restore l) rfl (by decide) (fun _ => Nat.le_of_ble_eq_true rfl) (fun _ _ _ _ h => h)) E x μ Q Q' hE hok h1 h2
def oc_X10_restore (n : Nat) : ix_Op := fun k _ ls st μ => match st with
  | .inr (.inr (t0, a0)) :: r => t0 = 9 ∧ ix_cs r ≤ 8 ∧ T_X10_restore a0 μ (fun q => k (n, ls, q.1.toList ++ r, q.2))
  | _ => False
theorem oc_X10_restore_s {l : Launch} {cc : ByteArray} {nL : Nat} {own : String} {d : Nat} {rt : Option FieldType} {pc n : Nat} (h : ix_S l cc nL own d rt pc (ix_call 1 sh_X10_restore T_X10_restore n)) : ix_S l cc nL own d rt pc (oc_X10_restore n) := by
  refine h.by (fun k Q ls st μ h => ?_) (fun k k' Q ls st μ hk h => ?_)
  · unfold oc_X10_restore at h
    split at h
    · rename_i t0 a0 r
      obtain ⟨rfl, h1, h2⟩ := h
      exact ⟨h1, a0, rfl, _, h2, fun r h => h⟩
    · exact h.elim
  · unfold oc_X10_restore at h ⊢
    split at h
    · obtain ⟨rfl, h1, h2⟩ := h
      exact ⟨rfl, h1, mo_X10_restore _ _ _ _ (fun q hq => hk _ hq) h2⟩
    · exact h.elim
def sh_X11_restore (x : Nat) : List ix_V := [vr 10 x]
def T_X11_restore : Nat → ix_M → (ix_R → Prop) → Prop := fun a0 μ Q => ∃ Q', ix_Ev o_X11_restore Q' (0, [some (vr 10 a0)], [], μ) ∧ ∀ r, Q' r → Q r
theorem mo_X11_restore (x : Nat) (μ : ix_M) (Q Q' : ix_R → Prop) (h : ∀ r, Q r → Q' r) (hT : T_X11_restore x μ Q) : T_X11_restore x μ Q' := by
  obtain ⟨P, h1, h2⟩ := hT
  exact ⟨P, h1, fun r hr => h r (h2 r hr)⟩
theorem k_X11_restore (l : Launch) : ix_Ct l yX11_restore cX11_restore 1 (some .int) 60 sh_X11_restore T_X11_restore := by
  intro E x μ Q hE hok hT
  obtain ⟨Q', h1, h2⟩ := hT
  exact ct_weak (ix_ct (T := fun (y : Nat) ν P => ix_Ev o_X11_restore P (0, ix_en (sh_X11_restore y) 1, [], ν)) (a_X11_restore l) rfl (by decide) (fun _ => Nat.le_of_ble_eq_true rfl) (fun _ _ _ _ h => h)) E x μ Q Q' hE hok h1 h2
def oc_X11_restore (n : Nat) : ix_Op := fun k _ ls st μ => match st with
  | .inr (.inr (t0, a0)) :: r => t0 = 10 ∧ ix_cs r ≤ 8 ∧ T_X11_restore a0 μ (fun q => k (n, ls, q.1.toList ++ r, q.2))
  | _ => False
theorem oc_X11_restore_s {l : Launch} {cc : ByteArray} {nL : Nat} {own : String} {d : Nat} {rt : Option FieldType} {pc n : Nat} (h : ix_S l cc nL own d rt pc (ix_call 1 sh_X11_restore T_X11_restore n)) : ix_S l cc nL own d rt pc (oc_X11_restore n) := by
  refine h.by (fun k Q ls st μ h => ?_) (fun k k' Q ls st μ hk h => ?_)
  · unfold oc_X11_restore at h
    split at h
    · rename_i t0 a0 r
      obtain ⟨rfl, h1, h2⟩ := h
      exact ⟨h1, a0, rfl, _, h2, fun r h => h⟩
    · exact h.elim
  · unfold oc_X11_restore at h ⊢
    split at h
    · obtain ⟨rfl, h1, h2⟩ := h
      exact ⟨rfl, h1, mo_X11_restore _ _ _ _ (fun q hq => hk _ hq) h2⟩
    · exact h.elim
def sh_X10_tell (x : Nat × Int32) : List ix_V := [vr 9 x.1, vi x.2]
def T_X10_tell : Nat × Int32 → ix_M → (ix_R → Prop) → Prop := fun (a0, a1) μ Q => ∃ Q', ix_Ev o_X10_tell Q' (0, [some (vr 9 a0), some (vi a1)], [], μ) ∧ ∀ r, Q' r → Q r
theorem mo_X10_tell (x : Nat × Int32) (μ : ix_M) (Q Q' : ix_R → Prop) (h : ∀ r, Q r → Q' r) (hT : T_X10_tell x μ Q) : T_X10_tell x μ Q' := by
  obtain ⟨a0, a1⟩ := x
  obtain ⟨P, h1, h2⟩ := hT
  exact ⟨P, h1, fun r hr => h r (h2 r hr)⟩
theorem k_X10_tell (l : Launch) : ix_Ct l yX10_tell cX10_tell 2 (some .int) 60 sh_X10_tell T_X10_tell := by
  intro E x μ Q hE hok hT
  obtain ⟨a0, a1⟩ := x
  obtain ⟨Q', h1, h2⟩ := hT
  exact ct_weak (ix_ct (T := fun (y : Nat × Int32) ν P => ix_Ev o_X10_tell P (0, ix_en (sh_X10_tell y) 2, [], ν)) (a_X10_tell l) rfl (by decide) (fun _ => Nat.le_of_ble_eq_true rfl) (fun _ _ _ _ h => h)) E (a0, a1) μ Q Q' hE hok h1 h2
def oc_X10_tell (n : Nat) : ix_Op := fun k _ ls st μ => match st with
  | .inl a1 :: .inr (.inr (t0, a0)) :: r => t0 = 9 ∧ ix_cs r ≤ 8 ∧ T_X10_tell (a0, a1) μ (fun q => k (n, ls, q.1.toList ++ r, q.2))
  | _ => False
theorem oc_X10_tell_s {l : Launch} {cc : ByteArray} {nL : Nat} {own : String} {d : Nat} {rt : Option FieldType} {pc n : Nat} (h : ix_S l cc nL own d rt pc (ix_call 2 sh_X10_tell T_X10_tell n)) : ix_S l cc nL own d rt pc (oc_X10_tell n) := by
  refine h.by (fun k Q ls st μ h => ?_) (fun k k' Q ls st μ hk h => ?_)
  · unfold oc_X10_tell at h
    split at h
    · rename_i a1 t0 a0 r
      obtain ⟨rfl, h1, h2⟩ := h
      exact ⟨h1, (a0, a1), rfl, _, h2, fun r h => h⟩
    · exact h.elim
  · unfold oc_X10_tell at h ⊢
    split at h
    · obtain ⟨rfl, h1, h2⟩ := h
      exact ⟨rfl, h1, mo_X10_tell _ _ _ _ (fun q hq => hk _ hq) h2⟩
    · exact h.elim
def sh_X11_tell (x : Nat × Int32) : List ix_V := [vr 10 x.1, vi x.2]
def T_X11_tell : Nat × Int32 → ix_M → (ix_R → Prop) → Prop := fun (a0, a1) μ Q => ∃ Q', ix_Ev o_X11_tell Q' (0, [some (vr 10 a0), some (vi a1)], [], μ) ∧ ∀ r, Q' r → Q r
theorem mo_X11_tell (x : Nat × Int32) (μ : ix_M) (Q Q' : ix_R → Prop) (h : ∀ r, Q r → Q' r) (hT : T_X11_tell x μ Q) : T_X11_tell x μ Q' := by
  obtain ⟨a0, a1⟩ := x
  obtain ⟨P, h1, h2⟩ := hT
  exact ⟨P, h1, fun r hr => h r (h2 r hr)⟩
theorem k_X11_tell (l : Launch) : ix_Ct l yX11_tell cX11_tell 2 (some .int) 60 sh_X11_tell T_X11_tell := by
  intro E x μ Q hE hok hT
  obtain ⟨a0, a1⟩ := x
  obtain ⟨Q', h1, h2⟩ := hT
  exact ct_weak (ix_ct (T := fun (y : Nat × Int32) ν P => ix_Ev o_X11_tell P (0, ix_en (sh_X11_tell y) 2, [], ν)) (a_X11_tell l) rfl (by decide) (fun _ => Nat.le_of_ble_eq_true rfl) (fun _ _ _ _ h => h)) E (a0, a1) μ Q Q' hE hok h1 h2
def oc_X11_tell (n : Nat) : ix_Op := fun k _ ls st μ => match st with
  | .inl a1 :: .inr (.inr (t0, a0)) :: r => t0 = 10 ∧ ix_cs r ≤ 8 ∧ T_X11_tell (a0, a1) μ (fun q => k (n, ls, q.1.toList ++ r, q.2))
  | _ => False
theorem oc_X11_tell_s {l : Launch} {cc : ByteArray} {nL : Nat} {own : String} {d : Nat} {rt : Option FieldType} {pc n : Nat} (h : ix_S l cc nL own d rt pc (ix_call 2 sh_X11_tell T_X11_tell n)) : ix_S l cc nL own d rt pc (oc_X11_tell n) := by
  refine h.by (fun k Q ls st μ h => ?_) (fun k k' Q ls st μ hk h => ?_)
  · unfold oc_X11_tell at h
    split at h
    · rename_i a1 t0 a0 r
      obtain ⟨rfl, h1, h2⟩ := h
      exact ⟨h1, (a0, a1), rfl, _, h2, fun r h => h⟩
    · exact h.elim
  · unfold oc_X11_tell at h ⊢
    split at h
    · obtain ⟨rfl, h1, h2⟩ := h
      exact ⟨rfl, h1, mo_X11_tell _ _ _ _ (fun q hq => hk _ hq) h2⟩
    · exact h.elim
def sh_X10_check (x : Nat) : List ix_V := [vr 9 x]
def T_X10_check : Nat → ix_M → (ix_R → Prop) → Prop := fun a0 μ Q => ∃ Q', ix_Ev o_X10_check Q' (0, [some (vr 9 a0), none], [], μ) ∧ ∀ r, Q' r → Q r
theorem mo_X10_check (x : Nat) (μ : ix_M) (Q Q' : ix_R → Prop) (h : ∀ r, Q r → Q' r) (hT : T_X10_check x μ Q) : T_X10_check x μ Q' := by
  obtain ⟨P, h1, h2⟩ := hT
  exact ⟨P, h1, fun r hr => h r (h2 r hr)⟩
theorem k_X10_check (l : Launch) : ix_Ct l yX10_check cX10_check 2 (some .int) 60 sh_X10_check T_X10_check := by
  intro E x μ Q hE hok hT
  obtain ⟨Q', h1, h2⟩ := hT
  exact ct_weak (ix_ct (T := fun (y : Nat) ν P => ix_Ev o_X10_check P (0, ix_en (sh_X10_check y) 2, [], ν)) (a_X10_check l) rfl (by decide) (fun _ => Nat.le_of_ble_eq_true rfl) (fun _ _ _ _ h => h)) E x μ Q Q' hE hok h1 h2
def oc_X10_check (n : Nat) : ix_Op := fun k _ ls st μ => match st with
  | .inr (.inr (t0, a0)) :: r => t0 = 9 ∧ ix_cs r ≤ 8 ∧ T_X10_check a0 μ (fun q => k (n, ls, q.1.toList ++ r, q.2))
  | _ => False
theorem oc_X10_check_s {l : Launch} {cc : ByteArray} {nL : Nat} {own : String} {d : Nat} {rt : Option FieldType} {pc n : Nat} (h : ix_S l cc nL own d rt pc (ix_call 1 sh_X10_check T_X10_check n)) : ix_S l cc nL own d rt pc (oc_X10_check n) := by
  refine h.by (fun k Q ls st μ h => ?_) (fun k k' Q ls st μ hk h => ?_)
  · unfold oc_X10_check at h
    split at h
    · rename_i t0 a0 r
      obtain ⟨rfl, h1, h2⟩ := h
      exact ⟨h1, a0, rfl, _, h2, fun r h => h⟩
    · exact h.elim
  · unfold oc_X10_check at h ⊢
    split at h
    · obtain ⟨rfl, h1, h2⟩ := h
      exact ⟨rfl, h1, mo_X10_check _ _ _ _ (fun q hq => hk _ hq) h2⟩
    · exact h.elim
def sh_X11_check (x : Nat) : List ix_V := [vr 10 x]
def T_X11_check : Nat → ix_M → (ix_R → Prop) → Prop := fun a0 μ Q => ∃ Q', ix_Ev o_X11_check Q' (0, [some (vr 10 a0), none, none, none], [], μ) ∧ ∀ r, Q' r → Q r
theorem mo_X11_check (x : Nat) (μ : ix_M) (Q Q' : ix_R → Prop) (h : ∀ r, Q r → Q' r) (hT : T_X11_check x μ Q) : T_X11_check x μ Q' := by
  obtain ⟨P, h1, h2⟩ := hT
  exact ⟨P, h1, fun r hr => h r (h2 r hr)⟩
theorem k_X11_check (l : Launch) : ix_Ct l yX11_check cX11_check 4 (some .int) 60 sh_X11_check T_X11_check := by
  intro E x μ Q hE hok hT
  obtain ⟨Q', h1, h2⟩ := hT
  exact ct_weak (ix_ct (T := fun (y : Nat) ν P => ix_Ev o_X11_check P (0, ix_en (sh_X11_check y) 4, [], ν)) (a_X11_check l) rfl (by decide) (fun _ => Nat.le_of_ble_eq_true rfl) (fun _ _ _ _ h => h)) E x μ Q Q' hE hok h1 h2
def oc_X11_check (n : Nat) : ix_Op := fun k _ ls st μ => match st with
  | .inr (.inr (t0, a0)) :: r => t0 = 10 ∧ ix_cs r ≤ 8 ∧ T_X11_check a0 μ (fun q => k (n, ls, q.1.toList ++ r, q.2))
  | _ => False
theorem oc_X11_check_s {l : Launch} {cc : ByteArray} {nL : Nat} {own : String} {d : Nat} {rt : Option FieldType} {pc n : Nat} (h : ix_S l cc nL own d rt pc (ix_call 1 sh_X11_check T_X11_check n)) : ix_S l cc nL own d rt pc (oc_X11_check n) := by
  refine h.by (fun k Q ls st μ h => ?_) (fun k k' Q ls st μ hk h => ?_)
  · unfold oc_X11_check at h
    split at h
    · rename_i t0 a0 r
      obtain ⟨rfl, h1, h2⟩ := h
      exact ⟨h1, a0, rfl, _, h2, fun r h => h⟩
    · exact h.elim
  · unfold oc_X11_check at h ⊢
    split at h
    · obtain ⟨rfl, h1, h2⟩ := h
      exact ⟨rfl, h1, mo_X11_check _ _ _ _ (fun q hq => hk _ hq) h2⟩
    · exact h.elim
def sh_X10_count (x : Nat × Int32) : List ix_V := [vr 9 x.1, vi x.2]
def T_X10_count : Nat × Int32 → ix_M → (ix_R → Prop) → Prop := fun (a0, a1) μ Q => ∃ Q', ix_Ev o_X10_count Q' (0, [some (vr 9 a0), some (vi a1), none], [], μ) ∧ ∀ r, Q' r → Q r
theorem mo_X10_count (x : Nat × Int32) (μ : ix_M) (Q Q' : ix_R → Prop) (h : ∀ r, Q r → Q' r) (hT : T_X10_count x μ Q) : T_X10_count x μ Q' := by
  obtain ⟨a0, a1⟩ := x
  obtain ⟨P, h1, h2⟩ := hT
  exact ⟨P, h1, fun r hr => h r (h2 r hr)⟩
theorem k_X10_count (l : Launch) : ix_Ct l yX10_count cX10_count 3 (some .int) 60 sh_X10_count T_X10_count := by
  intro E x μ Q hE hok hT
  obtain ⟨a0, a1⟩ := x
  obtain ⟨Q', h1, h2⟩ := hT
  exact ct_weak (ix_ct (T := fun (y : Nat × Int32) ν P => ix_Ev o_X10_count P (0, ix_en (sh_X10_count y) 3, [], ν)) (a_X10_count l) rfl (by decide) (fun _ => Nat.le_of_ble_eq_true rfl) (fun _ _ _ _ h => h)) E (a0, a1) μ Q Q' hE hok h1 h2
def oc_X10_count (n : Nat) : ix_Op := fun k _ ls st μ => match st with
  | .inl a1 :: .inr (.inr (t0, a0)) :: r => t0 = 9 ∧ ix_cs r ≤ 8 ∧ T_X10_count (a0, a1) μ (fun q => k (n, ls, q.1.toList ++ r, q.2))
  | _ => False
theorem oc_X10_count_s {l : Launch} {cc : ByteArray} {nL : Nat} {own : String} {d : Nat} {rt : Option FieldType} {pc n : Nat} (h : ix_S l cc nL own d rt pc (ix_call 2 sh_X10_count T_X10_count n)) : ix_S l cc nL own d rt pc (oc_X10_count n) := by
  refine h.by (fun k Q ls st μ h => ?_) (fun k k' Q ls st μ hk h => ?_)
  · unfold oc_X10_count at h
    split at h
    · rename_i a1 t0 a0 r
      obtain ⟨rfl, h1, h2⟩ := h
      exact ⟨h1, (a0, a1), rfl, _, h2, fun r h => h⟩
    · exact h.elim
  · unfold oc_X10_count at h ⊢
    split at h
    · obtain ⟨rfl, h1, h2⟩ := h
      exact ⟨rfl, h1, mo_X10_count _ _ _ _ (fun q hq => hk _ hq) h2⟩
    · exact h.elim
def sh_X11_count (x : Nat × Int32) : List ix_V := [vr 10 x.1, vi x.2]
def T_X11_count : Nat × Int32 → ix_M → (ix_R → Prop) → Prop := fun (a0, a1) μ Q => ∃ Q', ix_Ev o_X11_count Q' (0, [some (vr 10 a0), some (vi a1)], [], μ) ∧ ∀ r, Q' r → Q r
theorem mo_X11_count (x : Nat × Int32) (μ : ix_M) (Q Q' : ix_R → Prop) (h : ∀ r, Q r → Q' r) (hT : T_X11_count x μ Q) : T_X11_count x μ Q' := by
  obtain ⟨a0, a1⟩ := x
  obtain ⟨P, h1, h2⟩ := hT
  exact ⟨P, h1, fun r hr => h r (h2 r hr)⟩
theorem k_X11_count (l : Launch) : ix_Ct l yX11_count cX11_count 2 (some .int) 60 sh_X11_count T_X11_count := by
  intro E x μ Q hE hok hT
  obtain ⟨a0, a1⟩ := x
  obtain ⟨Q', h1, h2⟩ := hT
  exact ct_weak (ix_ct (T := fun (y : Nat × Int32) ν P => ix_Ev o_X11_count P (0, ix_en (sh_X11_count y) 2, [], ν)) (a_X11_count l) rfl (by decide) (fun _ => Nat.le_of_ble_eq_true rfl) (fun _ _ _ _ h => h)) E (a0, a1) μ Q Q' hE hok h1 h2
def oc_X11_count (n : Nat) : ix_Op := fun k _ ls st μ => match st with
  | .inl a1 :: .inr (.inr (t0, a0)) :: r => t0 = 10 ∧ ix_cs r ≤ 8 ∧ T_X11_count (a0, a1) μ (fun q => k (n, ls, q.1.toList ++ r, q.2))
  | _ => False
theorem oc_X11_count_s {l : Launch} {cc : ByteArray} {nL : Nat} {own : String} {d : Nat} {rt : Option FieldType} {pc n : Nat} (h : ix_S l cc nL own d rt pc (ix_call 2 sh_X11_count T_X11_count n)) : ix_S l cc nL own d rt pc (oc_X11_count n) := by
  refine h.by (fun k Q ls st μ h => ?_) (fun k k' Q ls st μ hk h => ?_)
  · unfold oc_X11_count at h
    split at h
    · rename_i a1 t0 a0 r
      obtain ⟨rfl, h1, h2⟩ := h
      exact ⟨h1, (a0, a1), rfl, _, h2, fun r h => h⟩
    · exact h.elim
  · unfold oc_X11_count at h ⊢
    split at h
    · obtain ⟨rfl, h1, h2⟩ := h
      exact ⟨rfl, h1, mo_X11_count _ _ _ _ (fun q hq => hk _ hq) h2⟩
    · exact h.elim
def sh_X10_told (x : Nat × Int32) : List ix_V := [vr 9 x.1, vi x.2]
def T_X10_told : Nat × Int32 → ix_M → (ix_R → Prop) → Prop := fun (a0, a1) μ Q => ∃ Q', ix_Ev o_X10_told Q' (0, [some (vr 9 a0), some (vi a1)], [], μ) ∧ ∀ r, Q' r → Q r
theorem mo_X10_told (x : Nat × Int32) (μ : ix_M) (Q Q' : ix_R → Prop) (h : ∀ r, Q r → Q' r) (hT : T_X10_told x μ Q) : T_X10_told x μ Q' := by
  obtain ⟨a0, a1⟩ := x
  obtain ⟨P, h1, h2⟩ := hT
  exact ⟨P, h1, fun r hr => h r (h2 r hr)⟩
theorem k_X10_told (l : Launch) : ix_Ct l yX10_told cX10_told 2 (some .int) 60 sh_X10_told T_X10_told := by
  intro E x μ Q hE hok hT
  obtain ⟨a0, a1⟩ := x
  obtain ⟨Q', h1, h2⟩ := hT
  exact ct_weak (ix_ct (T := fun (y : Nat × Int32) ν P => ix_Ev o_X10_told P (0, ix_en (sh_X10_told y) 2, [], ν)) (a_X10_told l) rfl (by decide) (fun _ => Nat.le_of_ble_eq_true rfl) (fun _ _ _ _ h => h)) E (a0, a1) μ Q Q' hE hok h1 h2
def oc_X10_told (n : Nat) : ix_Op := fun k _ ls st μ => match st with
  | .inl a1 :: .inr (.inr (t0, a0)) :: r => t0 = 9 ∧ ix_cs r ≤ 8 ∧ T_X10_told (a0, a1) μ (fun q => k (n, ls, q.1.toList ++ r, q.2))
  | _ => False
theorem oc_X10_told_s {l : Launch} {cc : ByteArray} {nL : Nat} {own : String} {d : Nat} {rt : Option FieldType} {pc n : Nat} (h : ix_S l cc nL own d rt pc (ix_call 2 sh_X10_told T_X10_told n)) : ix_S l cc nL own d rt pc (oc_X10_told n) := by
  refine h.by (fun k Q ls st μ h => ?_) (fun k k' Q ls st μ hk h => ?_)
  · unfold oc_X10_told at h
    split at h
    · rename_i a1 t0 a0 r
      obtain ⟨rfl, h1, h2⟩ := h
      exact ⟨h1, (a0, a1), rfl, _, h2, fun r h => h⟩
    · exact h.elim
  · unfold oc_X10_told at h ⊢
    split at h
    · obtain ⟨rfl, h1, h2⟩ := h
      exact ⟨rfl, h1, mo_X10_told _ _ _ _ (fun q hq => hk _ hq) h2⟩
    · exact h.elim
def sh_X11_told (x : Nat × Int32) : List ix_V := [vr 10 x.1, vi x.2]
def T_X11_told : Nat × Int32 → ix_M → (ix_R → Prop) → Prop := fun (a0, a1) μ Q => ∃ Q', ix_Ev o_X11_told Q' (0, [some (vr 10 a0), some (vi a1)], [], μ) ∧ ∀ r, Q' r → Q r
theorem mo_X11_told (x : Nat × Int32) (μ : ix_M) (Q Q' : ix_R → Prop) (h : ∀ r, Q r → Q' r) (hT : T_X11_told x μ Q) : T_X11_told x μ Q' := by
  obtain ⟨a0, a1⟩ := x
  obtain ⟨P, h1, h2⟩ := hT
  exact ⟨P, h1, fun r hr => h r (h2 r hr)⟩
theorem k_X11_told (l : Launch) : ix_Ct l yX11_told cX11_told 2 (some .int) 60 sh_X11_told T_X11_told := by
  intro E x μ Q hE hok hT
  obtain ⟨a0, a1⟩ := x
  obtain ⟨Q', h1, h2⟩ := hT
  exact ct_weak (ix_ct (T := fun (y : Nat × Int32) ν P => ix_Ev o_X11_told P (0, ix_en (sh_X11_told y) 2, [], ν)) (a_X11_told l) rfl (by decide) (fun _ => Nat.le_of_ble_eq_true rfl) (fun _ _ _ _ h => h)) E (a0, a1) μ Q Q' hE hok h1 h2
def oc_X11_told (n : Nat) : ix_Op := fun k _ ls st μ => match st with
  | .inl a1 :: .inr (.inr (t0, a0)) :: r => t0 = 10 ∧ ix_cs r ≤ 8 ∧ T_X11_told (a0, a1) μ (fun q => k (n, ls, q.1.toList ++ r, q.2))
  | _ => False
theorem oc_X11_told_s {l : Launch} {cc : ByteArray} {nL : Nat} {own : String} {d : Nat} {rt : Option FieldType} {pc n : Nat} (h : ix_S l cc nL own d rt pc (ix_call 2 sh_X11_told T_X11_told n)) : ix_S l cc nL own d rt pc (oc_X11_told n) := by
  refine h.by (fun k Q ls st μ h => ?_) (fun k k' Q ls st μ hk h => ?_)
  · unfold oc_X11_told at h
    split at h
    · rename_i a1 t0 a0 r
      obtain ⟨rfl, h1, h2⟩ := h
      exact ⟨h1, (a0, a1), rfl, _, h2, fun r h => h⟩
    · exact h.elim
  · unfold oc_X11_told at h ⊢
    split at h
    · obtain ⟨rfl, h1, h2⟩ := h
      exact ⟨rfl, h1, mo_X11_told _ _ _ _ (fun q hq => hk _ hq) h2⟩
    · exact h.elim
