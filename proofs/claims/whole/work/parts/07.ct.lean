/-! ===== programs as tables, what they come to, contracts, calls ===== -/
def ix_lk (ops : List (Nat × ix_Op)) (pc : Nat) : Option ix_Op := match ops with
  | [] => none
  | q :: r => if q.1 = pc then some q.2 else ix_lk r pc
def ix_Ev (ops : List (Nat × ix_Op)) (Q : ix_R → Prop) (fr : ix_F) : Prop :=
  ∀ S : ix_F → Prop, (∀ (pc : Nat) (ls : ix_L) (st : List ix_V) (μ : ix_M) (op : ix_Op), ix_lk ops pc = some op → op S Q ls st μ → S (pc, ls, st, μ)) → S fr
def ix_AllS (l : Launch) (cc : ByteArray) (nL : Nat) (own : String) (d : Nat) (rt : Option FieldType) (ops : List (Nat × ix_Op)) : Prop := ∀ q ∈ ops, ix_S l cc nL own d rt q.1 q.2
theorem ix_lk_in {pc : Nat} {op : ix_Op} : ∀ {ops : List (Nat × ix_Op)}, ix_lk ops pc = some op → (pc, op) ∈ ops
  | [], h => by cases h
  | q :: r, h => by
    unfold ix_lk at h
    split at h
    · rename_i e
      cases h
      rw [← e]
      exact List.mem_cons_self
    · exact List.mem_cons_of_mem _ (ix_lk_in h)
section IXC
variable {l : Launch} {cc : ByteArray} {nL : Nat} {own : String} {d : Nat} {rt : Option FieldType} {ops : List (Nat × ix_Op)} {Q : ix_R → Prop}
theorem ix_AllS.nil : ix_AllS l cc nL own d rt [] := fun _ h => by cases h
theorem ix_AllS.cons {pc : Nat} {op : ix_Op} (h1 : ix_S l cc nL own d rt pc op) (h2 : ix_AllS l cc nL own d rt ops) : ix_AllS l cc nL own d rt ((pc, op) :: ops) := fun q hq => (List.mem_cons.mp hq).elim (fun e => e ▸ h1) (h2 q)
theorem ix_Ev.fold (hA : ix_AllS l cc nL own d rt ops) {pc : Nat} {op : ix_Op} (hlk : ix_lk ops pc = some op) {ls : ix_L} {st : List ix_V} {μ : ix_M} (h : op (ix_Ev ops Q) Q ls st μ) : ix_Ev ops Q (pc, ls, st, μ) := by
  intro S hS
  refine hS pc ls st μ op hlk ((hA _ (ix_lk_in hlk)).1 (ix_Ev ops Q) S Q ls st μ (fun x hx => hx S hS) h)
theorem ix_Ev.unfold (hA : ix_AllS l cc nL own d rt ops) {pc : Nat} {op : ix_Op} (hlk : ix_lk ops pc = some op) {ls : ix_L} {st : List ix_V} {μ : ix_M} (h : ix_Ev ops Q (pc, ls, st, μ)) : op (ix_Ev ops Q) Q ls st μ := by
  have h2 := h (fun fr => ∃ op, ix_lk ops fr.1 = some op ∧ op (ix_Ev ops Q) Q fr.2.1 fr.2.2.1 fr.2.2.2) (fun pc ls st μ op ho hop => ⟨op, ho, (hA _ (ix_lk_in ho)).1 _ _ Q ls st μ (fun x hx => by
    obtain ⟨pc', ls', st', μ'⟩ := x
    obtain ⟨op', ho', hop'⟩ := hx
    exact ix_Ev.fold hA ho' hop') hop⟩)
  obtain ⟨op', ho', hop'⟩ := h2
  cases hlk.symm.trans ho'
  exact hop'
theorem ix_Ev.eq (hA : ix_AllS l cc nL own d rt ops) {pc : Nat} {op : ix_Op} (hlk : ix_lk ops pc = some op) (ls : ix_L) (st : List ix_V) (μ : ix_M) : ix_Ev ops Q (pc, ls, st, μ) = op (ix_Ev ops Q) Q ls st μ := propext ⟨ix_Ev.unfold hA hlk, ix_Ev.fold hA hlk⟩
theorem ix_Ev.sound (hA : ix_AllS l cc nL own d rt ops) {p : Program} {e : Env} {R : Room} {s : State} {m : MethodId} {args : Array Value} {below : List Frame} {meth : Method} {c : Code} {cells slots : Nat} {Qw : State → Prop} {E : ix_E} {A : Nat → Prop} (hC : ix_C p l e R s m args below meth c cells slots Qw E nL A cc own d rt Q) {fr : ix_F} (h : ix_Ev ops Q fr) : ix_Vd p l e R s m args below meth c cells slots Qw E nL A fr :=
  h _ (fun pc ls st μ op hlk hop => (hA _ (ix_lk_in hlk)).2 p e R s m args below meth c cells slots Qw E A Q hC ls st μ hop)
end IXC
/-- the locals at the entry -/
def ix_en1 (as : List ix_V) : ix_L := match as with
  | [] => []
  | .inr (.inl x) :: r => some (.inr (.inl x)) :: none :: ix_en1 r
  | v :: r => some v :: ix_en1 r
def ix_en (as : List ix_V) (nL : Nat) : ix_L := ix_en1 as ++ List.replicate (nL - (ix_en1 as).length) none
theorem ix_en1_len (E : ix_E) : ∀ as : List ix_V, (lg_sl (as.map (ix_cv E))).length = (ix_en1 as).length
  | [] => rfl
  | .inl x :: r => by
    have := ix_en1_len E r
    simp only [lg_sl, List.map_cons, List.flatMap_cons, ix_en1, List.length_append, List.length_cons] at this ⊢
    simp only [ix_cv, Value.category] at this ⊢
    simp at this ⊢
    omega
  | .inr (.inl x) :: r => by
    have := ix_en1_len E r
    simp only [lg_sl, List.map_cons, List.flatMap_cons, ix_en1, List.length_append, List.length_cons] at this ⊢
    simp only [ix_cv, Value.category] at this ⊢
    simp at this ⊢
    omega
  | .inr (.inr (t, a)) :: r => by
    have := ix_en1_len E r
    simp only [lg_sl, List.map_cons, List.flatMap_cons, ix_en1, List.length_append, List.length_cons] at this ⊢
    simp only [ix_cv, Value.category] at this ⊢
    simp at this ⊢
    omega
theorem ix_en1_at (E : ix_E) : ∀ (as : List ix_V) (o i : Nat) (v : ix_V), (ix_en1 as)[i]? = some (some v) → (o + i, ix_cv E v) ∈ lv_args o (as.map (ix_cv E)) ∧ v ∈ as
  | [], o, i, v, h => by simp [ix_en1] at h
  | .inl x :: r, o, i, v, h => by
    cases i with
    | zero => simp [ix_en1] at h; subst h; exact ⟨by simp [lv_args], by simp⟩
    | succ i =>
      simp only [ix_en1, List.getElem?_cons_succ] at h
      obtain ⟨h1, h2⟩ := ix_en1_at E r (o + 1) i v h
      refine ⟨?_, List.mem_cons_of_mem _ h2⟩
      rw [show o + (i + 1) = o + 1 + i by omega]
      simp only [List.map_cons, lv_args]
      exact List.mem_cons_of_mem _ (by simpa [ix_cv, Value.category] using h1)
  | .inr (.inl x) :: r, o, i, v, h => by
    match i, h with
    | 0, h => simp [ix_en1] at h; subst h; exact ⟨by simp [lv_args], by simp⟩
    | 1, h => simp [ix_en1] at h
    | i + 2, h =>
      simp only [ix_en1, List.getElem?_cons_succ] at h
      obtain ⟨h1, h2⟩ := ix_en1_at E r (o + 2) i v h
      refine ⟨?_, List.mem_cons_of_mem _ h2⟩
      rw [show o + (i + 2) = o + 2 + i by omega]
      simp only [List.map_cons, lv_args]
      exact List.mem_cons_of_mem _ (by simpa [ix_cv, Value.category] using h1)
  | .inr (.inr (t, a)) :: r, o, i, v, h => by
    cases i with
    | zero => simp [ix_en1] at h; subst h; exact ⟨by simp [lv_args], by simp⟩
    | succ i =>
      simp only [ix_en1, List.getElem?_cons_succ] at h
      obtain ⟨h1, h2⟩ := ix_en1_at E r (o + 1) i v h
      refine ⟨?_, List.mem_cons_of_mem _ h2⟩
      rw [show o + (i + 1) = o + 1 + i by omega]
      simp only [List.map_cons, lv_args]
      exact List.mem_cons_of_mem _ (by simpa [ix_cv, Value.category] using h1)
theorem ix_en_lv {E : ix_E} {as : List ix_V} {nL : Nat} (h : (ix_en1 as).length ≤ nL) (hok : ∀ v ∈ as, ix_ok v) : ix_lv E ((lg_sl (as.map (ix_cv E)) ++ List.replicate (nL - (lg_sl (as.map (ix_cv E))).length) Slot.unset).toArray) nL (ix_en as nL) := by
  have hl := lv_entry (as.map (ix_cv E)) (n := nL) (by rw [ix_en1_len]; exact h)
  have key : ∀ (i : Nat) (v : ix_V), (ix_en as nL)[i]? = some (some v) → (ix_en1 as)[i]? = some (some v) := by
    intro i v hv
    unfold ix_en at hv
    by_cases hi : i < (ix_en1 as).length
    · rwa [List.getElem?_append_left hi] at hv
    · rw [List.getElem?_append_right (by omega)] at hv
      have := List.eq_of_mem_replicate (List.mem_of_getElem? hv)
      cases this
  refine ⟨by simp [ix_en]; omega, hl.1, hl.2.1, fun i v hv => ?_, fun i v hv => ?_⟩
  · have h2 := (ix_en1_at E as 0 i v (key i v hv)).1
    rw [Nat.zero_add] at h2
    exact hl.2.2 _ h2
  · exact hok v (ix_en1_at E as 0 i v (key i v hv)).2
def ix_QB (E : ix_E) (Q : ix_R → Prop) : Array Value → State → Outcome → State → Prop := fun _ st o t => (∃ (r : Option ix_V) (μ' : ix_M), Q (r, μ') ∧ (∀ v, r = some v → ix_ok v) ∧ o = .returned (r.map (ix_cv E)) ∧ ix_H E μ' t) ∧ va_F (ix_A E) st t
def ix_Ct {P : Type} (l : Launch) (y : MethodName) (cc : ByteArray) (nL : Nat) (rt : Option FieldType) (d : Nat) (sh : P → List ix_V) (T : P → ix_M → (ix_R → Prop) → Prop) : Prop :=
  ∀ (E : ix_E) (x : P) (μ : ix_M) (Q : ix_R → Prop), ix_EO E → (∀ v ∈ sh x, ix_ok v) → T x μ Q → Met l y (Cond.code y cc nL rt :: ix_TB) { frames := d, cells := 0, slots := 0, locals := 40 * d } (va_Pc ((sh x).map (ix_cv E)) (ix_H E μ)) (ix_QB E Q) 0 0 (ix_A E)
theorem ix_H.fin {E : ix_E} {μ : ix_M} {s t : State} {H : Heap} {locs : List Loc} (hK : ix_KV E s) (hR : ix_RO E s s.heap) (hP : va_P E.1 vwCl (ix_w E μ) H) (hS : va_S (ix_A E) s.heap H locs) (ht : t.heap = H) (hW : s.WarmedH t.vm) : ix_H E μ t := by
  refine ⟨by rw [ht]; exact hP, hK.warm hW, ?_⟩
  rw [ht]
  exact (hR.kept hS.2.1).moved hW.alike
theorem ix_ct {P : Type} {l : Launch} {y : MethodName} {cc : ByteArray} {nL : Nat} {own : String} {rt : Option FieldType} {d : Nat} {sh : P → List ix_V} {T : P → ix_M → (ix_R → Prop) → Prop} {ops : List (Nat × ix_Op)} (hall : ix_AllS l cc nL own d rt ops) (hy : y.cls = own) (hpl : plainName y.cls = true) (hsl : ∀ x, (ix_en1 (sh x)).length ≤ nL)
    (hev : ∀ (x : P) (μ : ix_M) (Q : ix_R → Prop), (∀ v ∈ sh x, ix_ok v) → T x μ Q → ix_Ev ops Q (0, ix_en (sh x) nL, [], μ)) : ix_Ct l y cc nL rt d sh T := by
  intro E x μ Q hE hok hT
  refine Met.ofW (cc := cc) (maxL := nL) (ret := rt) hpl rfl ?_
  intro p e s m args below meth c s₁ B hml hv
  obtain ⟨rfl, hH⟩ := hv
  have hts := atoms_spec (ws := Cond.code y cc nL rt :: ix_TB) B.pre
  have hown : s.vm.findClass own = some m.cls := by rw [← hy]; exact findClass_of_methodNamed B.named
  have hlocks := B.notSynchronized
  have hb := B.bytes
  have hx := B.exec
  have hr := B.returns
  have hC : ix_C p l e { frames := d, cells := 0, slots := 0, locals := 40 * d } s m ((sh x).map (ix_cv E)).toArray below meth c 0 0 (MQ below (ix_QB E Q) ((sh x).map (ix_cv E)).toArray s 0 0 (ix_A E)) E nL (ix_A E) cc own d rt Q := by
    refine ⟨hx, hb, hml, hown, fun w hw => hts w (List.mem_cons_of_mem _ hw), hH.2.1, hH.2.2, hE, fun _ h => h, fun _ _ h => h, ⟨Nat.le_refl _, Nat.le_refl _, Nat.le_refl _, Nat.le_refl _⟩, ?_⟩
    intro r μ' H locs ls pc hQ hokr hrd hP hS
    rcases r with _ | v | v | ⟨t, a⟩
    · obtain ⟨h1, h2⟩ := hrd
      exact W.vret hx hb (hr.trans h2) (fun t ht hW => ⟨⟨none, μ', hQ, hokr, rfl, ix_H.fin hH.2.1 hH.2.2 hP hS ht hW⟩, hS.F ht⟩) hS.2.2 h1
    · obtain ⟨h1, ty, h2, h3⟩ := hrd
      exact W.zret hx hb (hr.trans h2) h3 (fun t ht hW => ⟨⟨some (.inl v), μ', hQ, hokr, rfl, ix_H.fin hH.2.1 hH.2.2 hP hS ht hW⟩, hS.F ht⟩) hS.2.2 h1
    · exact hrd.elim
    · obtain ⟨h1, n, h2⟩ := hrd
      exact W.aret hx hb (hr.trans h2) (Or.inl ⟨n, rfl⟩) (Or.inr ⟨_, rfl⟩) (fun t' ht hW => ⟨⟨some (.inr (.inr (t, a))), μ', hQ, hokr, rfl, ix_H.fin hH.2.1 hH.2.2 hP hS ht hW⟩, hS.F ht⟩) hS.2.2 h1
  rw [lg_entry_eq]
  exact ix_Ev.sound hall hC (hev x μ Q hok hT) s.heap [] _ hH.1 va_S.rf (ix_en_lv (hsl x) hok) (fun v hv => by cases hv)
/-! calls -/
def ix_call {P : Type} (na : Nat) (sh : P → List ix_V) (T : P → ix_M → (ix_R → Prop) → Prop) (n : Nat) : ix_Op := fun k _ ls st μ => ix_cs (st.drop na) ≤ 8 ∧ ∃ x : P, (st.take na).reverse = sh x ∧ ∃ Q' : ix_R → Prop, T x μ Q' ∧ ∀ r : ix_R, Q' r → k (n, ls, r.1.toList ++ st.drop na, r.2)
theorem ix_blind {E : ix_E} {μ : ix_M} {av : List Value} : FrameBlind (va_Pc av (ix_H E μ)) := by
  intro a U g mk h
  obtain ⟨h1, h2, h3, h4⟩ := h
  exact ⟨h1, h2, ix_KV.same (s := U) (U := U.calling g mk a) rfl h3, ix_RO.moved (s := U) (U := U.calling g mk a) (Vm.Alike.refl U.vm) h4⟩
section IXD
variable {l : Launch} {cc : ByteArray} {nL : Nat} {own : String} {d : Nat} {rt : Option FieldType} {pc : Nat}
theorem ix_after {p : Program} {e : Env} {R : Room} {s : State} {m : MethodId} {args : Array Value} {below : List Frame} {meth : Method} {c : Code} {H : Heap} {locs : List Loc} {cells slots : Nat} {Qw : State → Prop} {E : ix_E} {A : Nat → Prop} {Q' : ix_R → Prop} {a : Array Value} {ls : Array Slot} {st0 rest : List Value}
    (hr : va_Run p l e R s m args below meth c H locs cells slots 0 0 (F0 m pc ls st0) rest (ix_QB E Q' a) (ix_A E)) (hS : va_S A s.heap H locs) (hA : ∀ q, ix_A E q → A q)
    (kk : ∀ (r : ix_R) (H1 : Heap) (locs1 : List Loc), Q' r → (∀ v, r.1 = some v → ix_ok v) → va_P E.1 vwCl (ix_w E r.2) H1 → va_S A s.heap H1 locs1 → W p l e R s m args below meth c H1 locs1 cells slots Qw (F0 m (pc + 3) ls (r.1.toList.map (ix_cv E) ++ rest))) : W p l e R s m args below meth c H locs cells slots Qw (F0 m pc ls st0) := by
  intro T hT X
  obtain ⟨v, st₀, t, T', L, h0, X', hL, e1, e2, ⟨⟨r, μ', hQ, hokr, hv, hH⟩, hz, hk⟩, st⟩ := hr T hT X
  rw [h0] at hz hk
  cases hv
  obtain ⟨t2, a1, b1⟩ := kk (r, μ') T'.heap (locs ++ L) hQ hokr (by rw [e1]; exact hH.1)
    ⟨Nat.le_trans hS.1 (by rw [e1]; exact hz), fun q h1 h2 => by rw [e1, hk q (Nat.lt_of_lt_of_le h1 hS.1) (fun z => h2 (hA q z))]; exact hS.2.1 q h1 h2, fun q hq => by
      rcases List.mem_append.mp hq with h | h
      · exact hS.2.2 q h
      · exact hA _ (hL q h)⟩ T' rfl X'
  refine ⟨t2, st t2 ?_, b1⟩
  have : (Option.map (ix_cv E) r).toList = r.toList.map (ix_cv E) := by cases r <;> rfl
  rw [this]
  exact a1
theorem ix_H.at {p : Program} {e : Env} {R : Room} {s : State} {m : MethodId} {args : Array Value} {below : List Frame} {meth : Method} {c : Code} {cells slots : Nat} {Qw : State → Prop} {E : ix_E} {A : Nat → Prop} {Q : ix_R → Prop} (hC : ix_C p l e R s m args below meth c cells slots Qw E nL A cc own d rt Q) {μ : ix_M} {H : Heap} {locs : List Loc} (hP : va_P E.1 vwCl (ix_w E μ) H) (hS : va_S A s.heap H locs) {U : State} (hU : U.heap = H) (hW : s.WarmedH U.vm) : ix_H E μ U := by
  refine ⟨by rw [hU]; exact hP, hC.2.2.2.2.2.1.warm hW, ?_⟩
  rw [hU]
  exact (hC.2.2.2.2.2.2.1.kept (fun a h1 h2 => hS.2.1 a h1 (fun z => h2 (hC.2.2.2.2.2.2.2.2.2.1 a h1 z)))).moved hW.alike
theorem ix_call_mono {P : Type} {na n : Nat} {sh : P → List ix_V} {T : P → ix_M → (ix_R → Prop) → Prop} (k k' : ix_K) (Q : ix_R → Prop) (ls : ix_L) (st : List ix_V) (μ : ix_M) (hk : ∀ x, k x → k' x) (h : ix_call na sh T n k Q ls st μ) : ix_call na sh T n k' Q ls st μ := by
  obtain ⟨h1, x, h2, Q', h3, h4⟩ := h
  exact ⟨h1, x, h2, Q', h3, fun r hr => hk _ (h4 r hr)⟩
theorem ix_st_split (E : ix_E) (na : Nat) (st : List ix_V) : st.map (ix_cv E) = ((st.take na).reverse.map (ix_cv E)).reverse ++ (st.drop na).map (ix_cv E) := by
  rw [← List.map_reverse, List.reverse_reverse, ← List.map_append, List.take_append_drop]
theorem ix_s_calls {P : Type} {y : MethodName} {c' : ByteArray} {nL' d' na index : Nat} {rt' : Option FieldType} {sh : P → List ix_V} {T : P → ix_M → (ix_R → Prop) → Prop} (hct : ix_Ct l y c' nL' rt' d' sh T) (hd' : d' < d) (hn' : nL' ≤ 21) (hcode : Cond.code y c' nL' rt' ∈ ix_TB) (hini : Cond.initialized y.cls ∈ ix_TB) (hlink : Cond.methodLink own index y ∈ ix_TB) (hsta : Cond.static y ∈ ix_TB)
    (hdd : y.cls ≠ "java/lang/invoke/MethodHandle" ∧ y.cls ≠ "java/lang/invoke/VarHandle" ∧ (parseMethodDescriptor y.desc).map (fun d => d.parameters.length) = some na) (hlen : ∀ x, (sh x).length = na) (hd : decode cc pc = .ok (.invokestatic index, 3)) : ix_S l cc nL own d rt pc (ix_call na sh T (pc + 3)) := by
  refine ⟨fun k k' Q ls st μ hk h => ix_call_mono k k' Q ls st μ hk h, fun p e R s m args below meth c cells slots Qw E A Q hC ls st μ h H locs lsa hP hS hl hok => ?_⟩
  obtain ⟨hcs, x, hx, Q', hT, hkk⟩ := h
  obtain ⟨r1, r2, r3, r4⟩ := hC.2.2.2.2.2.2.2.2.2.2.1
  have hokx : ∀ v ∈ sh x, ix_ok v := fun v hv => hok v (List.mem_of_mem_take (by rw [← hx] at hv; exact List.mem_reverse.mp hv))
  show W _ _ _ _ _ _ _ _ _ _ _ _ _ _ _ (F0 m pc lsa (st.map (ix_cv E)))
  refine ix_after (E := E) (Q' := Q') (A := A) (rest := (st.drop na).map (ix_cv E)) (va_runS (As := (sh x).map (ix_cv E)) (rest := (st.drop na).map (ix_cv E)) ⟨hC.1, hC.2.1, hC.2.2.1, hC.2.2.2.1, hC.2.2.2.2.1⟩ (hct E x μ Q' hC.2.2.2.2.2.2.2.1 hokx hT) ⟨callB_of na hC.2.2.2.2.1 (ix_TB_good hcode) rfl rfl rfl (hC.2.2.2.2.1 _ hini) (hC.2.2.2.2.1 _ hlink) hdd ⟨by show d' + 1 ≤ _; omega, by show 8 + (nL' + 11) + 40 * d' ≤ _; omega⟩, hC.2.2.2.2.1 _ hsta⟩ ⟨ix_blind, fun U hU hW => ⟨rfl, ix_H.at hC hP hS hU hW⟩⟩ rfl (by rw [List.length_map]; exact hlen x) hl.2.1 (by rw [← hx]; exact ix_st_split E na st) (lv_room (by rw [ix_cs_cat]; exact hcs)) hd ⟨r3, r4⟩) hS hC.2.2.2.2.2.2.2.2.1 (fun r H1 locs1 hQ hokr hP1 hS1 => ?_)
  have h2 := hkk r hQ H1 locs1 lsa hP1 hS1 hl (fun v hv => by
    rcases List.mem_append.mp hv with h | h
    · exact hokr v (Option.mem_toList.mp h)
    · exact hok v (List.mem_of_mem_drop h))
  rw [← List.map_append]
  exact h2
theorem ix_s_callsN {P : Type} {y : MethodName} {c' : ByteArray} {nL' d' na index : Nat} {rt' : Option FieldType} {host : String} {sh : P → List ix_V} {T : P → ix_M → (ix_R → Prop) → Prop} (hct : ix_Ct l y c' nL' rt' d' sh T) (hd' : d' < d) (hn' : nL' ≤ 21) (hcode : Cond.code y c' nL' rt' ∈ ix_TB) (hini : Cond.initialized y.cls ∈ ix_TB) (hlink : (own, index, y, host) ∈ ix_nests) (hsta : Cond.static y ∈ ix_TB)
    (hdd : y.cls ≠ "java/lang/invoke/MethodHandle" ∧ y.cls ≠ "java/lang/invoke/VarHandle" ∧ (parseMethodDescriptor y.desc).map (fun d => d.parameters.length) = some na) (hlen : ∀ x, (sh x).length = na) (hd : decode cc pc = .ok (.invokestatic index, 3)) : ix_S l cc nL own d rt pc (ix_call na sh T (pc + 3)) := by
  refine ⟨fun k k' Q ls st μ hk h => ix_call_mono k k' Q ls st μ hk h, fun p e R s m args below meth c cells slots Qw E A Q hC ls st μ h H locs lsa hP hS hl hok => ?_⟩
  obtain ⟨hcs, x, hx, Q', hT, hkk⟩ := h
  obtain ⟨r1, r2, r3, r4⟩ := hC.2.2.2.2.2.2.2.2.2.2.1
  have hokx : ∀ v ∈ sh x, ix_ok v := fun v hv => hok v (List.mem_of_mem_take (by rw [← hx] at hv; exact List.mem_reverse.mp hv))
  show W _ _ _ _ _ _ _ _ _ _ _ _ _ _ _ (F0 m pc lsa (st.map (ix_cv E)))
  refine ix_after (E := E) (Q' := Q') (A := A) (rest := (st.drop na).map (ix_cv E)) (va_runSN (As := (sh x).map (ix_cv E)) (rest := (st.drop na).map (ix_cv E)) ⟨hC.1, hC.2.1, hC.2.2.1, hC.2.2.2.1, hC.2.2.2.2.1⟩ (hct E x μ Q' hC.2.2.2.2.2.2.2.1 hokx hT) ⟨va_cnB na hC.2.2.2.2.1 (ix_TB_good hcode) rfl rfl rfl (hC.2.2.2.2.2.1.2.1 _ hlink) (hC.2.2.2.2.1 _ hini) hdd ⟨by show d' + 1 ≤ _; omega, by show 8 + (nL' + 11) + 40 * d' ≤ _; omega⟩, hC.2.2.2.2.1 _ hsta, trivial⟩ ⟨ix_blind, fun U hU hW => ⟨rfl, ix_H.at hC hP hS hU hW⟩⟩ rfl (by rw [List.length_map]; exact hlen x) hl.2.1 (by rw [← hx]; exact ix_st_split E na st) (lv_room (by rw [ix_cs_cat]; exact hcs)) hd ⟨r3, r4⟩) hS hC.2.2.2.2.2.2.2.2.1 (fun r H1 locs1 hQ hokr hP1 hS1 => ?_)
  have h2 := hkk r hQ H1 locs1 lsa hP1 hS1 hl (fun v hv => by
    rcases List.mem_append.mp hv with h | h
    · exact hokr v (Option.mem_toList.mp h)
    · exact hok v (List.mem_of_mem_drop h))
  rw [← List.map_append]
  exact h2
theorem ix_s_callv {P : Type} {y : MethodName} {c' : ByteArray} {nL' d' na index t : Nat} {q : vw_C} {rt' : Option FieldType} {sh : P → List ix_V} {T : P → ix_M → (ix_R → Prop) → Prop} (hct : ix_Ct l y c' nL' rt' d' sh T) (hd' : d' < d) (hn' : nL' ≤ 21) (hcode : Cond.code y c' nL' rt' ∈ ix_TB) (hini : Cond.initialized y.cls ∈ ix_TB) (hlink : Cond.methodLink own index y ∈ ix_TB) (hins : Cond.instanceMethod y ∈ ix_TB) (hsel : Cond.selects y.cls y y ∈ ix_TB)
    (hdd : y.cls ≠ "java/lang/invoke/MethodHandle" ∧ y.cls ≠ "java/lang/invoke/VarHandle" ∧ (parseMethodDescriptor y.desc).map (fun d => d.parameters.length) = some na) (ht : t < 20) (hc : vwCl[t]? = some q) (hq : q.1 = y.cls) (hsh : ∀ x, ∃ k as, sh x = .inr (.inr (t, k)) :: as ∧ as.length = na) (hd : decode cc pc = .ok (.invokevirtual index, 3)) : ix_S l cc nL own d rt pc (ix_call (na + 1) sh T (pc + 3)) := by
  refine ⟨fun k k' Q ls st μ hk h => ix_call_mono k k' Q ls st μ hk h, fun p e R s m args below meth c cells slots Qw E A Q hC ls st μ h H locs lsa hP hS hl hok => ?_⟩
  obtain ⟨hcs, x, hx, Q', hT, hkk⟩ := h
  obtain ⟨r1, r2, r3, r4⟩ := hC.2.2.2.2.2.2.2.2.2.2.1
  have hokx : ∀ v ∈ sh x, ix_ok v := fun v hv => hok v (List.mem_of_mem_take (by rw [← hx] at hv; exact List.mem_reverse.mp hv))
  obtain ⟨k0, as, hs1, hs2⟩ := hsh x
  have hok0 := ix_ok_at (hokx (.inr (.inr (t, k0))) (by rw [hs1]; exact List.mem_cons_self)) (by omega) (by omega)
  have hMet := hct E x μ Q' hC.2.2.2.2.2.2.2.1 hokx hT
  rw [hs1, List.map_cons, ix_cv_at (by omega) (by omega)] at hMet
  have hsp := ix_st_split E (na + 1) st
  rw [hx, hs1, List.map_cons, ix_cv_at (by omega) (by omega), List.reverse_cons, List.append_assoc] at hsp
  show W _ _ _ _ _ _ _ _ _ _ _ _ _ _ _ (F0 m pc lsa (st.map (ix_cv E)))
  refine ix_after (E := E) (Q' := Q') (A := A) (rest := (st.drop (na + 1)).map (ix_cv E)) (va_runV (C := y.cls) (As := as.map (ix_cv E)) (rest := (st.drop (na + 1)).map (ix_cv E)) ⟨hC.1, hC.2.1, hC.2.2.1, hC.2.2.2.1, hC.2.2.2.2.1⟩ hMet ⟨callB_of na hC.2.2.2.2.1 (ix_TB_good hcode) rfl rfl rfl (hC.2.2.2.2.1 _ hini) (hC.2.2.2.2.1 _ hlink) hdd ⟨by show d' + 1 ≤ _; omega, by show 8 + (nL' + 11) + 40 * d' ≤ _; omega⟩, hC.2.2.2.2.1 _ hins, hC.2.2.2.2.1 _ hsel⟩ ⟨ix_blind, ?_, fun U hU hW => ⟨rfl, ix_H.at hC hP hS hU hW⟩⟩ rfl (by rw [List.length_map]; exact hs2) hl.2.1 hsp (lv_room (by rw [ix_cs_cat]; exact hcs)) hd ⟨r3, r4⟩) hS hC.2.2.2.2.2.2.2.2.1 (fun r H1 locs1 hQ hokr hP1 hS1 => ?_)
  · rw [← hq]
    exact va_recv hC.2.2.2.2.2.1.1 hP hc (by rw [ix_w_at E _ hok0.1, ix_ce_obj hok0.2 ht])
  · have h2 := hkk r hQ H1 locs1 lsa hP1 hS1 hl (fun v hv => by
      rcases List.mem_append.mp hv with h | h
      · exact hokr v (Option.mem_toList.mp h)
      · exact hok v (List.mem_of_mem_drop h))
    rw [← List.map_append]
    exact h2
end IXD
