/-! ===== the claim out of one walk of the law's body: the SKELETON's head, then what holds at the entry ===== -/
def R_law : String := "IndigoBoatsLaw"
def lw_P (b : Addr) (xs : List Int32) (args : Array Value) (s : State) : Prop := args = #[.ref b] ∧ s.IntsAt b xs ∧ xs.length ≤ 3072 ∧ (Jvm.Cond.and given_1 narrow_1).before args s = true
def lw_Q (_ : Array Value) (s : State) (o : Outcome) (t : State) : Prop := o = .returned (some (.int 1)) ∧ Framed s o t [] 600000 7302249
def lw_Z (below : List Frame) (a : Array Value) (s : State) : State → Prop := fun t => ∃ o, t.status = .running ∧ Ended t below o ∧ lw_Q a s o t
/-- the law's own end, with 1 on the stack, nothing written that was there before, its room as the claim has it -/
theorem lw_ret {p : Program} {l : Launch} {e : Env} {s : State} {m : MethodId} {below : List Frame} {meth : Method} {c : Code} {b : Nat} (hx : p.tables.exec = Jvm.exec) (hb : c.code = code) (hr : meth.sig.returnType = ret) (hlocks : meth.locks = false) {pc : Nat} {H : Heap} {ls : Array Slot} (hdg : decode code pc = .ok (.ireturn, 1)) : W p l e room_1 s m #[Value.ref b] below meth c H [] 600000 7302249 (lw_Z below #[Value.ref b] s) (F0 m pc ls [.int 1]) := by
  intro T hT X
  obtain ⟨fs, hret, hrun, hended, hW, hframe⟩ := X.leave (v := some (.int 1)) (hlocks := hlocks) (fun h => by rw [hr] at h; cases h)
  have hmeth' : T.vm.method? m = some meth := X.method'
  refine ⟨T.setFrames fs, ?_, .returned (some (.int 1)), hrun, hended, rfl, ⟨_, rfl⟩, hW, hframe⟩
  jvm_step X.here [X.here.top, hx, hb, hdg, hmeth', hr, ret, narrow_b1]
  (try refine ⟨rfl, ?_⟩); (try refine ⟨rfl, ?_⟩)
  first | (intro acts; rw [hret _ acts rfl rfl rfl]) | rw [hret _ _ rfl rfl rfl]
  exact Steps.refl _
/-- what holds at the law's entry: the machine, the code, the tables' words (any of lw_tbl by 'hts w (by decide +kernel)'), the script of L ints xs at the cell b, what the Statement gives of the start (any of its parts by flat_of_before) -/
def lw_At (p : Program) (s : State) (m : MethodId) (meth : Method) (c : Code) (b L : Nat) (xs : Nat → Int32) : Prop :=
  p.tables.exec = Jvm.exec ∧ c.code = code ∧ meth.sig.returnType = ret ∧ c.maxLocals = 4 ∧ s.vm.findClass R_law = some m.cls ∧ (∀ w ∈ lw_tbl, w.before #[Value.ref b] s = true) ∧ va_X b L xs s s.heap ∧ b < s.heap.size ∧ meth.locks = false ∧ (Jvm.Cond.and given_1 narrow_1).before #[Value.ref b] s = true
theorem st_RA {b : Nat} {s : State} {C : String} (h : (Cond.arrayOver (.object C)).before #[Value.ref b] s = true) : ∃ cA : ClassId, ArrOfT s cA (.object C) ∧ va_RA s cA (.object C) := by
  obtain ⟨comp, cA, kA, f1, -, f2, f3, f4⟩ := Cond.arrayOver_spec h
  exact ⟨cA, fun N z => ⟨(fun k h => by cases h), kA, f2, comp, f3⟩, kA, comp, f2, f3, f1, f4⟩
theorem st_RI {b : Nat} {s : State} (h : (Cond.arrayClass .int).before #[Value.ref b] s = true) : ∃ cA : ClassId, ArrOfT s cA .int ∧ va_RA s cA .int := by
  obtain ⟨cA, kA, comp, f1, f2, f3⟩ := Cond.arrayClass_spec h
  exact ⟨cA, fun N z => ⟨(fun k h => by cases h), kA, f2, comp, f3⟩, f1⟩
theorem st_tC {b : Nat} {s : State} (hts : ∀ w ∈ lw_tbl, w.before #[Value.ref b] s = true) : ∃ tC : Nat → ClassId, ∀ (k : Nat) (q : ClassId × FieldType), (cx_ty tC)[k]? = some q → ArrOfT s q.1 q.2 ∧ va_RA s q.1 q.2 := by
  obtain ⟨t0, h0⟩ := st_RI (hts _ (List.mem_append_right _ (List.mem_of_getElem? (i := 83) (by decide +kernel))))
  obtain ⟨t1, h1⟩ := st_RA (C := "IndigoBoats$Water") (hts _ (List.mem_append_right _ (List.mem_of_getElem? (i := 164) (by decide +kernel))))
  obtain ⟨t2, h2⟩ := st_RA (C := "IndigoBoats$Sheet") (hts _ (List.mem_append_right _ (List.mem_of_getElem? (i := 233) (by decide +kernel))))
  obtain ⟨t3, h3⟩ := st_RA (C := "java/lang/String") (hts _ (List.mem_append_right _ (List.mem_of_getElem? (i := 872) (by decide +kernel))))
  refine ⟨fun k => if k = 0 then t0 else if k = 1 then t1 else if k = 2 then t2 else t3, ?_⟩
  intro k q hq
  match k, hq with
  | 0, hq => cases hq; exact h0
  | 1, hq => cases hq; exact h1
  | 2, hq => cases hq; exact h2
  | 3, hq => cases hq; exact h3
  | k + 4, hq => simp [cx_ty] at hq
theorem st_D {b : Nat} {s : State} (hts : ∀ w ∈ lw_tbl, w.before #[Value.ref b] s = true) : ∃ D : va_G, ∀ (k : Nat) (q : vw_C), vwCl[k]? = some q → u_Kn s q.1 q.2.1 q.2.2 (D.1 k) (D.2 k) := by
  have ht : ∀ w ∈ ix_TB, w.before #[Value.ref b] s = true := fun w hw => hts w (List.mem_filter.mp hw).1
  obtain ⟨c0, i0, h0⟩ := u_known (C := RX1) (T := TX1) (N := 2) (n := 2) ht tu_X1 (hts _ (List.mem_append_right _ (List.mem_of_getElem? (i := 85) (by decide +kernel))))
  obtain ⟨c1, i1, h1⟩ := u_known (C := RX2) (T := TX2) (N := 4) (n := 4) ht tu_X2 (hts _ (List.mem_append_right _ (List.mem_of_getElem? (i := 214) (by decide +kernel))))
  obtain ⟨c2, i2, h2⟩ := u_known (C := RX3) (T := TX3) (N := 4) (n := 4) ht tu_X3 (hts _ (List.mem_append_right _ (List.mem_of_getElem? (i := 166) (by decide +kernel))))
  obtain ⟨c3, i3, h3⟩ := u_known (C := RX4) (T := TX4) (N := 2) (n := 2) ht tu_X4 (hts _ (List.mem_append_right _ (List.mem_of_getElem? (i := 97) (by decide +kernel))))
  obtain ⟨c4, i4, h4⟩ := u_known (C := RX5) (T := TX5) (N := 2) (n := 2) ht tu_X5 (hts _ (List.mem_append_right _ (List.mem_of_getElem? (i := 235) (by decide +kernel))))
  obtain ⟨c5, i5, h5⟩ := u_known (C := RX6) (T := TX6) (N := 6) (n := 6) ht tu_X6 (hts _ (List.mem_append_right _ (List.mem_of_getElem? (i := 29) (by decide +kernel))))
  obtain ⟨c6, i6, h6⟩ := u_known (C := RX7) (T := TX7) (N := 2) (n := 2) ht tu_X7 (hts _ (List.mem_append_right _ (List.mem_of_getElem? (i := 91) (by decide +kernel))))
  obtain ⟨c7, i7, h7⟩ := u_known (C := RX8) (T := TX8) (N := 4) (n := 4) ht tu_X8 (hts _ (List.mem_append_right _ (List.mem_of_getElem? (i := 192) (by decide +kernel))))
  obtain ⟨c8, i8, h8⟩ := u_known (C := RX9) (T := TX9) (N := 10) (n := 10) ht tu_X9 (hts _ (List.mem_append_right _ (List.mem_of_getElem? (i := 35) (by decide +kernel))))
  obtain ⟨c9, i9, h9⟩ := u_known (C := RX10) (T := TX10) (N := 11) (n := 11) ht tu_X10 (hts _ (List.mem_append_right _ (List.mem_of_getElem? (i := 21) (by decide +kernel))))
  obtain ⟨c10, i10, h10⟩ := u_known (C := RX11) (T := TX11) (N := 26) (n := 26) ht tu_X11 (hts _ (List.mem_append_right _ (List.mem_of_getElem? (i := 866) (by decide +kernel))))
  refine ⟨(fun k => [c0, c1, c2, c3, c4, c5, c6, c7, c8, c9, c10].getD k c0, fun k => [i0, i1, i2, i3, i4, i5, i6, i7, i8, i9, i10].getD k i0), ?_⟩
  intro k q hq
  match k, hq with
  | 0, hq => cases hq; exact h0
  | 1, hq => cases hq; exact h1
  | 2, hq => cases hq; exact h2
  | 3, hq => cases hq; exact h3
  | 4, hq => cases hq; exact h4
  | 5, hq => cases hq; exact h5
  | 6, hq => cases hq; exact h6
  | 7, hq => cases hq; exact h7
  | 8, hq => cases hq; exact h8
  | 9, hq => cases hq; exact h9
  | 10, hq => cases hq; exact h10
  | k + 11, hq => simp [vwCl] at hq
theorem st_nc {b : Nat} {s : State} (hts : ∀ w ∈ lw_tbl, w.before #[Value.ref b] s = true) : ∀ q ∈ cx_nests, va_Nw (.methodLinkNest q.1 q.2.1 q.2.2.1 q.2.2.2) s := by
  unfold cx_nests
  refine List.forall_mem_cons.mpr ⟨va_Nw.of rfl (hts _ (List.mem_append_right _ (List.mem_of_getElem? (i := 86) (by decide +kernel)))), List.forall_mem_cons.mpr ⟨va_Nw.of rfl (hts _ (List.mem_append_right _ (List.mem_of_getElem? (i := 92) (by decide +kernel)))), List.forall_mem_cons.mpr ⟨va_Nw.of rfl (hts _ (List.mem_append_right _ (List.mem_of_getElem? (i := 167) (by decide +kernel)))), List.forall_mem_cons.mpr ⟨va_Nw.of rfl (hts _ (List.mem_append_right _ (List.mem_of_getElem? (i := 172) (by decide +kernel)))), List.forall_mem_cons.mpr ⟨va_Nw.of rfl (hts _ (List.mem_append_right _ (List.mem_of_getElem? (i := 193) (by decide +kernel)))), List.forall_mem_cons.mpr ⟨va_Nw.of rfl (hts _ (List.mem_append_right _ (List.mem_of_getElem? (i := 215) (by decide +kernel)))), List.forall_mem_cons.mpr ⟨va_Nw.of rfl (hts _ (List.mem_append_right _ (List.mem_of_getElem? (i := 236) (by decide +kernel)))), fun _ h => absurd h List.not_mem_nil⟩⟩⟩⟩⟩⟩⟩
theorem st_ni {b : Nat} {s : State} (hts : ∀ w ∈ lw_tbl, w.before #[Value.ref b] s = true) : ∀ q ∈ ix_nests, va_Nw (.methodLinkNest q.1 q.2.1 q.2.2.1 q.2.2.2) s := by
  unfold ix_nests
  refine List.forall_mem_cons.mpr ⟨va_Nw.of rfl (hts _ (List.mem_append_right _ (List.mem_of_getElem? (i := 324) (by decide +kernel)))), List.forall_mem_cons.mpr ⟨va_Nw.of rfl (hts _ (List.mem_append_right _ (List.mem_of_getElem? (i := 601) (by decide +kernel)))), List.forall_mem_cons.mpr ⟨va_Nw.of rfl (hts _ (List.mem_append_right _ (List.mem_of_getElem? (i := 618) (by decide +kernel)))), fun _ h => absurd h List.not_mem_nil⟩⟩⟩
theorem st_ao {b : Nat} {s : State} (hts : ∀ w ∈ lw_tbl, w.before #[Value.ref b] s = true) : ∀ C ∈ cx_AO, va_AO C s := by
  unfold cx_AO
  exact List.forall_mem_cons.mpr ⟨va_AO.of (hts _ (List.mem_append_right _ (List.mem_of_getElem? (i := 164) (by decide +kernel)))), List.forall_mem_cons.mpr ⟨va_AO.of (hts _ (List.mem_append_right _ (List.mem_of_getElem? (i := 233) (by decide +kernel)))), List.forall_mem_cons.mpr ⟨va_AO.of (hts _ (List.mem_append_right _ (List.mem_of_getElem? (i := 872) (by decide +kernel)))), fun _ h => absurd h List.not_mem_nil⟩⟩⟩
def st_tm (i : Nat) : Term := Term.string "IndigoBoats$Reader" (if i = 0 then 27 else if i = 1 then 37 else 39)
theorem st_Str {b : Nat} {s : State} {A : Nat → Prop} (hgv : (Jvm.Cond.and given_1 narrow_1).before #[Value.ref b] s = true) (hA : ∀ a : Nat, a < s.heap.size → ¬ A a) : ∃ adK adV : Nat → Nat, vk_S 3 [0, 3, 3] [[], [115, 100, 116], [108, 98, 104]] adK adV A s s.heap ∧ ∀ i : Nat, i < 3 → (st_tm i).eval #[Value.ref b] s none [] s = some (.ref (adK i)) := by
  have hs := flat_of_before _ hgv
  have c3 : ∀ {P : Nat → Prop}, P 0 → P 1 → P 2 → ∀ i, i < 3 → P i := fun h0 h1 h2 i hi => match i, hi with
    | 0, _ => h0
    | 1, _ => h1
    | 2, _ => h2
    | i + 3, hi => absurd hi (by omega)
  refine vk_Sof (tm := st_tm) (by decide) (c3 (hs _ (by decide +kernel)) (hs _ (by decide +kernel)) (hs _ (by decide +kernel))) (c3 (hs _ (by decide +kernel)) (hs _ (by decide +kernel)) (hs _ (by decide +kernel))) (c3 (hs _ (by decide +kernel)) (hs _ (by decide +kernel)) (hs _ (by decide +kernel))) (c3 (hs _ (by decide +kernel)) (hs _ (by decide +kernel)) (hs _ (by decide +kernel))) (fun i hi => ?_) (fun i j hi hj => ?_) hA
  · match i, hi with
    | 0, _ => exact fun j hj => absurd hj (Nat.not_lt_zero j)
    | 1, _ => exact fun j hj => c3 (P := fun j => (Cond.eq (.elem (.field (st_tm 1) "java/lang/String" "value" "[B") (.int (Int32.ofNat j))) (.int (([[], [115, 100, 116], [108, 98, 104]].getD 1 []).getD j 0))).before #[Value.ref b] s = true) (hs _ (by decide +kernel)) (hs _ (by decide +kernel)) (hs _ (by decide +kernel)) j hj
    | 2, _ => exact fun j hj => c3 (P := fun j => (Cond.eq (.elem (.field (st_tm 2) "java/lang/String" "value" "[B") (.int (Int32.ofNat j))) (.int (([[], [115, 100, 116], [108, 98, 104]].getD 2 []).getD j 0))).before #[Value.ref b] s = true) (hs _ (by decide +kernel)) (hs _ (by decide +kernel)) (hs _ (by decide +kernel)) j hj
    | i + 3, hi => exact absurd hi (by omega)
  · match i, hi, j, hj with
    | 0, _, 0, _ => exact fun h => absurd rfl h
    | 0, _, 1, _ => exact fun _ => Or.inl (hs _ (by decide +kernel))
    | 0, _, 2, _ => exact fun _ => Or.inl (hs _ (by decide +kernel))
    | 1, _, 0, _ => exact fun _ => Or.inr (hs _ (by decide +kernel))
    | 1, _, 1, _ => exact fun h => absurd rfl h
    | 1, _, 2, _ => exact fun _ => Or.inl (hs _ (by decide +kernel))
    | 2, _, 0, _ => exact fun _ => Or.inr (hs _ (by decide +kernel))
    | 2, _, 1, _ => exact fun _ => Or.inr (hs _ (by decide +kernel))
    | 2, _, 2, _ => exact fun h => absurd rfl h
    | i + 3, hi, _, _ => exact absurd hi (by omega)
    | 0, _, j + 3, hj => exact absurd hj (by omega)
    | 1, _, j + 3, hj => exact absurd hj (by omega)
    | 2, _, j + 3, hj => exact absurd hj (by omega)
