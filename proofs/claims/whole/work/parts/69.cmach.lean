/-! ===== constructors: a judgement over explicit worlds ===== -/
def cx_ty (tC : Nat → ClassId) : List (ClassId × FieldType) := [(tC 0, .int), (tC 1, .object "IndigoBoats$Water"), (tC 2, .object "IndigoBoats$Sheet"), (tC 3, .object "java/lang/String")]
abbrev cx_F : Type := Nat × List (Nat × Value) × List Value × va_W × Nat × Nat
def cx_J (p : Program) (l : Launch) (e : Env) (R : Room) (s : State) (m : MethodId) (args : Array Value) (below : List Frame) (meth : Method) (c : Code) (Qw : State → Prop) (D : va_G) (A : Nat → Prop) (nL : Nat) (fr : cx_F) : Prop :=
  ∀ (H : Heap) (locs : List Loc) (ls : Array Slot), va_P D vwCl fr.2.2.2.1 H → va_D A fr.2.2.2.1 → va_S A s.heap H locs → lv_has ls nL fr.2.1 → W p l e R s m args below meth c H locs fr.2.2.2.2.1 fr.2.2.2.2.2 Qw (F0 m fr.1 ls fr.2.2.1)
def cx_C (p : Program) (R : Room) (s : State) (m : MethodId) (args : Array Value) (c : Code) (D : va_G) (A : Nat → Prop) (nL : Nat) (cc : ByteArray) (own : String) (tC : Nat → ClassId) (d mc ms : Nat) : Prop :=
  p.tables.exec = Jvm.exec ∧ c.code = cc ∧ c.maxLocals = nL ∧ s.vm.findClass own = some m.cls ∧ (∀ w ∈ ix_TB, w.before args s = true) ∧ va_K D vwCl (cx_ty tC) s ∧ (∀ q, s.heap.size ≤ q → A q) ∧ d ≤ R.frames ∧ 40 * d ≤ R.locals ∧ mc ≤ R.cells ∧ ms ≤ R.slots
section CX
variable {p : Program} {l : Launch} {e : Env} {R : Room} {s : State} {m : MethodId} {args : Array Value} {below : List Frame} {meth : Method} {c : Code} {Qw : State → Prop} {D : va_G} {A : Nat → Prop} {nL : Nat} {cc : ByteArray} {own : String} {tC : Nat → ClassId} {d mc ms : Nat} {pc ce sl : Nat} {lv : List (Nat × Value)} {st : List Value} {ws : va_W}
theorem cx_aload_n (hC : cx_C p R s m args c D A nL cc own tC d mc ms) {k0 : Fin 4} {i a : Nat} (hd : decode cc pc = .ok (.aload_n k0, 1)) (hi : (k0 : Nat) = i) (j : Nat) (hj : lv[j]? = some (i, .ref a)) (k : cx_J p l e R s m args below meth c Qw D A nL (pc + 1, lv, .ref a :: st, ws, ce, sl)) : cx_J p l e R s m args below meth c Qw D A nL (pc, lv, st, ws, ce, sl) :=
  fun H locs ls hP hD hS hl => lv_aload_n hC.1 hC.2.1 hd hi (lv_at hl j hj) (k H locs ls hP hD hS hl)
theorem cx_iload_n (hC : cx_C p R s m args c D A nL cc own tC d mc ms) {k0 : Fin 4} {i : Nat} {x : Int32} (hd : decode cc pc = .ok (.iload_n k0, 1)) (hi : (k0 : Nat) = i) (j : Nat) (hj : lv[j]? = some (i, .int x)) (k : cx_J p l e R s m args below meth c Qw D A nL (pc + 1, lv, .int x :: st, ws, ce, sl)) : cx_J p l e R s m args below meth c Qw D A nL (pc, lv, st, ws, ce, sl) :=
  fun H locs ls hP hD hS hl => lv_iload_n hC.1 hC.2.1 hd hi (lv_at hl j hj) (k H locs ls hP hD hS hl)
theorem cx_iconst (hC : cx_C p R s m args c D A nL cc own tC d mc ms) {n : Int} {v : Int32} (hd : decode cc pc = .ok (.iconst n, 1)) (hv : Int32.ofInt n = v) (k : cx_J p l e R s m args below meth c Qw D A nL (pc + 1, lv, .int v :: st, ws, ce, sl)) : cx_J p l e R s m args below meth c Qw D A nL (pc, lv, st, ws, ce, sl) :=
  fun H locs ls hP hD hS hl => lv_iconst hC.1 hC.2.1 hd hv (k H locs ls hP hD hS hl)
theorem cx_bipush (hC : cx_C p R s m args c D A nL cc own tC d mc ms) {n : Int} {v : Int32} (hd : decode cc pc = .ok (.bipush n, 2)) (hv : (Int8.ofInt n).toInt32 = v) (k : cx_J p l e R s m args below meth c Qw D A nL (pc + 2, lv, .int v :: st, ws, ce, sl)) : cx_J p l e R s m args below meth c Qw D A nL (pc, lv, st, ws, ce, sl) :=
  fun H locs ls hP hD hS hl => lv_bipush hC.1 hC.2.1 hd hv (k H locs ls hP hD hS hl)
theorem cx_sipush (hC : cx_C p R s m args c D A nL cc own tC d mc ms) {n : Int} {v : Int32} (hd : decode cc pc = .ok (.sipush n, 3)) (hv : (Int16.ofInt n).toInt32 = v) (k : cx_J p l e R s m args below meth c Qw D A nL (pc + 3, lv, .int v :: st, ws, ce, sl)) : cx_J p l e R s m args below meth c Qw D A nL (pc, lv, st, ws, ce, sl) :=
  fun H locs ls hP hD hS hl => lv_sipush hC.1 hC.2.1 hd hv (k H locs ls hP hD hS hl)
theorem cx_dup (hC : cx_C p R s m args c D A nL cc own tC d mc ms) {va : Value} (hd : decode cc pc = .ok (.dup, 1)) (hva : va.category = 1) (k : cx_J p l e R s m args below meth c Qw D A nL (pc + 1, lv, va :: va :: st, ws, ce, sl)) : cx_J p l e R s m args below meth c Qw D A nL (pc, lv, va :: st, ws, ce, sl) :=
  fun H locs ls hP hD hS hl => lv_dup hC.1 hC.2.1 hd hva (k H locs ls hP hD hS hl)
theorem cx_goto (hC : cx_C p R s m args c D A nL cc own tC d mc ms) {off : Int} {t : Nat} (hd : decode cc pc = .ok (.goto off, 3)) (ht : (pc : Int) + off = (t : Int)) (k : cx_J p l e R s m args below meth c Qw D A nL (t, lv, st, ws, ce, sl)) : cx_J p l e R s m args below meth c Qw D A nL (pc, lv, st, ws, ce, sl) :=
  fun H locs ls hP hD hS hl => lv_goto hC.1 hC.2.1 hd ht (k H locs ls hP hD hS hl)
theorem cx_ge (hC : cx_C p R s m args c D A nL cc own tC d mc ms) {x y : Int32} {off : Int} {t : Nat} (hd : decode cc pc = .ok (.if_icmp .ge off, 3)) (ht : (pc : Int) + off = (t : Int)) (k1 : y ≤ x → cx_J p l e R s m args below meth c Qw D A nL (t, lv, st, ws, ce, sl)) (k2 : ¬ y ≤ x → cx_J p l e R s m args below meth c Qw D A nL (pc + 3, lv, st, ws, ce, sl)) : cx_J p l e R s m args below meth c Qw D A nL (pc, lv, .int y :: .int x :: st, ws, ce, sl) :=
  fun H locs ls hP hD hS hl => lv_icmp_ge hC.1 hC.2.1 hd ht (fun z => k1 z H locs ls hP hD hS hl) (fun z => k2 z H locs ls hP hD hS hl)
theorem cx_irem (hC : cx_C p R s m args c D A nL cc own tC d mc ms) {x y : Int32} (hd : decode cc pc = .ok (.irem, 1)) (hne : ¬ y = 0) (k : cx_J p l e R s m args below meth c Qw D A nL (pc + 1, lv, .int (x - x / y * y) :: st, ws, ce, sl)) : cx_J p l e R s m args below meth c Qw D A nL (pc, lv, .int y :: .int x :: st, ws, ce, sl) :=
  fun H locs ls hP hD hS hl => lv_irem hC.1 hC.2.1 hd hne (k H locs ls hP hD hS hl)
def cx_st (lv : List (Nat × Value)) (i : Nat) (v : Value) : List (Nat × Value) := (i, v) :: lv.filter (fun q => !(q.1 == i) && !(q.1 + 1 == i && q.2.category == 2))
theorem cx_istore_n (hC : cx_C p R s m args c D A nL cc own tC d mc ms) {k0 : Fin 4} {i : Nat} {x : Int32} {lv' : List (Nat × Value)} (hd : decode cc pc = .ok (.istore_n k0, 1)) (hi : (k0 : Nat) = i) (hn : i < nL) (hlv : cx_st lv i (.int x) = lv') (k : cx_J p l e R s m args below meth c Qw D A nL (pc + 1, lv', st, ws, ce, sl)) : cx_J p l e R s m args below meth c Qw D A nL (pc, lv, .int x :: st, ws, ce, sl) :=
  fun H locs ls hP hD hS hl => lv_istore_n hC.1 hC.2.1 hd hi hl hn hlv (fun ls' hl' => k H locs ls' hP hD hS hl')
theorem cx_iinc (hC : cx_C p R s m args c D A nL cc own tC d mc ms) {i : Nat} {n : Int} {x v : Int32} {lv' : List (Nat × Value)} (hd : decode cc pc = .ok (.iinc i n, 3)) (j : Nat) (hj : lv[j]? = some (i, .int x)) (hv : x + Int32.ofInt n = v) (hn : i < nL) (hlv : cx_st lv i (.int v) = lv') (k : cx_J p l e R s m args below meth c Qw D A nL (pc + 3, lv', st, ws, ce, sl)) : cx_J p l e R s m args below meth c Qw D A nL (pc, lv, st, ws, ce, sl) :=
  fun H locs ls hP hD hS hl => lv_iinc hC.1 hC.2.1 hd hl hj hv hn hlv (fun ls' hl' => k H locs ls' hP hD hS hl')
theorem cx_obj (hC : cx_C p R s m args c D A nL cc own tC d mc ms) {idx a : Nat} (h1 : Cond.methodLink own idx Lib.objectInit ∈ ix_TB) (h2 : Cond.instanceMethod Lib.objectInit ∈ ix_TB) (h3 : Cond.code Lib.objectInit ⟨#[0xb1]⟩ 1 none ∈ ix_TB) (hd : decode cc pc = .ok (.invokespecial idx, 3)) (hdd : 1 ≤ d) (hcat : (st.map fun v => v.category).sum ≤ 8) (k : cx_J p l e R s m args below meth c Qw D A nL (pc + 3, lv, st, ws, ce, sl)) : cx_J p l e R s m args below meth c Qw D A nL (pc, lv, .ref a :: st, ws, ce, sl) := by
  intro H locs ls hP hD hS hl
  obtain ⟨c1, c2, c3, c4, c5, c6, c7, c8, c9, c10, c11⟩ := hC
  exact W.objInit c1 c2 c4 (c5 _ h1) (c5 _ h2) (c5 _ h3) rfl (by rw [c3]; exact hl.1) rfl hd (by omega) (by show 2 * 0 + _ + 12 ≤ _; omega) (k H locs ls hP hD hS hl)
theorem cx_mmax (hC : cx_C p R s m args c D A nL cc own tC d mc ms) {index : Nat} (hl0 : Cond.methodLink own index Lib.Math.max.name ∈ ix_TB) (hs0 : Cond.static Lib.Math.max.name ∈ ix_TB) (hi0 : Cond.initialized "java/lang/Math" ∈ ix_TB) (hc0 : Cond.code Lib.Math.max.name Lib.Math.max.code 2 (some .int) ∈ ix_TB) (hdd : 1 ≤ d) (hcat : (st.map fun v => v.category).sum ≤ 8) (hce : ce ≤ mc) (hsl : sl ≤ ms) {x y : Int32} (hd : decode cc pc = .ok (.invokestatic index, 3)) (k : cx_J p l e R s m args below meth c Qw D A nL (pc + 3, lv, .int (if x < y then y else x) :: st, ws, ce, sl)) : cx_J p l e R s m args below meth c Qw D A nL (pc, lv, .int y :: .int x :: st, ws, ce, sl) := by
  intro H locs ls hP hD hS hl
  obtain ⟨c1, c2, c3, c4, c5, c6, c7, c8, c9, c10, c11⟩ := hC
  exact va_mmax c1 c2 (by rw [c3]; exact hl.1.symm) c4 (c5 _ hl0) (c5 _ hs0) (c5 _ hi0) (c5 _ hc0) (by omega) (by omega) (Nat.le_trans hce c10) (Nat.le_trans hsl c11) hd (k H locs ls hP hD hS hl)
theorem cx_newi (hC : cx_C p R s m args c D A nL cc own tC d mc ms) (hw : Cond.arrayClass .int ∈ ix_TB) {n : Int32} {N : Nat} (hn : ¬ n < 0) (hN : n.toNatClampNeg = N) (hbytes : N * componentBytes .int ≤ 536870912) (hce : ce + 1 ≤ mc) (hsl : sl + N ≤ ms) (hd : decode cc pc = .ok (.newarray .int, 2)) (k : ∀ q, cx_J p l e R s m args below meth c Qw D A nL (pc + 2, lv, .ref q :: st, ws ++ [(q, .inl (tC 0, N, .inl (fun _ => 0)))], ce + 1, sl + N)) : cx_J p l e R s m args below meth c Qw D A nL (pc, lv, .int n :: st, ws, ce, sl) := by
  intro H locs ls hP hD hS hl
  obtain ⟨c1, c2, c3, c4, c5, c6, c7, c8, c9, c10, c11⟩ := hC
  refine va_newa (atype := .int) (ty := .int) (a0 := (N, .inl (fun _ => 0))) c1 c2 (c5 _ hw) rfl c6 hP hD hS c7 (fun cA => rfl) hn hN hbytes (Nat.le_trans hce c10) (Nat.le_trans hsl c11) hd (fun q cA H1 hK1 hP1 hD1 hS1 => ?_)
  have e : cA = tC 0 := by
    have h1 := (hK1.2 4 (cA, .int) rfl).2
    have h2 := (c6.2 0 (tC 0, .int) rfl).2
    exact Option.some.inj (h1.symm.trans h2)
  subst e
  exact k q H1 locs ls hP1 hD1 hS1 hl
theorem cx_putF (hC : cx_C p R s m args c D A nL cc own tC d mc ms) (hinit : meth.name = "<init>") {ref C : String} {T : u_T} {N ci index : Nat} (hin : ∀ w ∈ u_ws C T N, w ∈ ix_TB) (ty0 : Nat → FieldType) (hty : ∀ k, k < N → parseFieldDescriptor (T k).2.2.1 = some (ty0 k)) (hnm : ∀ a, a < N → ∀ b, b < N → a ≠ b → (T a).2.1 ≠ (T b).2.1) (q0 : Nat) {a : Nat} {fs : List Value} (he : ws[q0]? = some (a, .inr (ci, fs))) (hc : vwCl[ci]? = some (C, T, N)) (k : Nat) (hk : k < N) (hlink : Cond.fieldLink own index ref (T k).2.1 (T k).2.2.1 ∈ ix_TB) (href : (T k).1 = ref) (hfin : (T k).2.2.2 = true) (hdecl : (T k).1 = own) {ty : FieldType} {v : Value} (hd0 : parseFieldDescriptor (T k).2.2.1 = some ty) (hn : narrow ty v = v) (hfit : fits ty v = true) (hl0 : k < fs.length) (hd : decode cc pc = .ok (.putfield index, 3)) {ws' : va_W} (hws : ws.set q0 (a, .inr (ci, fs.set k v)) = ws') (kk : cx_J p l e R s m args below meth c Qw D A nL (pc + 3, lv, st, ws', ce, sl)) : cx_J p l e R s m args below meth c Qw D A nL (pc, lv, v :: .ref a :: st, ws, ce, sl) := by
  intro H locs ls hP hD hS hl
  subst hws
  obtain ⟨c1, c2, c3, c4, c5, c6, c7, c8, c9, c10, c11⟩ := hC
  exact va_putF c1 c2 c5 hin ty0 hty hnm c4 c6 hP hD hS q0 he hc k hk (c5 _ hlink) (by rw [href]; exact fun _ h => h) hfin hinit hdecl hd0 hn hfit hl0 hd (fun H1 locs1 h1 h2 h3 => kk H1 locs1 ls h1 h2 h3 hl)
theorem cx_put (hC : cx_C p R s m args c D A nL cc own tC d mc ms) {ref C : String} {T : u_T} {N ci index : Nat} (hin : ∀ w ∈ u_ws C T N, w ∈ ix_TB) (ty0 : Nat → FieldType) (hty : ∀ k, k < N → parseFieldDescriptor (T k).2.2.1 = some (ty0 k)) (hnm : ∀ a, a < N → ∀ b, b < N → a ≠ b → (T a).2.1 ≠ (T b).2.1) (q0 : Nat) {a : Nat} {fs : List Value} (he : ws[q0]? = some (a, .inr (ci, fs))) (hc : vwCl[ci]? = some (C, T, N)) (k : Nat) (hk : k < N) (hlink : Cond.fieldLink own index ref (T k).2.1 (T k).2.2.1 ∈ ix_TB) (href : (T k).1 = ref) (hfin : (T k).2.2.2 = false) {ty : FieldType} {v : Value} (hd0 : parseFieldDescriptor (T k).2.2.1 = some ty) (hn : narrow ty v = v) (hfit : fits ty v = true) (hl0 : k < fs.length) (hd : decode cc pc = .ok (.putfield index, 3)) {ws' : va_W} (hws : ws.set q0 (a, .inr (ci, fs.set k v)) = ws') (kk : cx_J p l e R s m args below meth c Qw D A nL (pc + 3, lv, st, ws', ce, sl)) : cx_J p l e R s m args below meth c Qw D A nL (pc, lv, v :: .ref a :: st, ws, ce, sl) := by
  intro H locs ls hP hD hS hl
  subst hws
  obtain ⟨c1, c2, c3, c4, c5, c6, c7, c8, c9, c10, c11⟩ := hC
  exact va_put c1 c2 c5 hin ty0 hty hnm c4 c6 hP hD hS q0 he hc k hk (c5 _ hlink) (by rw [href]; exact fun _ h => h) hfin hd0 hn hfit hl0 hd (fun H1 locs1 h1 h2 h3 => kk H1 locs1 ls h1 h2 h3 hl)
theorem cx_new (hC : cx_C p R s m args c D A nL cc own tC d mc ms) {C : String} {T : u_T} {N ci index : Nat} (hin : ∀ w ∈ u_ws C T N, w ∈ ix_TB) (ty0 : Nat → FieldType) (hty : ∀ k, k < N → parseFieldDescriptor (T k).2.2.1 = some (ty0 k)) (hcl : Cond.classLink own index C ∈ ix_TB) (hinst : Cond.instantiable C N ∈ ix_TB) (hini : Cond.initialized C ∈ ix_TB) (hc : vwCl[ci]? = some (C, T, N)) {fs : List Value} (hfs : ∀ j, j < N → defaultValue (ty0 j) = vp_V fs j) (hce : ce + 1 ≤ mc) (hsl : sl + N ≤ ms) (hd : decode cc pc = .ok (.new index, 3)) (k : ∀ q, cx_J p l e R s m args below meth c Qw D A nL (pc + 3, lv, .ref q :: st, ws ++ [(q, .inr (ci, fs))], ce + 1, sl + N)) : cx_J p l e R s m args below meth c Qw D A nL (pc, lv, st, ws, ce, sl) := by
  intro H locs ls hP hD hS hl
  obtain ⟨c1, c2, c3, c4, c5, c6, c7, c8, c9, c10, c11⟩ := hC
  exact va_new c1 c2 c5 hin ty0 hty c4 (c5 _ hcl) (c5 _ hinst) (c5 _ hini) c6 hP hD hS c7 hc hfs (Nat.le_trans hce c10) (Nat.le_trans hsl c11) hd (fun q H1 h1 h2 h3 => k q H1 locs ls h1 h2 h3 hl)
theorem cx_gt (hC : cx_C p R s m args c D A nL cc own tC d mc ms) {x y : Int32} {off : Int} {t : Nat} (hd : decode cc pc = .ok (.if_icmp .gt off, 3)) (ht : (pc : Int) + off = (t : Int)) (k1 : y < x → cx_J p l e R s m args below meth c Qw D A nL (t, lv, st, ws, ce, sl)) (k2 : ¬ y < x → cx_J p l e R s m args below meth c Qw D A nL (pc + 3, lv, st, ws, ce, sl)) : cx_J p l e R s m args below meth c Qw D A nL (pc, lv, .int y :: .int x :: st, ws, ce, sl) :=
  fun H locs ls hP hD hS hl => lv_icmp_gt hC.1 hC.2.1 hd ht (fun z => k1 z H locs ls hP hD hS hl) (fun z => k2 z H locs ls hP hD hS hl)
theorem cx_iadd (hC : cx_C p R s m args c D A nL cc own tC d mc ms) {x y v : Int32} (hd : decode cc pc = .ok (.iadd, 1)) (hv : x + y = v) (k : cx_J p l e R s m args below meth c Qw D A nL (pc + 1, lv, .int v :: st, ws, ce, sl)) : cx_J p l e R s m args below meth c Qw D A nL (pc, lv, .int y :: .int x :: st, ws, ce, sl) := by
  subst hv
  exact fun H locs ls hP hD hS hl => lv_iadd hC.1 hC.2.1 hd (k H locs ls hP hD hS hl)
theorem cx_astore_n (hC : cx_C p R s m args c D A nL cc own tC d mc ms) {k0 : Fin 4} {i : Nat} {x : Nat} {lv' : List (Nat × Value)} (hd : decode cc pc = .ok (.astore_n k0, 1)) (hi : (k0 : Nat) = i) (hn : i < nL) (hlv : cx_st lv i (.ref x) = lv') (k : cx_J p l e R s m args below meth c Qw D A nL (pc + 1, lv', st, ws, ce, sl)) : cx_J p l e R s m args below meth c Qw D A nL (pc, lv, .ref x :: st, ws, ce, sl) :=
  fun H locs ls hP hD hS hl => lv_astore_n hC.1 hC.2.1 hd hi hl hn hlv (fun ls' hl' => k H locs ls' hP hD hS hl')
theorem cx_get (hC : cx_C p R s m args c D A nL cc own tC d mc ms) {ref C : String} {T : u_T} {N ci index : Nat} (hin : ∀ w ∈ u_ws C T N, w ∈ ix_TB) (q0 : Nat) {a : Nat} {fs : List Value} (he : ws[q0]? = some (a, .inr (ci, fs))) (hc : vwCl[ci]? = some (C, T, N)) (k : Nat) (hk : k < N) (hlink : Cond.fieldLink own index ref (T k).2.1 (T k).2.2.1 ∈ ix_TB) (href : (T k).1 = ref) {v : Value} (hv : fs[k]? = some v) (hd : decode cc pc = .ok (.getfield index, 3)) (kk : cx_J p l e R s m args below meth c Qw D A nL (pc + 3, lv, v :: st, ws, ce, sl)) : cx_J p l e R s m args below meth c Qw D A nL (pc, lv, .ref a :: st, ws, ce, sl) := by
  intro H locs ls hP hD hS hl
  obtain ⟨c1, c2, c3, c4, c5, c6, c7, c8, c9, c10, c11⟩ := hC
  exact va_get c1 c2 c5 hin c4 c6 hP q0 he hc k hk (c5 _ hlink) (by rw [href]; exact fun _ h => h) hv hd (kk H locs ls hP hD hS hl)
theorem cx_iast (hC : cx_C p R s m args c D A nL cc own tC d mc ms) (q0 : Nat) {a n : Nat} {f f' : Nat → Int32} (ha : ws[q0]? = some (a, .inl (tC 0, n, .inl f))) {i x : Int32} (hi : vp_in i n) (hf : upd f i.toNatClampNeg x = f') (hd : decode cc pc = .ok (.iastore, 1)) {ws' : va_W} (hws : ws.set q0 (a, .inl (tC 0, n, .inl f')) = ws') (kk : cx_J p l e R s m args below meth c Qw D A nL (pc + 1, lv, st, ws', ce, sl)) : cx_J p l e R s m args below meth c Qw D A nL (pc, lv, .int x :: .int i :: .ref a :: st, ws, ce, sl) := by
  intro H locs ls hP hD hS hl
  subst hws hf
  obtain ⟨c1, c2, c3, c4, c5, c6, c7, c8, c9, c10, c11⟩ := hC
  exact va_iast c1 c2 c6 hP hD hS q0 0 ha rfl hi hd (fun H1 locs1 h1 h2 h3 => kk H1 locs1 ls h1 h2 h3 hl)
theorem cx_astq (hC : cx_C p R s m args c D A nL cc own tC d mc ms) (q0 t0 qk ci : Nat) {a n v : Nat} {r : vw_C} {vs : List Value} {f f' : Nat → Option Nat} (ha : ws[q0]? = some (a, .inl (tC t0, n, .inr (.inr (.inr (.inr f)))))) (ht : (cx_ty tC)[t0]? = some (tC t0, .object r.1)) (hv : ws[qk]? = some (v, .inr (ci, vs))) (hc : vwCl[ci]? = some r) {i : Int32} (hi : vp_in i n) (hf : va_up f i.toNatClampNeg (some v) = f') (hd : decode cc pc = .ok (.aastore, 1)) {ws' : va_W} (hws : ws.set q0 (a, .inl (tC t0, n, .inr (.inr (.inr (.inr f'))))) = ws') (kk : cx_J p l e R s m args below meth c Qw D A nL (pc + 1, lv, st, ws', ce, sl)) : cx_J p l e R s m args below meth c Qw D A nL (pc, lv, .ref v :: .int i :: .ref a :: st, ws, ce, sl) := by
  intro H locs ls hP hD hS hl
  subst hws hf
  obtain ⟨c1, c2, c3, c4, c5, c6, c7, c8, c9, c10, c11⟩ := hC
  exact va_astq c1 c2 c6 hP hD hS q0 t0 qk ci ha ht hv hc hi hd (fun H1 locs1 h1 h2 h3 => kk H1 locs1 ls h1 h2 h3 hl)
theorem cx_astS (hC : cx_C p R s m args c D A nL cc own tC d mc ms) (q0 : Nat) {a n v : Nat} {f f' : Nat → Option Nat} (hv : va_O "java/lang/String" v A s s.heap) (ha : ws[q0]? = some (a, .inl (tC 3, n, .inr (.inr (.inr (.inr f)))))) {i : Int32} (hi : vp_in i n) (hf : va_up f i.toNatClampNeg (some v) = f') (hd : decode cc pc = .ok (.aastore, 1)) {ws' : va_W} (hws : ws.set q0 (a, .inl (tC 3, n, .inr (.inr (.inr (.inr f'))))) = ws') (kk : cx_J p l e R s m args below meth c Qw D A nL (pc + 1, lv, st, ws', ce, sl)) : cx_J p l e R s m args below meth c Qw D A nL (pc, lv, .ref v :: .int i :: .ref a :: st, ws, ce, sl) := by
  intro H locs ls hP hD hS hl
  subst hws hf
  obtain ⟨c1, c2, c3, c4, c5, c6, c7, c8, c9, c10, c11⟩ := hC
  obtain ⟨cell, g1, g2, g3, -⟩ := hv.kept hS.2.1
  exact vb_astq (E := "java/lang/String") (C := "java/lang/String") c1 c2 c6 hP hD hS q0 3 ha rfl ⟨cell, g1, g2, g3⟩ (fun comp c0 h1 h2 => by
    obtain rfl : comp = c0 := Option.some.inj (h1.symm.trans h2)
    exact va_asg _ _) hi hd (fun H1 locs1 h1 h2 h3 => kk H1 locs1 ls h1 h2 h3 hl)
theorem cx_anew (hC : cx_C p R s m args c D A nL cc own tC d mc ms) {C : String} {index : Nat} (t0 : Nat) (hov : va_AO C s) (hcl : Cond.classLink own index C ∈ ix_TB) (ht : (cx_ty tC)[t0]? = some (tC t0, .object C)) {n : Int32} {N : Nat} (hn : ¬ n < 0) (hN : n.toNatClampNeg = N) (hbytes : N * 4 ≤ 536870912) (hce : ce + 1 ≤ mc) (hsl : sl + N ≤ ms) (hd : decode cc pc = .ok (.anewarray index, 3)) (k : ∀ q, cx_J p l e R s m args below meth c Qw D A nL (pc + 3, lv, .ref q :: st, ws ++ [(q, .inl (tC t0, N, .inr (.inr (.inr (.inr (fun _ => none))))))], ce + 1, sl + N)) : cx_J p l e R s m args below meth c Qw D A nL (pc, lv, .int n :: st, ws, ce, sl) := by
  intro H locs ls hP hD hS hl
  obtain ⟨c1, c2, c3, c4, c5, c6, c7, c8, c9, c10, c11⟩ := hC
  refine va_newq c1 c2 c4 (c5 _ hcl) hov c6 hP hD hS c7 hn hN hbytes (Nat.le_trans hce c10) (Nat.le_trans hsl c11) hd (fun q cA H1 hK1 hP1 hD1 hS1 => ?_)
  have e : cA = tC t0 := by
    obtain ⟨k1, c1, x1, x2, x3, x4⟩ := (hK1.2 4 (cA, .object C) rfl).2
    obtain ⟨k2, c2, y1, y2, y3, y4⟩ := (c6.2 t0 (tC t0, .object C) ht).2
    exact Option.some.inj (x4.symm.trans y4)
  subst e
  exact k q H1 locs ls hP1 hD1 hS1 hl
theorem cx_ldcS (hC : cx_C p R s m args c D A nL cc own tC d mc ms) {tx : String} {index q : Nat} (hZ : vk_R own index tx q s) (hd : decode cc pc = .ok (.ldc index, 2)) (k : cx_J p l e R s m args below meth c Qw D A nL (pc + 2, lv, .ref q :: st, ws, ce, sl)) : cx_J p l e R s m args below meth c Qw D A nL (pc, lv, st, ws, ce, sl) :=
  fun H locs ls hP hD hS hl => va_ldcS hC.1 hC.2.1 hC.2.2.2.1 hZ hd (k H locs ls hP hD hS hl)
theorem cx_fm {α : Type} {g : Nat → Option α} : ∀ {is : List Nat} {w : List α}, is.map g = w.map some → is.filterMap g = w
  | [], [], _ => rfl
  | [], _ :: _, h => by cases h
  | _ :: _, [], h => by cases h
  | i :: is, x :: w, h => by
    have h1 : g i = some x := (List.cons.inj h).1
    rw [List.filterMap_cons_some h1, cx_fm (List.cons.inj h).2]
theorem cx_sub (is : List Nat) {ws' : va_W} (hs : is.map (fun i => ws[i]?) = ws'.map some) (hn : va_nd is = true) (k : cx_J p l e R s m args below meth c Qw D A nL (pc, lv, st, ws', ce, sl)) : cx_J p l e R s m args below meth c Qw D A nL (pc, lv, st, ws, ce, sl) :=
  fun H locs ls hP hD hS hl => k H locs ls (va_P.sub hP is (cx_fm hs)) (va_D.sub hD is hn hs) hS hl
end CX
/-- the nest links that constructors use -/
def cx_nests : List (String × Nat × MethodName × String) := [("IndigoBoats$State", 20, ⟨"IndigoBoats$Laws", "<init>", "()V"⟩, "IndigoBoats"), ("IndigoBoats$Laws", 9, ⟨"IndigoBoats$Text", "<init>", "()V"⟩, "IndigoBoats"), ("IndigoBoats", 27, ⟨"IndigoBoats$Reader", "<init>", "()V"⟩, "IndigoBoats"), ("IndigoBoats$Reader", 11, ⟨"IndigoBoats$Text", "<init>", "()V"⟩, "IndigoBoats"), ("IndigoBoats", 34, ⟨"IndigoBoats$Voices", "<init>", "()V"⟩, "IndigoBoats"), ("IndigoBoats", 41, ⟨"IndigoBoats$Matching", "<init>", "()V"⟩, "IndigoBoats"), ("IndigoBoats", 57, ⟨"IndigoBoats$Sheet", "<init>", "()V"⟩, "IndigoBoats")]
def cx_AO : List String := ["IndigoBoats$Water", "IndigoBoats$Sheet", "java/lang/String"]
def cx_K (D : va_G) (tC : Nat → ClassId) (sa : Nat → Nat) (U : State) : Prop := va_K D vwCl (cx_ty tC) U ∧ (∀ q ∈ cx_nests, va_Nw (.methodLinkNest q.1 q.2.1 q.2.2.1 q.2.2.2) U) ∧ (∀ C ∈ cx_AO, va_AO C U) ∧ vk_R "IndigoBoats$Reader" 27 "" (sa 0) U ∧ vk_R "IndigoBoatsModel" 28 "sdt" (sa 1) U ∧ vk_R "IndigoBoatsModel" 30 "lbh" (sa 2) U
theorem cx_K.warm {D : va_G} {tC : Nat → ClassId} {sa : Nat → Nat} {s U : State} (hW : s.WarmedH U.vm) (h : cx_K D tC sa s) : cx_K D tC sa U := ⟨va_K.moved hW.alike h.1, fun q hq => va_Nw.warmM hW (h.2.1 q hq), fun C hC => va_AO.moved hW.alike (h.2.2.1 C hC), vk_R.warm hW h.2.2.2.1, vk_R.warm hW h.2.2.2.2.1, vk_R.warm hW h.2.2.2.2.2⟩
theorem cx_K.same {D : va_G} {tC : Nat → ClassId} {sa : Nat → Nat} {s U : State} (hv : U.vm = s.vm) (h : cx_K D tC sa s) : cx_K D tC sa U := by
  have ha : s.vm.Alike U.vm := by rw [hv]; exact Vm.Alike.refl _
  exact ⟨va_K.moved ha h.1, fun q hq => va_Nw.same rfl hv.symm (h.2.1 q hq), fun C hC => va_AO.moved ha (h.2.2.1 C hC), vk_R.same hv h.2.2.2.1, vk_R.same hv h.2.2.2.2.1, vk_R.same hv h.2.2.2.2.2⟩
/-- Strings that are there -/
def cx_Z (zs : List Nat) (A : Nat → Prop) (U : State) (H : Heap) : Prop := ∀ a ∈ zs, va_O "java/lang/String" a A U H
theorem cx_Z.nil {A : Nat → Prop} {U : State} {H : Heap} : cx_Z [] A U H := fun _ h => by cases h
/-- a constructor's contract: from an object with the fields fs (class ci) and the cells wx, its arguments As, to a world that post tells -/
def cx_Ct (l : Launch) (y : MethodName) (cc : ByteArray) (nL d mc ms : Nat) (ci : Nat) (fs As : List Value) (wx : va_W) (zs : List Nat) (D : va_G) (tC : Nat → ClassId) (sa : Nat → Nat) (post : Nat → va_W → Prop) : Prop :=
  ∀ (h0 sz : Nat), Met l y (Cond.code y cc nL none :: ix_TB) { frames := d, cells := mc, slots := ms, locals := 40 * d } (va_Pc (.ref h0 :: As) (fun U => U.heap.size = sz ∧ va_P D vwCl ((h0, .inr (ci, fs)) :: wx) U.heap ∧ cx_K D tC sa U ∧ va_D (fun _ => True) ((h0, .inr (ci, fs)) :: wx) ∧ cx_Z zs (va_A ((h0, .inr (ci, fs)) :: wx) sz) U U.heap)) (va_Qv (fun w : va_W => post h0 w) (fun w t => va_P D vwCl w t.heap ∧ va_D (va_A ((h0, .inr (ci, fs)) :: wx) sz) w) (va_A ((h0, .inr (ci, fs)) :: wx) sz)) mc ms (va_A ((h0, .inr (ci, fs)) :: wx) sz)
theorem cx_ct {l : Launch} {y : MethodName} {cc : ByteArray} {nL d mc ms ci : Nat} {own : String} {fs As : List Value} {wx : va_W} {zs : List Nat} {D : va_G} {tC : Nat → ClassId} {sa : Nat → Nat} {post : Nat → va_W → Prop} (hy : y.cls = own) (hpl : plainName y.cls = true) (hnm : y.name = "<init>") (hsl : ∀ h0, (lg_sl (.ref h0 :: As)).length ≤ nL)
    (hJ : ∀ (p : Program) (e : Env) (R : Room) (s : State) (m : MethodId) (args : Array Value) (below : List Frame) (meth : Method) (c : Code) (Qw : State → Prop) (A : Nat → Prop) (h0 : Nat), cx_C p R s m args c D A nL cc own tC d mc ms → cx_K D tC sa s → cx_Z zs A s s.heap → meth.name = "<init>" → (∀ (w : va_W) (pc : Nat) (lv : List (Nat × Value)), post h0 w → decode cc pc = .ok (.return_, 1) → cx_J p l e R s m args below meth c Qw D A nL (pc, lv, [], w, mc, ms)) → cx_J p l e R s m args below meth c Qw D A nL (0, lv_args 0 (.ref h0 :: As), [], (h0, .inr (ci, fs)) :: wx, 0, 0)) : cx_Ct l y cc nL d mc ms ci fs As wx zs D tC sa post := by
  intro h0 sz
  refine Met.ofW (cc := cc) (maxL := nL) (ret := none) hpl rfl ?_
  intro p e s m args below meth c s₁ B hml hv
  obtain ⟨rfl, hsz, hP, hK, hD0, hZ⟩ := hv
  have hx := B.exec
  have hb := B.bytes
  have hr := B.returns
  have hts := atoms_spec (ws := Cond.code y cc nL none :: ix_TB) B.pre
  have hown : s.vm.findClass own = some m.cls := by rw [← hy]; exact findClass_of_methodNamed B.named
  have hlocks := B.notSynchronized
  have hin : meth.name = "<init>" := (name_of_methodNamed B.named B.method).1.trans hnm
  subst hsz
  have hD := hD0.self (sz := s.heap.size)
  have hC : cx_C p { frames := d, cells := mc, slots := ms, locals := 40 * d } s m (.ref h0 :: As : List Value).toArray c D (va_A ((h0, .inr (ci, fs)) :: wx) s.heap.size) nL cc own tC d mc ms := ⟨hx, hb, hml, hown, fun w hw => hts w (List.mem_cons_of_mem _ hw), hK.1, fun q h => Or.inr h, Nat.le_refl _, Nat.le_refl _, Nat.le_refl _, Nat.le_refl _⟩
  rw [lg_entry_eq]
  refine hJ p e _ s m _ below meth c _ _ h0 hC hK hZ hin (fun w pc lv hw hd H locs ls hP1 hD1 hS1 hl1 => ?_) s.heap [] _ hP hD va_S.rf (lv_entry (.ref h0 :: As) (hsl h0))
  exact W.vret hx hb hr (fun t ht hW => ⟨⟨w, rfl, hw, by rw [ht]; exact hP1, hD1⟩, hS1.F ht⟩) hS1.2.2 hd
