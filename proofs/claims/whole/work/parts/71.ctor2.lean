/-! ===== constructors: calls of constructors ===== -/
theorem cx_ndr : ∀ (n k : Nat), va_nd (List.range' k n) = true := by
  intro n
  induction n with
  | zero => intro k; rfl
  | succ n ih =>
    intro k
    rw [List.range'_succ]
    simp only [va_nd, ih, Bool.and_true]
    simp
    try omega
theorem cx_nd1 {wr w0 : va_W} : (List.range' 0 wr.length).map (fun i => (wr ++ w0)[i]?) = wr.map some := by
  apply List.ext_getElem?
  intro i
  by_cases h : i < wr.length
  · rw [List.getElem?_map, List.getElem?_range' h, List.getElem?_map]
    simp [List.getElem?_append_left h, List.getElem?_eq_getElem h]
  · rw [List.getElem?_eq_none (by simp; omega), List.getElem?_eq_none (by simp; omega)]
theorem cx_nd2 {wr w0 : va_W} : (List.range' wr.length w0.length).map (fun i => (wr ++ w0)[i]?) = w0.map some := by
  apply List.ext_getElem?
  intro i
  by_cases h : i < w0.length
  · rw [List.getElem?_map, List.getElem?_range' h, List.getElem?_map]
    simp [List.getElem?_append_right, List.getElem?_eq_getElem h]
  · rw [List.getElem?_eq_none (by simp; omega), List.getElem?_eq_none (by simp; omega)]
section CXI
variable {p : Program} {l : Launch} {e : Env} {R : Room} {s : State} {m : MethodId} {args : Array Value} {below : List Frame} {meth : Method} {c : Code} {Qw : State → Prop} {D : va_G} {A : Nat → Prop} {nL : Nat} {cc : ByteArray} {own : String} {tC : Nat → ClassId} {sa : Nat → Nat} {d mc ms : Nat} {pc ce sl : Nat} {lv : List (Nat × Value)} {st st0 : List Value} {ws wr : va_W}
theorem cx_blind {av : List Value} {sz : Nat} {w : va_W} {zs : List Nat} : FrameBlind (va_Pc av (fun U => U.heap.size = sz ∧ va_P D vwCl w U.heap ∧ cx_K D tC sa U ∧ va_D (fun _ => True) w ∧ cx_Z zs (va_A w sz) U U.heap)) := by
  intro a U g mk h
  obtain ⟨h1, h2, h3, h4, h5, h6⟩ := h
  exact ⟨h1, h2, h3, cx_K.same (s := U) (U := U.calling g mk a) rfl h4, h5, fun z hz => va_O.moved (u := U) (U := U.calling g mk a) (Vm.Alike.refl U.vm) (h6 z hz)⟩
theorem cx_init (hC : cx_C p R s m args c D A nL cc own tC d mc ms) (hK : cx_K D tC sa s) {y : MethodName} {c' : ByteArray} {nL' d' mc' ms' ci : Nat} {fs As : List Value} {wx : va_W} {zs : List Nat} {post : Nat → va_W → Prop} (hct : cx_Ct l y c' nL' d' mc' ms' ci fs As wx zs D tC sa post) (hZ : cx_Z zs A s s.heap) {index : Nat} (hdl : d' < d) (hnl : nL' ≤ 20) (hce : ce + mc' ≤ mc) (hsl : sl + ms' ≤ ms) (hcode : Cond.code y c' nL' none ∈ ix_TB) (hini : Cond.initialized y.cls ∈ ix_TB) (hml : Cond.methodLink own index y ∈ ix_TB) (him : Cond.instanceMethod y ∈ ix_TB) (hnm : y.name = "<init>") (hpd : y.cls ≠ "java/lang/invoke/MethodHandle" ∧ y.cls ≠ "java/lang/invoke/VarHandle" ∧ (parseMethodDescriptor y.desc).map (fun d => d.parameters.length) = some As.length) (hcat : (st.map fun v => v.category).sum ≤ 8) (hd : decode cc pc = .ok (.invokespecial index, 3)) {q : Nat} (wr : va_W) (hws : wr ++ (q, .inr (ci, fs)) :: wx = ws) (hst : st0 = As.reverse ++ .ref q :: st) (k : ∀ w1, post q w1 → cx_J p l e R s m args below meth c Qw D A nL (pc + 3, lv, st, wr ++ w1, ce + mc', sl + ms')) : cx_J p l e R s m args below meth c Qw D A nL (pc, lv, st0, ws, ce, sl) := by
  intro H locs ls hP hD hS hl
  subst hws hst
  obtain ⟨c1, c2, c3, c4, c5, c6, c7, c8, c9, c10, c11⟩ := hC
  generalize hw0 : ((q, .inr (ci, fs)) :: wx : va_W) = w0 at hP hD
  have hP : va_P D vwCl (wr ++ w0) H := hP
  have hD : va_D A (wr ++ w0) := hD
  have hPc : va_P D vwCl w0 H := va_P.sub hP _ (cx_fm (cx_nd2 (wr := wr) (w0 := w0)))
  have hDc : va_D (fun _ => True) w0 := (va_D.sub hD _ (cx_ndr _ _) (cx_nd2 (wr := wr) (w0 := w0))).weaken (fun _ _ _ _ => trivial)
  have hFc : ∀ x, va_A w0 H.size x → A x := va_free hD hS c7 _ (cx_nd2 (wr := wr) (w0 := w0))
  have hZ1 : cx_Z zs (va_A w0 H.size) s H := fun z hz => ((hZ z hz).kept hS.2.1).narrow hFc
  have hct1 := hct q H.size
  rw [hw0] at hct1
  refine va_callv (va_runI (As := As) (rest := st) ⟨c1, c2, c3, c4, c5⟩ hct1 (cwI As.length c5 (ix_TB_good hcode) rfl rfl rfl (c5 _ hini) (c5 _ hml) (c5 _ him) hnm hpd ⟨by show d' + 1 ≤ _; omega, by show 8 + (nL' + 11) + 40 * d' ≤ _; omega⟩) ⟨cx_blind, fun U hU hW => ⟨rfl, by rw [hU], by rw [hU]; exact hPc, cx_K.warm hW hK, hDc, fun z hz => by rw [hU]; exact va_O.moved hW.alike (hZ1 z hz)⟩⟩ rfl rfl hl.1 rfl (lv_room hcat) hd ⟨Nat.le_trans hce c10, Nat.le_trans hsl c11⟩) hS (fun x _ h => hFc x h) hFc (fun w t H1 locs1 ht hvm hw hB hz1 hk1 hS1 => ?_)
  obtain ⟨hP1, hD1⟩ := hB
  rw [ht] at hP1
  obtain ⟨hP2, hD2⟩ := va_join (wr := wr) (w1 := w) hP hD _ _ (cx_nd2 (wr := wr) (w0 := w0)) (cx_nd1 (wr := wr) (w0 := w0)) (cx_ndr _ _) (fun i hi h => by
    simp only [List.mem_range'_1] at hi h
    omega) hk1 hFc hP1 hD1
  exact k w hw H1 locs1 ls hP2 hD2 hS1 hl
theorem cx_initN (hC : cx_C p R s m args c D A nL cc own tC d mc ms) (hK : cx_K D tC sa s) {y : MethodName} {c' : ByteArray} {nL' d' mc' ms' ci : Nat} {fs As : List Value} {wx : va_W} {zs : List Nat} {post : Nat → va_W → Prop} (hct : cx_Ct l y c' nL' d' mc' ms' ci fs As wx zs D tC sa post) (hZ : cx_Z zs A s s.heap) {index : Nat} {host : String} (hdl : d' < d) (hnl : nL' ≤ 20) (hce : ce + mc' ≤ mc) (hsl : sl + ms' ≤ ms) (hcode : Cond.code y c' nL' none ∈ ix_TB) (hini : Cond.initialized y.cls ∈ ix_TB) (hml : (own, index, y, host) ∈ cx_nests) (him : Cond.instanceMethod y ∈ ix_TB) (hnm : y.name = "<init>") (hpd : y.cls ≠ "java/lang/invoke/MethodHandle" ∧ y.cls ≠ "java/lang/invoke/VarHandle" ∧ (parseMethodDescriptor y.desc).map (fun d => d.parameters.length) = some As.length) (hcat : (st.map fun v => v.category).sum ≤ 8) (hd : decode cc pc = .ok (.invokespecial index, 3)) {q : Nat} (wr : va_W) (hws : wr ++ (q, .inr (ci, fs)) :: wx = ws) (hst : st0 = As.reverse ++ .ref q :: st) (k : ∀ w1, post q w1 → cx_J p l e R s m args below meth c Qw D A nL (pc + 3, lv, st, wr ++ w1, ce + mc', sl + ms')) : cx_J p l e R s m args below meth c Qw D A nL (pc, lv, st0, ws, ce, sl) := by
  intro H locs ls hP hD hS hl
  subst hws hst
  obtain ⟨c1, c2, c3, c4, c5, c6, c7, c8, c9, c10, c11⟩ := hC
  generalize hw0 : ((q, .inr (ci, fs)) :: wx : va_W) = w0 at hP hD
  have hP : va_P D vwCl (wr ++ w0) H := hP
  have hD : va_D A (wr ++ w0) := hD
  have hPc : va_P D vwCl w0 H := va_P.sub hP _ (cx_fm (cx_nd2 (wr := wr) (w0 := w0)))
  have hDc : va_D (fun _ => True) w0 := (va_D.sub hD _ (cx_ndr _ _) (cx_nd2 (wr := wr) (w0 := w0))).weaken (fun _ _ _ _ => trivial)
  have hFc : ∀ x, va_A w0 H.size x → A x := va_free hD hS c7 _ (cx_nd2 (wr := wr) (w0 := w0))
  have hZ1 : cx_Z zs (va_A w0 H.size) s H := fun z hz => ((hZ z hz).kept hS.2.1).narrow hFc
  have hct1 := hct q H.size
  rw [hw0] at hct1
  refine va_callv (va_runIN (As := As) (rest := st) ⟨c1, c2, c3, c4, c5⟩ hct1 ⟨va_cnB As.length c5 (ix_TB_good hcode) rfl rfl rfl (hK.2.1 _ hml) (c5 _ hini) hpd ⟨by show d' + 1 ≤ _; omega, by show 8 + (nL' + 11) + 40 * d' ≤ _; omega⟩, hnm, c5 _ him⟩ ⟨cx_blind, fun U hU hW => ⟨rfl, by rw [hU], by rw [hU]; exact hPc, cx_K.warm hW hK, hDc, fun z hz => by rw [hU]; exact va_O.moved hW.alike (hZ1 z hz)⟩⟩ rfl rfl hl.1 rfl (lv_room hcat) hd ⟨Nat.le_trans hce c10, Nat.le_trans hsl c11⟩) hS (fun x _ h => hFc x h) hFc (fun w t H1 locs1 ht hvm hw hB hz1 hk1 hS1 => ?_)
  obtain ⟨hP1, hD1⟩ := hB
  rw [ht] at hP1
  obtain ⟨hP2, hD2⟩ := va_join (wr := wr) (w1 := w) hP hD _ _ (cx_nd2 (wr := wr) (w0 := w0)) (cx_nd1 (wr := wr) (w0 := w0)) (cx_ndr _ _) (fun i hi h => by
    simp only [List.mem_range'_1] at hi h
    omega) hk1 hFc hP1 hD1
  exact k w hw H1 locs1 ls hP2 hD2 hS1 hl
end CXI
