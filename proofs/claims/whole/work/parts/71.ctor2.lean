/-! ===== constructors: calls of constructors ===== -/
theorem cx_nd1 {wr : va_W} {x : Nat × va_E} : (List.range wr.length).map (fun i => (wr ++ [x])[i]?) = wr.map some := by
  apply List.ext_getElem?
  intro i
  by_cases h : i < wr.length
  · rw [List.getElem?_map, List.getElem?_range h, List.getElem?_map]
    simp [List.getElem?_append_left h, List.getElem?_eq_getElem h]
  · rw [List.getElem?_eq_none (by simp; omega), List.getElem?_eq_none (by simp; omega)]
theorem cx_nd2 {wr : va_W} {x : Nat × va_E} : [wr.length].map (fun i => (wr ++ [x])[i]?) = [x].map some := by simp
section CXI
variable {p : Program} {l : Launch} {e : Env} {R : Room} {s : State} {m : MethodId} {args : Array Value} {below : List Frame} {meth : Method} {c : Code} {Qw : State → Prop} {D : va_G} {A : Nat → Prop} {nL : Nat} {cc : ByteArray} {own : String} {tC : Nat → ClassId} {d mc ms : Nat} {pc ce sl : Nat} {lv : List (Nat × Value)} {st st0 : List Value} {ws wr : va_W}
theorem cx_blind {av : List Value} {sz : Nat} {w : va_W} : FrameBlind (va_Pc av (fun U => U.heap.size = sz ∧ va_P D vwCl w U.heap ∧ cx_K D tC U ∧ va_D (fun _ => True) w)) := by
  intro a U g mk h
  obtain ⟨h1, h2, h3, h4, h5⟩ := h
  exact ⟨h1, h2, h3, cx_K.same (s := U) (U := U.calling g mk a) rfl h4, h5⟩
theorem cx_init (hC : cx_C p R s m args c D A nL cc own tC d mc ms) (hK : cx_K D tC s) {y : MethodName} {c' : ByteArray} {nL' d' mc' ms' ci : Nat} {fs As : List Value} {post : Nat → va_W → Prop} (hct : cx_Ct l y c' nL' d' mc' ms' ci fs As D tC post) {index : Nat} (hdl : d' < d) (hnl : nL' ≤ 20) (hce : ce + mc' ≤ mc) (hsl : sl + ms' ≤ ms) (hcode : Cond.code y c' nL' none ∈ ix_TB) (hini : Cond.initialized y.cls ∈ ix_TB) (hml : Cond.methodLink own index y ∈ ix_TB) (him : Cond.instanceMethod y ∈ ix_TB) (hnm : y.name = "<init>") (hpd : y.cls ≠ "java/lang/invoke/MethodHandle" ∧ y.cls ≠ "java/lang/invoke/VarHandle" ∧ (parseMethodDescriptor y.desc).map (fun d => d.parameters.length) = some As.length) (hcat : (st.map fun v => v.category).sum ≤ 8) (hd : decode cc pc = .ok (.invokespecial index, 3)) {q : Nat} (hws : ws = wr ++ [(q, .inr (ci, fs))]) (hnd : va_nd (List.range wr.length) = true) (hst : st0 = As.reverse ++ .ref q :: st) (k : ∀ w1, post q w1 → cx_J p l e R s m args below meth c Qw D A nL (pc + 3, lv, st, wr ++ w1, ce + mc', sl + ms')) : cx_J p l e R s m args below meth c Qw D A nL (pc, lv, st0, ws, ce, sl) := by
  intro H locs ls hP hD hS hl
  subst hws hst
  obtain ⟨c1, c2, c3, c4, c5, c6, c7, c8, c9, c10, c11⟩ := hC
  have hP : va_P D vwCl (wr ++ [(q, .inr (ci, fs))]) H := hP
  have hD : va_D A (wr ++ [(q, .inr (ci, fs))]) := hD
  have hPc : va_P D vwCl [(q, .inr (ci, fs))] H := fun i x hx => by
    have hi : i < 1 := (List.getElem?_eq_some_iff.mp hx).1
    obtain rfl : i = 0 := by omega
    exact hP wr.length x (by simpa using hx)
  have hDc : va_D (fun _ => True) [(q, (.inr (ci, fs) : va_E))] := ⟨fun i j p' q' hi hj _ => by
    have h1 : i < 1 := (List.getElem?_eq_some_iff.mp hi).1
    have h2 : j < 1 := (List.getElem?_eq_some_iff.mp hj).1
    omega, fun _ _ _ => trivial⟩
  have hFc : ∀ x, va_A [(q, (.inr (ci, fs) : va_E))] H.size x → A x := va_free hD hS c7 [wr.length] cx_nd2
  refine va_callv (va_runI (As := As) (rest := st) ⟨c1, c2, c3, c4, c5⟩ (hct q H.size) (cwI As.length c5 (ix_TB_good hcode) rfl rfl rfl (c5 _ hini) (c5 _ hml) (c5 _ him) hnm hpd ⟨by show d' + 1 ≤ _; omega, by show 8 + (nL' + 11) + 40 * d' ≤ _; omega⟩) ⟨cx_blind, fun U hU hW => ⟨rfl, by rw [hU], by rw [hU]; exact hPc, cx_K.warm hW hK, hDc⟩⟩ rfl rfl hl.1 rfl (lv_room hcat) hd ⟨Nat.le_trans hce c10, Nat.le_trans hsl c11⟩) hS (fun x _ h => hFc x h) hFc (fun w t H1 locs1 ht hvm hw hB hz1 hk1 hS1 => ?_)
  obtain ⟨hP1, hD1⟩ := hB
  rw [ht] at hP1
  obtain ⟨hP2, hD2⟩ := va_join (wr := wr) (w1 := w) hP hD [wr.length] (List.range wr.length) cx_nd2 cx_nd1 hnd (fun i hi h => by
    have := List.mem_range.mp hi
    simp at h
    omega) hk1 hFc hP1 hD1
  exact k w hw H1 locs1 ls hP2 hD2 hS1 hl
theorem cx_initN (hC : cx_C p R s m args c D A nL cc own tC d mc ms) (hK : cx_K D tC s) {y : MethodName} {c' : ByteArray} {nL' d' mc' ms' ci : Nat} {fs As : List Value} {post : Nat → va_W → Prop} (hct : cx_Ct l y c' nL' d' mc' ms' ci fs As D tC post) {index : Nat} {host : String} (hdl : d' < d) (hnl : nL' ≤ 20) (hce : ce + mc' ≤ mc) (hsl : sl + ms' ≤ ms) (hcode : Cond.code y c' nL' none ∈ ix_TB) (hini : Cond.initialized y.cls ∈ ix_TB) (hml : (own, index, y, host) ∈ cx_nests) (him : Cond.instanceMethod y ∈ ix_TB) (hnm : y.name = "<init>") (hpd : y.cls ≠ "java/lang/invoke/MethodHandle" ∧ y.cls ≠ "java/lang/invoke/VarHandle" ∧ (parseMethodDescriptor y.desc).map (fun d => d.parameters.length) = some As.length) (hcat : (st.map fun v => v.category).sum ≤ 8) (hd : decode cc pc = .ok (.invokespecial index, 3)) {q : Nat} (hws : ws = wr ++ [(q, .inr (ci, fs))]) (hnd : va_nd (List.range wr.length) = true) (hst : st0 = As.reverse ++ .ref q :: st) (k : ∀ w1, post q w1 → cx_J p l e R s m args below meth c Qw D A nL (pc + 3, lv, st, wr ++ w1, ce + mc', sl + ms')) : cx_J p l e R s m args below meth c Qw D A nL (pc, lv, st0, ws, ce, sl) := by
  intro H locs ls hP hD hS hl
  subst hws hst
  obtain ⟨c1, c2, c3, c4, c5, c6, c7, c8, c9, c10, c11⟩ := hC
  have hP : va_P D vwCl (wr ++ [(q, .inr (ci, fs))]) H := hP
  have hD : va_D A (wr ++ [(q, .inr (ci, fs))]) := hD
  have hPc : va_P D vwCl [(q, .inr (ci, fs))] H := fun i x hx => by
    have hi : i < 1 := (List.getElem?_eq_some_iff.mp hx).1
    obtain rfl : i = 0 := by omega
    exact hP wr.length x (by simpa using hx)
  have hDc : va_D (fun _ => True) [(q, (.inr (ci, fs) : va_E))] := ⟨fun i j p' q' hi hj _ => by
    have h1 : i < 1 := (List.getElem?_eq_some_iff.mp hi).1
    have h2 : j < 1 := (List.getElem?_eq_some_iff.mp hj).1
    omega, fun _ _ _ => trivial⟩
  have hFc : ∀ x, va_A [(q, (.inr (ci, fs) : va_E))] H.size x → A x := va_free hD hS c7 [wr.length] cx_nd2
  refine va_callv (va_runIN (As := As) (rest := st) ⟨c1, c2, c3, c4, c5⟩ (hct q H.size) ⟨va_cnB As.length c5 (ix_TB_good hcode) rfl rfl rfl (hK.2 _ hml) (c5 _ hini) hpd ⟨by show d' + 1 ≤ _; omega, by show 8 + (nL' + 11) + 40 * d' ≤ _; omega⟩, hnm, c5 _ him⟩ ⟨cx_blind, fun U hU hW => ⟨rfl, by rw [hU], by rw [hU]; exact hPc, cx_K.warm hW hK, hDc⟩⟩ rfl rfl hl.1 rfl (lv_room hcat) hd ⟨Nat.le_trans hce c10, Nat.le_trans hsl c11⟩) hS (fun x _ h => hFc x h) hFc (fun w t H1 locs1 ht hvm hw hB hz1 hk1 hS1 => ?_)
  obtain ⟨hP1, hD1⟩ := hB
  rw [ht] at hP1
  obtain ⟨hP2, hD2⟩ := va_join (wr := wr) (w1 := w) hP hD [wr.length] (List.range wr.length) cx_nd2 cx_nd1 hnd (fun i hi h => by
    have := List.mem_range.mp hi
    simp at h
    omega) hk1 hFc hP1 hD1
  exact k w hw H1 locs1 ls hP2 hD2 hS1 hl
end CXI
