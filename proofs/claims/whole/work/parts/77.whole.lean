/-! ===== THE LAW, from its entry (written by gen/walk4.py) ===== -/
theorem st_C {p : Program} {e : Env} {s : State} {m : MethodId} {below : List Frame} {meth : Method} {c : Code} {l : Launch} {b L : Nat} {xs : Nat → Int32} (C0 : lw_At p s m meth c b L xs) {D : va_G} {q r sa sv : Nat → Nat} {tC : Nat → ClassId} (hK : va_K D vwCl (cx_ty tC) s) (hR1 : vk_R "IndigoBoats$Reader" 37 "sdt" (sa 1) s) (hR2 : vk_R "IndigoBoats$Reader" 39 "lbh" (sa 2) s) (hSt : vk_S 3 [0, 3, 3] [[], [115, 100, 116], [108, 98, 104]] sa sv (fun q : Nat => s.heap.size ≤ q) s s.heap) (hD : va_D (fun q : Nat => s.heap.size ≤ q) (st_w q r sa tC)) : ix_C p l e room_1 s m #[Value.ref b] below meth c 131 6336 (lw_Z below #[Value.ref b] s) (st_E D q r sa sv tC (b, L, xs)) 4 (fun q : Nat => s.heap.size ≤ q) cL_law RL 61 (some .boolean) (fun z => z.1 = some (vi 1)) := by
  obtain ⟨hx, hb, hr, hml, hown, hts, hX, hbl, hlocks, hgv⟩ := C0
  have hs := flat_of_before _ hgv
  have hA0 : ∀ a : Nat, a < s.heap.size → ¬ (fun q : Nat => s.heap.size ≤ q) a := fun a h => Nat.not_le.mpr h
  have hAB := st_A (D := D) (sv := sv) (X := (b, L, xs)) hD
  have hZ : va_Z "java/lang/String" "COMPACT_STRINGS" "Z" (.int 1) (fun q : Nat => s.heap.size ≤ q) s s.heap := va_Zof (args := #[Value.ref b]) (hts _ (List.mem_append_right _ (List.mem_of_getElem? (i := 500) (by decide +kernel)))) (hts _ (List.mem_append_right _ (List.mem_of_getElem? (i := 15) (by decide +kernel)))) (va_eqt (hs _ (by decide +kernel))) hA0
  have hZq : va_Zq "jdk/internal/util/Preconditions" "SIOOBE_FORMATTER" "Ljava/util/function/BiFunction;" (fun q : Nat => s.heap.size ≤ q) s s.heap := va_Zqof (args := #[Value.ref b]) (hts _ (List.mem_append_right _ (List.mem_of_getElem? (i := 539) (by decide +kernel)))) (hts _ (List.mem_append_right _ (List.mem_of_getElem? (i := 18) (by decide +kernel)))) (hs _ (by decide +kernel)) hA0
  refine ⟨hx, hb, hml, hown, fun w hw => hts w (List.mem_filter.mp hw).1, ⟨hK, st_ni hts, hR1, hR2⟩, ⟨hSt.narrow hAB, hZ.narrow hAB, hX, fun h => absurd (hAB _ h) (Nat.not_le.mpr hbl), hZq.narrow hAB⟩, st_EO hD, hAB, fun a h1 h2 => absurd h2 (Nat.not_le.mpr h1), ⟨by decide, by decide, by decide, by decide⟩, ?_⟩
  intro z μ H locs ls pc hQ hok hrd hP hS
  obtain rfl : z = some (vi 1) := hQ
  exact va_forget (fun k hk => hS.2.2 k hk) (W.widen (k := 600000) (n := 7302249) (by decide) (by decide) (lw_ret hx hb hr hlocks hrd.1))
theorem st_lv {D : va_G} {q r sa sv : Nat → Nat} {tC : Nat → ClassId} {b L : Nat} {xs : Nat → Int32} {ls : Array Slot} (hl : lv_has ls 4 [(3, .int 0), (2, .ref (r 0)), (1, .ref (q 0)), (0, .ref b)]) : ix_lv (st_E D q r sa sv tC (b, L, xs)) ls 4 [some (vr 25 0), some (vr 9 0), some (vr 10 112), some (vi (nI 0))] := by
  refine ⟨rfl, hl.1, hl.2.1, fun i v hi => ?_, fun i v hi => ?_⟩
  · match i, hi with
    | 0, hi => cases hi; exact lv_at hl 3 rfl
    | 1, hi => cases hi; exact lv_at hl 2 rfl
    | 2, hi => cases hi; exact lv_at hl 1 rfl
    | 3, hi => cases hi; exact lv_at hl 0 rfl
    | i + 4, hi => simp at hi
  · match i, hi with
    | 0, hi => cases hi; trivial
    | 1, hi => cases hi; exact ⟨by decide, by decide⟩
    | 2, hi => cases hi; exact ⟨by decide, by decide⟩
    | 3, hi => cases hi; trivial
    | i + 4, hi => simp at hi
set_option maxHeartbeats 4000000 in
set_option maxRecDepth 100000 in
theorem whole_start {p : Program} {e : Env} {s : State} {m : MethodId} {below : List Frame} {meth : Method} {c : Code} (l : Launch) {b L : Nat} {xs : Nat → Int32} (hL : L ≤ 3072) (C0 : lw_At p s m meth c b L xs) : W p l e room_1 s m #[Value.ref b] below meth c s.heap [] 0 0 (lw_Z below #[Value.ref b] s) (entryFrame m ([Value.ref b] : List Value).toArray 4) := by
  obtain ⟨hx, hb, hr, hml, hown, hts, hX, hbl, hlocks, hgv⟩ := id C0
  have hs := flat_of_before _ hgv
  have hA0 : ∀ a : Nat, a < s.heap.size → ¬ (fun q : Nat => s.heap.size ≤ q) a := fun a h => Nat.not_le.mpr h
  obtain ⟨D, hD⟩ := st_D hts
  obtain ⟨tC, htC⟩ := st_tC hts
  obtain ⟨sa, sv, hSt, hSe⟩ := st_Str hgv hA0
  have hK0 : va_K D vwCl (cx_ty tC) s := ⟨hD, htC⟩
  have e0 : (Term.string "IndigoBoats$Reader" 27).eval #[Value.ref b] s none [] s = some (.ref (sa 0)) := hSe 0 (by decide)
  have e1 : (Term.string "IndigoBoats$Reader" 37).eval #[Value.ref b] s none [] s = some (.ref (sa 1)) := hSe 1 (by decide)
  have e2 : (Term.string "IndigoBoats$Reader" 39).eval #[Value.ref b] s none [] s = some (.ref (sa 2)) := hSe 2 (by decide)
  have m1 : (Term.string "IndigoBoatsModel" 28).eval #[Value.ref b] s none [] s = some (.ref (sa 1)) := va_eqR (t := Term.string "IndigoBoats$Reader" 37) (hs _ (by decide +kernel)) e1
  have m2 : (Term.string "IndigoBoatsModel" 30).eval #[Value.ref b] s none [] s = some (.ref (sa 2)) := va_eqR (t := Term.string "IndigoBoats$Reader" 39) (hs _ (by decide +kernel)) e2
  have hK : cx_K D tC sa s := ⟨hK0, st_nc hts, st_ao hts, vk_R.of (hts _ (List.mem_append_right _ (List.mem_of_getElem? (i := 175) (by decide +kernel)))) e0, vk_R.of (hts _ (List.mem_append_right _ (List.mem_of_getElem? (i := 873) (by decide +kernel)))) m1, vk_R.of (hts _ (List.mem_append_right _ (List.mem_of_getElem? (i := 874) (by decide +kernel)))) m2⟩
  have hR1 : vk_R "IndigoBoats$Reader" 37 "sdt" (sa 1) s := vk_R.of (hts _ (List.mem_append_right _ (List.mem_of_getElem? (i := 453) (by decide +kernel)))) e1
  have hR2 : vk_R "IndigoBoats$Reader" 39 "lbh" (sa 2) s := vk_R.of (hts _ (List.mem_append_right _ (List.mem_of_getElem? (i := 454) (by decide +kernel)))) e2
  have hZ : cx_Z [sa 1, sa 2] (fun q : Nat => s.heap.size ≤ q) s s.heap := List.forall_mem_cons.mpr ⟨(hSt.1 1 (by decide)).1, List.forall_mem_cons.mpr ⟨(hSt.1 2 (by decide)).1, fun _ h => absurd h List.not_mem_nil⟩⟩
  have hC : cx_C p room_1 s m #[Value.ref b] c D (fun q : Nat => s.heap.size ≤ q) 4 cL_law RL tC 61 131 6336 := ⟨hx, hb, hml, hown, fun w hw => hts w (List.mem_filter.mp hw).1, hK0, fun _ h => h, by decide, by decide, by decide, by decide⟩
  rw [lg_entry_eq]
  suffices hJ : cx_J p l e room_1 s m #[Value.ref b] below meth c (lw_Z below #[Value.ref b] s) D (fun q : Nat => s.heap.size ≤ q) 4 (0, [(0, .ref b)], [], [], 0, 0) from hJ s.heap [] _ (fun k q h => by simp at h) ⟨fun i j p q h => by simp at h, fun k q h => by simp at h⟩ va_S.rf (lv_entry [.ref b] (Nat.le_of_ble_eq_true rfl))
  refine cx_new (ci := 9) (fs := [.null, .null, .int 0, .null, .null, .null, .null, .null, .null, .int 0, .int 0]) hC tu_X10 tyX10 tyX10_ok (ix_tab 20 (by decide +kernel) rfl) (ix_tab 21 (by decide +kernel) rfl) (ix_tab 1 (by decide +kernel) rfl) rfl (by decide +kernel) (Nat.le_of_ble_eq_true rfl) (Nat.le_of_ble_eq_true rfl) dL_law_0 (fun a0 => ?_)
  simp only [List.cons_append, List.append_assoc, List.nil_append]
  refine cx_dup hC dL_law_3 rfl ?_
  refine cx_init hC hK (n_Boats l D tC sa) cx_Z.nil (by decide) (by decide) (Nat.le_of_ble_eq_true rfl) (Nat.le_of_ble_eq_true rfl) (ix_tab 24 (by decide +kernel) rfl) (ix_tab 1 (by decide +kernel) rfl) (ix_tab 22 (by decide +kernel) rfl) (ix_tab 23 (by decide +kernel) rfl) rfl ⟨by decide +kernel, by decide +kernel, (by decide +kernel : (parseMethodDescriptor yX10_init.desc).map (fun d => d.parameters.length) = some 0)⟩ (Nat.le_of_ble_eq_true rfl) dL_law_4 (wr := []) (by simp only [List.cons_append, List.append_assoc, List.nil_append]) rfl (fun w1 h1 => ?_)
  obtain ⟨q, rfl, rfl⟩ := h1
  simp only [List.cons_append, List.append_assoc, List.nil_append]
  refine cx_astore_n (lv' := [(1, .ref (q 0)), (0, .ref b)]) hC dL_law_7 rfl (by decide) rfl ?_
  refine cx_new (ci := 10) (fs := [.null, .null, .null, .int 0, .null, .int 0, .int 0, .null, .int 0, .int 0, .int 0, .int 0, .null, .int 0, .null, .null, .null, .null, .int 0, .int 0, .int 0, .int 0, .null, .null, .null, .null]) hC tu_X11 tyX11 tyX11_ok (ix_tab 865 (by decide +kernel) rfl) (ix_tab 866 (by decide +kernel) rfl) (ix_tab 12 (by decide +kernel) rfl) rfl (by decide +kernel) (Nat.le_of_ble_eq_true rfl) (Nat.le_of_ble_eq_true rfl) dL_law_8 (fun a1 => ?_)
  refine cx_dup hC dL_law_11 rfl ?_
  refine cx_init hC hK (n_Model l D tC sa) hZ (by decide) (by decide) (Nat.le_of_ble_eq_true rfl) (Nat.le_of_ble_eq_true rfl) (ix_tab 869 (by decide +kernel) rfl) (ix_tab 12 (by decide +kernel) rfl) (ix_tab 867 (by decide +kernel) rfl) (ix_tab 868 (by decide +kernel) rfl) rfl ⟨by decide +kernel, by decide +kernel, (by decide +kernel : (parseMethodDescriptor yX11_init.desc).map (fun d => d.parameters.length) = some 0)⟩ (Nat.le_of_ble_eq_true rfl) dL_law_12 (wr := wBoats tC q (sa 0)) rfl rfl (fun w1 h1 => ?_)
  obtain ⟨r, rfl, rfl⟩ := h1
  refine cx_astore_n (lv' := [(2, .ref (r 0)), (1, .ref (q 0)), (0, .ref b)]) hC dL_law_15 rfl (by decide) rfl ?_
  refine cx_iconst (v := 0) hC dL_law_16 (by decide) ?_
  refine cx_istore_n (lv' := [(3, .int 0), (2, .ref (r 0)), (1, .ref (q 0)), (0, .ref b)]) hC dL_law_17 rfl (by decide) rfl ?_
  refine cx_sub [0, 1, 2, 3, 4, 5, 6, 7, 8, 9, 10, 11, 12, 13, 14, 15, 16, 17, 18, 19, 20, 21, 22, 23, 24, 25, 26, 27, 28, 29, 30, 31, 32, 33, 34, 35, 36, 37, 38, 39, 40, 41, 42, 43, 44, 45, 46, 47, 48, 49, 50, 51, 52, 53, 54, 55, 56, 57, 58, 59, 60, 61, 62, 63, 64, 65, 66, 67, 68, 69, 70, 71, 72, 73, 74, 75, 76, 77, 78, 79, 80, 81, 82, 83, 84, 85, 86, 87, 88, 89, 90, 91, 92, 93, 94, 95, 96, 97, 98, 99, 100, 101, 102, 103, 104, 105, 106, 107, 108, 109, 110, 111, 116, 117, 118, 119, 120, 121, 122, 123, 124, 125, 126, 127, 128, 129, 130, 112, 113, 114, 115] (ws' := st_w q r sa tC) rfl (by decide +kernel) ?_
  intro H locs ls hP hDw hS hl
  have hP : va_P D vwCl (st_w q r sa tC) H := hP
  have hDw : va_D (fun q : Nat => s.heap.size ≤ q) (st_w q r sa tC) := hDw
  exact ix_Ev.soundX (aL l b L xs) rfl (st_C (l := l) (e := e) (below := below) (L := L) (xs := xs) C0 hK0 hR1 hR2 hSt hDw) (law_loop l (aL l b L xs).mo hL (fun z => z.1 = some (vi 1)) (fun _ _ => rfl) (L + 1) 0 mu0 (by omega) (by omega) mu0_inv) H locs ls (st_P (sv := sv) (X := (b, L, xs)) hP) hS (st_lv hl) (fun _ h => absurd h List.not_mem_nil)
