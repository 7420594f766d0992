/-! ===== Strings ===== -/
def sLen (k : Nat) : Nat := ([0, 3, 3] : List Nat).getD k 0
def sByte (k j : Nat) : Int32 := (([[], [115, 100, 116], [108, 98, 104]] : List (List Int32)).getD k []).getD j 0
def ix_gval (n : Nat) : ix_Op := fun k _ ls st μ => match st with
  | .inr (.inr (t, a)) :: st' => t = 24 ∧ k (n, ls, .inr (.inr (26, a)) :: st', μ)
  | _ => False
def ix_gcod (n : Nat) : ix_Op := fun k _ ls st μ => match st with
  | .inr (.inr (t, _)) :: st' => t = 24 ∧ k (n, ls, .inl 0 :: st', μ)
  | _ => False
def ix_bald (n : Nat) : ix_Op := fun k _ ls st μ => match st with
  | .inl i :: .inr (.inr (t, a)) :: st' => t = 26 ∧ vp_in i (sLen a) ∧ k (n, ls, .inl (sByte a i.toNatClampNeg) :: st', μ)
  | _ => False
def ix_blen (n : Nat) : ix_Op := fun k _ ls st μ => match st with
  | .inr (.inr (t, a)) :: st' => t = 26 ∧ k (n, ls, .inl (Int32.ofNat (sLen a)) :: st', μ)
  | _ => False
def ix_sald (n : Nat) : ix_Op := fun k _ ls st μ => match st with
  | .inl i :: .inr (.inr (t, a)) :: st' => t = 23 ∧ a = 117 ∧ vp_in i 2 ∧ k (n, ls, .inr (.inr (24, i.toNatClampNeg + 1)) :: st', μ)
  | _ => False
def ix_nret (ty : FieldType) : ix_Op := fun _ Q _ st μ => match st with
  | [.inl v] => narrow ty (.int v) = .int v ∧ Q (some (.inl v), μ)
  | _ => False
section IXT
variable {l : Launch} {cc : ByteArray} {nL : Nat} {own : String} {d : Nat} {rt : Option FieldType} {pc : Nat}
variable {p : Program} {e : Env} {R : Room} {s : State} {m : MethodId} {args : Array Value} {below : List Frame} {meth : Method} {c : Code} {cells slots : Nat} {Qw : State → Prop} {E : ix_E} {A : Nat → Prop} {Q : ix_R → Prop}
theorem ix_C.OF (hC : ix_C p l e R s m args below meth c cells slots Qw E nL A cc own d rt Q) {o n d' : String} {v : Value} {t : Nat} (h : va_OF o n d' v t (ix_A E) s s.heap) : va_OF o n d' v t A s s.heap := by
  obtain ⟨cf, k, i, f, cell, h1, h2, h3, h4, h5, h6⟩ := h
  exact ⟨cf, k, i, f, cell, h1, h2, h3, h4, h5, fun z => h6 (hC.2.2.2.2.2.2.2.2.2.1 t (Array.getElem?_eq_some_iff.mp h3).1 z)⟩
theorem ix_C.T (hC : ix_C p l e R s m args below meth c cells slots Qw E nL A cc own d rt Q) {ty : FieldType} {t N : Nat} {f : Nat → Value} (h : va_T ty t N f (ix_A E) s s.heap) : va_T ty t N f A s s.heap := by
  obtain ⟨cell, h1, h2, h3, h4, h5, h6, h7⟩ := h
  exact ⟨cell, h1, h2, h3, h4, h5, h6, fun z => h7 (hC.2.2.2.2.2.2.2.2.2.1 t (Array.getElem?_eq_some_iff.mp h1).1 z)⟩
theorem ix_C.Z (hC : ix_C p l e R s m args below meth c cells slots Qw E nL A cc own d rt Q) {C n d' : String} {v : Value} (h : va_Z C n d' v (ix_A E) s s.heap) : va_Z C n d' v A s s.heap := by
  obtain ⟨cf, kf, fi, f, a, cell, h1, h2, h3, h4, h5, h6, h7, h8⟩ := h
  exact ⟨cf, kf, fi, f, a, cell, h1, h2, h3, h4, h5, h6, h7, fun z => h8 (hC.2.2.2.2.2.2.2.2.2.1 a (Array.getElem?_eq_some_iff.mp h5).1 z)⟩
theorem ix_okS {k : Nat} (h : ix_ok (.inr (.inr (24, k)))) : k < 3 := h
theorem ix_okB {k : Nat} (h : ix_ok (.inr (.inr (26, k)))) : k < 3 := h
theorem ix_s_ldcS1 (ho : own = "IndigoBoats$Reader") (hd : decode cc pc = .ok (.ldc 37, 2)) : ix_S l cc nL own d rt pc (ix_push (vr 24 1) (pc + 2)) := by
  subst ho
  refine ⟨fun k k' Q ls st μ hk h => hk _ h, fun p e R s m args below meth c cells slots Qw E A Q hC ls st μ h H locs lsa hP hS hl hok => ?_⟩
  exact va_ldcS hC.1 hC.2.1 hC.2.2.2.1 hC.2.2.2.2.2.1.2.2.1 hd (h H locs lsa hP hS hl (ix_ok_cons (show (1 : Nat) < 3 by decide) hok))
theorem ix_s_ldcS2 (ho : own = "IndigoBoats$Reader") (hd : decode cc pc = .ok (.ldc 39, 2)) : ix_S l cc nL own d rt pc (ix_push (vr 24 2) (pc + 2)) := by
  subst ho
  refine ⟨fun k k' Q ls st μ hk h => hk _ h, fun p e R s m args below meth c cells slots Qw E A Q hC ls st μ h H locs lsa hP hS hl hok => ?_⟩
  exact va_ldcS hC.1 hC.2.1 hC.2.2.2.1 hC.2.2.2.2.2.1.2.2.2 hd (h H locs lsa hP hS hl (ix_ok_cons (show (2 : Nat) < 3 by decide) hok))
theorem ix_ce_puts {E : ix_E} {μ : ix_M} {a j t x : Nat} (hx : x < 3) (htg : ix_tag a = t) (ht : t < 20) (hsh : (ix_sh a).2[j]? = some (some 1000)) : ix_ce E (ix_up μ a j (nI x)) a = .inr (t, ((ix_sh a).2.mapIdx (fun j f => ix_fv E μ a j f)).set j (.ref (E.2.2.1 x))) := by
  rw [ix_ce_obj htg ht]
  congr 2
  apply List.ext_getElem?
  intro i
  rw [List.getElem?_mapIdx]
  by_cases hi : i = j
  · subst hi
    have hlt : i < (ix_sh a).2.length := (List.getElem?_eq_some_iff.mp hsh).1
    rw [List.getElem?_set_self (by rw [List.length_mapIdx]; exact hlt), hsh]
    show some (ix_fv _ _ _ _ (some 1000)) = _
    have hc : (nI x).toNatClampNeg = x := nI_clamp (by omega)
    simp [ix_fv, ix_up, hc]
  · rw [List.getElem?_set_ne (Ne.symm hi), List.getElem?_mapIdx]
    cases (ix_sh a).2[i]? with
    | none => rfl
    | some f => cases f with
      | none => simp [ix_fv, ix_up, hi]
      | some r => simp [ix_fv, ix_up, hi]
theorem ix_s_puts {C : String} {T : u_T} {N t j index : Nat} {ref : String} {ty0 : Nat → FieldType} (hin : ∀ w ∈ u_ws C T N, w ∈ ix_TB) (hty : ∀ k, k < N → parseFieldDescriptor (T k).2.2.1 = some (ty0 k)) (hnm : ∀ a, a < N → ∀ b, b < N → a ≠ b → (T a).2.1 ≠ (T b).2.1) (hc : vwCl[t]? = some (C, T, N)) (ht : t < 20) (hj : j < N) (hw : Cond.fieldLink own index ref (T j).2.1 (T j).2.2.1 ∈ ix_TB) (href : (T j).1 = ref) (hfin : (T j).2.2.2 = false) (hd0 : parseFieldDescriptor (T j).2.2.1 = some (.object "java/lang/String")) (hsh : ∀ a, a < ix_N → ix_tag a = t → (ix_sh a).2[j]? = some (some 1000) ∧ (ix_sh a).2.length = N) (hd : decode cc pc = .ok (.putfield index, 3)) : ix_S l cc nL own d rt pc (ix_puts t j (pc + 3)) := by
  refine ⟨fun k k' Q ls st μ hk h => ?_, fun p e R s m args below meth c cells slots Qw E A Q hC ls st μ h H locs lsa hP hS hl hok => ?_⟩
  · unfold ix_puts at h ⊢; split at h <;> first | exact ⟨h.1, h.2.1, hk _ h.2.2⟩ | exact h
  · unfold ix_puts at h; split at h
    · rename_i t2 x t' a st'
      obtain ⟨rfl, rfl, h⟩ := h
      obtain ⟨ha, htg⟩ := ix_ok_at (ix_ok_hd (ix_ok_tl hok)) (by omega) (by omega)
      have hx := ix_okS (ix_ok_hd hok)
      show W _ _ _ _ _ _ _ _ _ _ _ _ _ _ _ (F0 m pc lsa (.ref (E.2.2.1 x) :: ix_cv E _ :: _))
      rw [ix_cv_at (t := t') (by omega) (by omega)]
      exact ix_put_lem hin hty hnm hc ht hj hw href hfin hd0 hC ha htg (v := .ref (E.2.2.1 x)) rfl rfl hP hS (hsh a ha htg).2 (fun x hx => ix_up_ne hx) (ix_ce_puts hx htg ht (hsh a ha htg).1) hd (fun H1 locs1 q1 q3 => h H1 locs1 lsa q1 q3 hl (ix_ok_tl (ix_ok_tl hok)))
    · exact h.elim
theorem ix_s_gets {C : String} {T : u_T} {N t j index : Nat} {ref : String} (hin : ∀ w ∈ u_ws C T N, w ∈ ix_TB) (hc : vwCl[t]? = some (C, T, N)) (ht : t < 20) (hj : j < N) (hw : Cond.fieldLink own index ref (T j).2.1 (T j).2.2.1 ∈ ix_TB) (href : (T j).1 = ref) (hsh : ∀ a, a < ix_N → ix_tag a = t → (ix_sh a).2[j]? = some (some 1000) ∧ (ix_sh a).2.length = N) (hd : decode cc pc = .ok (.getfield index, 3)) : ix_S l cc nL own d rt pc (ix_gets t j (pc + 3)) := by
  refine ⟨fun k k' Q ls st μ hk h => ?_, fun p e R s m args below meth c cells slots Qw E A Q hC ls st μ h H locs lsa hP hS hl hok => ?_⟩
  · unfold ix_gets at h ⊢; split at h <;> first | exact ⟨h.1, h.2.1, hk _ h.2.2⟩ | exact h
  · unfold ix_gets at h; split at h
    · rename_i t' a st'
      obtain ⟨rfl, hx, h⟩ := h
      obtain ⟨ha, htg⟩ := ix_ok_at (ix_ok_hd hok) (by omega) (by omega)
      show W _ _ _ _ _ _ _ _ _ _ _ _ _ _ _ (F0 m pc lsa (ix_cv E _ :: _))
      rw [ix_cv_at (by omega) (by omega)]
      refine va_get (D := E.1) (cl := vwCl) (own := own) (ref := ref) hC.1 hC.2.1 hC.2.2.2.2.1 hin hC.2.2.2.1 hC.2.2.2.2.2.1.1 hP a (by rw [ix_w_at E _ ha, ix_ce_obj htg ht]) hc j hj (hC.2.2.2.2.1 _ hw) (fun x hx => by rw [← href]; exact hx) (v := .ref (E.2.2.1 (μ a j).toNatClampNeg)) ?_ hd (h H locs lsa hP hS hl (ix_ok_cons (show (μ a j).toNatClampNeg < 3 from hx) (ix_ok_tl hok)))
      rw [List.getElem?_mapIdx, (hsh a ha htg).1]
      rfl
    · exact h.elim
theorem ix_s_gval {index : Nat} (hw : Cond.fieldLink own index "java/lang/String" "value" "[B" ∈ ix_TB) (hd : decode cc pc = .ok (.getfield index, 3)) : ix_S l cc nL own d rt pc (ix_gval (pc + 3)) := by
  refine ⟨fun k k' Q ls st μ hk h => ?_, fun p e R s m args below meth c cells slots Qw E A Q hC ls st μ h H locs lsa hP hS hl hok => ?_⟩
  · unfold ix_gval at h ⊢; split at h <;> first | exact ⟨h.1, hk _ h.2⟩ | exact h
  · unfold ix_gval at h; split at h
    · rename_i t a st'
      obtain ⟨rfl, h⟩ := h
      have ha := ix_okS (ix_ok_hd hok)
      exact vk_getf hC.1 hC.2.1 (hC.OF (hC.2.2.2.2.2.2.1.1.1 a ha).2.2.1) hS hC.2.2.2.1 (hC.2.2.2.2.1 _ hw) (fun _ hx => hx) hd (h H locs lsa hP hS hl (ix_ok_cons (show a < 3 from ha) (ix_ok_tl hok)))
    · exact h.elim
theorem ix_s_gcod {index : Nat} (hw : Cond.fieldLink own index "java/lang/String" "coder" "B" ∈ ix_TB) (hd : decode cc pc = .ok (.getfield index, 3)) : ix_S l cc nL own d rt pc (ix_gcod (pc + 3)) := by
  refine ⟨fun k k' Q ls st μ hk h => ?_, fun p e R s m args below meth c cells slots Qw E A Q hC ls st μ h H locs lsa hP hS hl hok => ?_⟩
  · unfold ix_gcod at h ⊢; split at h <;> first | exact ⟨h.1, hk _ h.2⟩ | exact h
  · unfold ix_gcod at h; split at h
    · rename_i t a st'
      obtain ⟨rfl, h⟩ := h
      have ha := ix_okS (ix_ok_hd hok)
      exact vk_getf hC.1 hC.2.1 (hC.OF (hC.2.2.2.2.2.2.1.1.1 a ha).2.1) hS hC.2.2.2.1 (hC.2.2.2.2.1 _ hw) (fun _ hx => hx) hd (h H locs lsa hP hS hl (ix_ok_cons (ix_oki _) (ix_ok_tl hok)))
    · exact h.elim
theorem ix_s_gcs {index : Nat} (hw : Cond.fieldLink own index "java/lang/String" "COMPACT_STRINGS" "Z" ∈ ix_TB) (hd : decode cc pc = .ok (.getstatic index, 3)) : ix_S l cc nL own d rt pc (ix_push (vi 1) (pc + 3)) := by
  refine ⟨fun k k' Q ls st μ hk h => hk _ h, fun p e R s m args below meth c cells slots Qw E A Q hC ls st μ h H locs lsa hP hS hl hok => ?_⟩
  exact va_gets hC.1 hC.2.1 (hC.Z hC.2.2.2.2.2.2.1.2.1) hS hC.2.2.2.1 (hC.2.2.2.2.1 _ hw) (fun _ hx => hx) hd (h H locs lsa hP hS hl (ix_ok_cons (ix_oki _) hok))
theorem ix_s_bald (hd : decode cc pc = .ok (.baload, 1)) : ix_S l cc nL own d rt pc (ix_bald (pc + 1)) := by
  refine ⟨fun k k' Q ls st μ hk h => ?_, fun p e R s m args below meth c cells slots Qw E A Q hC ls st μ h H locs lsa hP hS hl hok => ?_⟩
  · unfold ix_bald at h ⊢; split at h <;> first | exact ⟨h.1, h.2.1, hk _ h.2.2⟩ | exact h
  · unfold ix_bald at h; split at h
    · rename_i i t a st'
      obtain ⟨rfl, hi, h⟩ := h
      have ha := ix_okB (ix_ok_hd (ix_ok_tl hok))
      exact va_tb hC.1 hC.2.1 (hC.T (hC.2.2.2.2.2.2.1.1.1 a ha).2.2.2) hS hi rfl hd (h H locs lsa hP hS hl (ix_ok_cons (ix_oki _) (ix_ok_tl (ix_ok_tl hok))))
    · exact h.elim
theorem ix_s_blen (hd : decode cc pc = .ok (.arraylength, 1)) : ix_S l cc nL own d rt pc (ix_blen (pc + 1)) := by
  refine ⟨fun k k' Q ls st μ hk h => ?_, fun p e R s m args below meth c cells slots Qw E A Q hC ls st μ h H locs lsa hP hS hl hok => ?_⟩
  · unfold ix_blen at h ⊢; split at h <;> first | exact ⟨h.1, hk _ h.2⟩ | exact h
  · unfold ix_blen at h; split at h
    · rename_i t a st'
      obtain ⟨rfl, h⟩ := h
      have ha := ix_okB (ix_ok_hd hok)
      exact va_tlen hC.1 hC.2.1 (hC.T (hC.2.2.2.2.2.2.1.1.1 a ha).2.2.2) hS rfl hd (h H locs lsa hP hS hl (ix_ok_cons (ix_oki _) (ix_ok_tl hok)))
    · exact h.elim
theorem ix_s_sald (hd : decode cc pc = .ok (.aaload, 1)) : ix_S l cc nL own d rt pc (ix_sald (pc + 1)) := by
  refine ⟨fun k k' Q ls st μ hk h => ?_, fun p e R s m args below meth c cells slots Qw E A Q hC ls st μ h H locs lsa hP hS hl hok => ?_⟩
  · unfold ix_sald at h ⊢; split at h <;> first | exact ⟨h.1, h.2.1, h.2.2.1, hk _ h.2.2.2⟩ | exact h
  · unfold ix_sald at h; split at h
    · rename_i i t a st'
      obtain ⟨rfl, rfl, hi, h⟩ := h
      have hlt : i.toNatClampNeg < 2 := Nat.not_le.mp fun q => hi (Or.inr q)
      have h7 := h H locs lsa hP hS hl (ix_ok_cons (show i.toNatClampNeg + 1 < 3 by omega) (ix_ok_tl (ix_ok_tl hok)))
      have htg : ix_tag 117 = 23 := by decide +kernel
      have hlen : (ix_sh 117).2.length = 2 := by decide +kernel
      have hat : ∀ j, j < 2 → (ix_sh 117).2.getD j none = some (1001 + j) := by decide +kernel
      show W _ _ _ _ _ _ _ _ _ _ _ _ _ _ _ (F0 m pc lsa (.int i :: .ref (E.2.1 117) :: st'.map (ix_cv E)))
      refine va_aldq (D := E.1) (cl := vwCl) (C := "java/lang/String") hC.1 hC.2.1 hC.2.2.2.2.2.1.1 hP 117 3 (by rw [ix_w_at E _ (by decide), ix_ce_ref htg (by decide)]) rfl (n := (ix_sh 117).2.length) (by rw [hlen]; exact hi) hd ?_
      have e1 : ix_rv E ((ix_sh 117).2.getD i.toNatClampNeg none) = E.2.2.1 (i.toNatClampNeg + 1) := by
        rw [hat _ hlt]
        unfold ix_rv
        simp only
        rw [if_pos (by omega), show 1001 + i.toNatClampNeg - 1000 = i.toNatClampNeg + 1 by omega]
      show W _ _ _ _ _ _ _ _ _ _ _ _ _ _ _ (F0 m (pc + 1) lsa (va_rf (some (ix_rv E ((ix_sh 117).2.getD i.toNatClampNeg none))) :: _))
      rw [e1]
      exact h7
    · exact h.elim
theorem ix_s_nret {ty : FieldType} (hd : decode cc pc = .ok (.ireturn, 1)) (hr : rt = some ty) : ix_S l cc nL own d rt pc (ix_nret ty) := by
  refine ⟨fun k k' Q ls st μ hk h => h, fun p e R s m args below meth c cells slots Qw E A Q hC ls st μ h H locs lsa hP hS hl hok => ?_⟩
  unfold ix_nret at h; split at h
  · obtain ⟨hz, h⟩ := h
    exact hC.2.2.2.2.2.2.2.2.2.2.2 (some (.inl _)) μ H locs lsa pc h (fun v e => by cases e; exact ix_oki _) ⟨hd, _, hr, hz⟩ hP hS
  · exact h.elim
theorem ix_s_callS {P : Type} {y : MethodName} {c' : ByteArray} {nL' d' na index : Nat} {rt' : Option FieldType} {sh : P → List ix_V} {T : P → ix_M → (ix_R → Prop) → Prop} (hct : ix_Ct l y c' nL' rt' d' sh T) (hd' : d' < d) (hn' : nL' ≤ 21) (hcode : Cond.code y c' nL' rt' ∈ ix_TB) (hini : Cond.initialized y.cls ∈ ix_TB) (hlink : Cond.methodLink own index y ∈ ix_TB) (hins : Cond.instanceMethod y ∈ ix_TB) (hsel : Cond.selects y.cls y y ∈ ix_TB)
    (hdd : y.cls ≠ "java/lang/invoke/MethodHandle" ∧ y.cls ≠ "java/lang/invoke/VarHandle" ∧ (parseMethodDescriptor y.desc).map (fun d => d.parameters.length) = some na) (hq : y.cls = "java/lang/String") (hsh : ∀ x, ∃ k as, sh x = .inr (.inr (24, k)) :: as ∧ as.length = na) (hd : decode cc pc = .ok (.invokevirtual index, 3)) : ix_S l cc nL own d rt pc (ix_call (na + 1) sh T (pc + 3)) := by
  refine ⟨fun k k' Q ls st μ hk h => ix_call_mono k k' Q ls st μ hk h, fun p e R s m args below meth c cells slots Qw E A Q hC ls st μ h H locs lsa hP hS hl hok => ?_⟩
  obtain ⟨hcs, x, hx, Q', hT, hkk⟩ := h
  obtain ⟨r1, r2, r3, r4⟩ := hC.2.2.2.2.2.2.2.2.2.2.1
  have hokx : ∀ v ∈ sh x, ix_ok v := fun v hv => hok v (List.mem_of_mem_take (by rw [← hx] at hv; exact List.mem_reverse.mp hv))
  obtain ⟨k0, as, hs1, hs2⟩ := hsh x
  have hok0 := ix_okS (hokx (.inr (.inr (24, k0))) (by rw [hs1]; exact List.mem_cons_self))
  have hMet := hct E x μ Q' hC.2.2.2.2.2.2.2.1 hokx hT
  have hcv : ix_cv E (.inr (.inr (24, k0))) = .ref (E.2.2.1 k0) := rfl
  rw [hs1, List.map_cons, hcv] at hMet
  have hsp := ix_st_split E (na + 1) st
  rw [hx, hs1, List.map_cons, hcv, List.reverse_cons, List.append_assoc] at hsp
  show W _ _ _ _ _ _ _ _ _ _ _ _ _ _ _ (F0 m pc lsa (st.map (ix_cv E)))
  refine ix_after (E := E) (Q' := Q') (A := A) (rest := (st.drop (na + 1)).map (ix_cv E)) (va_runV (C := y.cls) (As := as.map (ix_cv E)) (rest := (st.drop (na + 1)).map (ix_cv E)) ⟨hC.1, hC.2.1, hC.2.2.1, hC.2.2.2.1, hC.2.2.2.2.1⟩ hMet ⟨callB_of na hC.2.2.2.2.1 (ix_TB_good hcode) rfl rfl rfl (hC.2.2.2.2.1 _ hini) (hC.2.2.2.2.1 _ hlink) hdd ⟨by show d' + 1 ≤ _; omega, by show 8 + (nL' + 11) + 40 * d' ≤ _; omega⟩, hC.2.2.2.2.1 _ hins, hC.2.2.2.2.1 _ hsel⟩ ⟨ix_blind, ?_, fun U hU hW => ⟨rfl, ix_H.at hC hP hS hU hW⟩⟩ rfl (by rw [List.length_map]; exact hs2) hl.2.1 hsp (lv_room (by rw [ix_cs_cat]; exact hcs)) hd ⟨r3, r4⟩) hS hC.2.2.2.2.2.2.2.2.1 (fun r H1 locs1 hQ hokr hP1 hS1 => ?_)
  · rw [hq]
    obtain ⟨cell, h1, h2, h3, h4⟩ := (hC.2.2.2.2.2.2.1.1.1 k0 hok0).1
    refine ⟨cell, ?_, h2, h3⟩
    rw [hS.2.1 _ (Array.getElem?_eq_some_iff.mp h1).1 (fun z => h4 (hC.2.2.2.2.2.2.2.2.2.1 _ (Array.getElem?_eq_some_iff.mp h1).1 z))]
    exact h1
  · have h2 := hkk r hQ H1 locs1 lsa hP1 hS1 hl (fun v hv => by
      rcases List.mem_append.mp hv with h | h
      · exact hokr v (Option.mem_toList.mp h)
      · exact hok v (List.mem_of_mem_drop h))
    rw [← List.map_append]
    exact h2
end IXT
