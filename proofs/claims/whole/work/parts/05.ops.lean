/-! ===== judgement, operations and their soundness ===== -/
def ix_Vd (p : Program) (l : Launch) (e : Env) (R : Room) (s : State) (m : MethodId) (args : Array Value) (below : List Frame) (meth : Method) (c : Code) (cells slots : Nat) (Qw : State → Prop) (E : ix_E) (nL : Nat) (A : Nat → Prop) (fr : ix_F) : Prop :=
  ∀ (H : Heap) (locs : List Loc) (ls : Array Slot), va_P E.1 vwCl (ix_w E fr.2.2.2) H → va_S A s.heap H locs → ix_lv E ls nL fr.2.1 → (∀ v ∈ fr.2.2.1, ix_ok v) → W p l e R s m args below meth c H locs cells slots Qw (F0 m fr.1 ls (fr.2.2.1.map (ix_cv E)))
def ix_rd (cc : ByteArray) (rt : Option FieldType) (pc : Nat) (r : Option ix_V) : Prop := match r with
  | none => decode cc pc = .ok (.return_, 1) ∧ rt = none
  | some (.inl v) => decode cc pc = .ok (.ireturn, 1) ∧ ∃ ty, rt = some ty ∧ narrow ty (.int v) = .int v
  | some (.inr (.inl _)) => False
  | some (.inr (.inr _)) => decode cc pc = .ok (.areturn, 1) ∧ ∃ n, rt = some (.object n)
def ix_C (p : Program) (l : Launch) (e : Env) (R : Room) (s : State) (m : MethodId) (args : Array Value) (below : List Frame) (meth : Method) (c : Code) (cells slots : Nat) (Qw : State → Prop) (E : ix_E) (nL : Nat) (A : Nat → Prop) (cc : ByteArray) (own : String) (d : Nat) (rt : Option FieldType) (Q : ix_R → Prop) : Prop :=
  p.tables.exec = Jvm.exec ∧ c.code = cc ∧ c.maxLocals = nL ∧ s.vm.findClass own = some m.cls ∧ (∀ w ∈ ix_TB, w.before args s = true) ∧ ix_KV E s ∧ ix_RO E s s.heap ∧ ix_EO E ∧ (∀ q, ix_A E q → A q) ∧ (∀ q, q < s.heap.size → A q → ix_A E q) ∧ (d ≤ R.frames ∧ 40 * d ≤ R.locals ∧ cells ≤ R.cells ∧ slots ≤ R.slots) ∧
  ∀ (r : Option ix_V) (μ : ix_M) (H : Heap) (locs : List Loc) (ls : Array Slot) (pc : Nat), Q (r, μ) → (∀ v, r = some v → ix_ok v) → ix_rd cc rt pc r → va_P E.1 vwCl (ix_w E μ) H → va_S A s.heap H locs → W p l e R s m args below meth c H locs cells slots Qw (F0 m pc ls (r.toList.map (ix_cv E)))
def ix_S (l : Launch) (cc : ByteArray) (nL : Nat) (own : String) (d : Nat) (rt : Option FieldType) (pc : Nat) (op : ix_Op) : Prop :=
  (∀ (k k' : ix_K) (Q : ix_R → Prop) (ls : ix_L) (st : List ix_V) (μ : ix_M), (∀ x, k x → k' x) → op k Q ls st μ → op k' Q ls st μ) ∧
  ∀ (p : Program) (e : Env) (R : Room) (s : State) (m : MethodId) (args : Array Value) (below : List Frame) (meth : Method) (c : Code) (cells slots : Nat) (Qw : State → Prop) (E : ix_E) (A : Nat → Prop) (Q : ix_R → Prop), ix_C p l e R s m args below meth c cells slots Qw E nL A cc own d rt Q → ∀ (ls : ix_L) (st : List ix_V) (μ : ix_M), op (ix_Vd p l e R s m args below meth c cells slots Qw E nL A) Q ls st μ → ix_Vd p l e R s m args below meth c cells slots Qw E nL A (pc, ls, st, μ)
-- the operations
def ix_push (v : ix_V) (n : Nat) : ix_Op := fun k _ ls st μ => k (n, ls, v :: st, μ)
def ix_iload (i n : Nat) : ix_Op := fun k _ ls st μ => match ls[i]? with
  | some (some (.inl x)) => k (n, ls, .inl x :: st, μ)
  | _ => False
def ix_lload (i n : Nat) : ix_Op := fun k _ ls st μ => match ls[i]? with
  | some (some (.inr (.inl x))) => k (n, ls, .inr (.inl x) :: st, μ)
  | _ => False
def ix_aload (i n : Nat) : ix_Op := fun k _ ls st μ => match ls[i]? with
  | some (some (.inr (.inr x))) => k (n, ls, .inr (.inr x) :: st, μ)
  | _ => False
def ix_istore (i n : Nat) : ix_Op := fun k _ ls st μ => match st with
  | .inl x :: st' => ix_nl ls i = true ∧ k (n, ls.set i (some (.inl x)), st', μ)
  | _ => False
def ix_astore (i n : Nat) : ix_Op := fun k _ ls st μ => match st with
  | .inr (.inr x) :: st' => ix_nl ls i = true ∧ k (n, ls.set i (some (.inr (.inr x))), st', μ)
  | _ => False
def ix_iinc (i : Nat) (v : Int32) (n : Nat) : ix_Op := fun k _ ls st μ => match ls[i]? with
  | some (some (.inl x)) => ix_nl ls i = true ∧ k (n, ls.set i (some (.inl (x + v))), st, μ)
  | _ => False
def ix_bin (f : Int32 → Int32 → Int32) (n : Nat) : ix_Op := fun k _ ls st μ => match st with
  | .inl y :: .inl x :: st' => k (n, ls, .inl (f x y) :: st', μ)
  | _ => False
def ix_div (f : Int32 → Int32 → Int32) (n : Nat) : ix_Op := fun k _ ls st μ => match st with
  | .inl y :: .inl x :: st' => ¬ y = 0 ∧ k (n, ls, .inl (f x y) :: st', μ)
  | _ => False
def ix_un (f : Int32 → Int32) (n : Nat) : ix_Op := fun k _ ls st μ => match st with
  | .inl x :: st' => k (n, ls, .inl (f x) :: st', μ)
  | _ => False
def ix_i2l (n : Nat) : ix_Op := fun k _ ls st μ => match st with
  | .inl x :: st' => k (n, ls, .inr (.inl x.toInt64) :: st', μ)
  | _ => False
def ix_l2i (n : Nat) : ix_Op := fun k _ ls st μ => match st with
  | .inr (.inl x) :: st' => k (n, ls, .inl x.toInt32 :: st', μ)
  | _ => False
def ix_lbin (f : Int64 → Int64 → Int64) (n : Nat) : ix_Op := fun k _ ls st μ => match st with
  | .inr (.inl y) :: .inr (.inl x) :: st' => k (n, ls, .inr (.inl (f x y)) :: st', μ)
  | _ => False
def ix_lsh (f : Int64 → Int32 → Int64) (n : Nat) : ix_Op := fun k _ ls st μ => match st with
  | .inl y :: .inr (.inl x) :: st' => k (n, ls, .inr (.inl (f x y)) :: st', μ)
  | _ => False
def ix_lcmp (n : Nat) : ix_Op := fun k _ ls st μ => match st with
  | .inr (.inl y) :: .inr (.inl x) :: st' => k (n, ls, .inl (lg_cmp x y) :: st', μ)
  | _ => False
def ix_dup (n : Nat) : ix_Op := fun k _ ls st μ => match st with
  | .inl x :: st' => k (n, ls, .inl x :: .inl x :: st', μ)
  | .inr (.inr x) :: st' => k (n, ls, .inr (.inr x) :: .inr (.inr x) :: st', μ)
  | _ => False
def ix_dup2 (n : Nat) : ix_Op := fun k _ ls st μ => match st with
  | .inl y :: .inr (.inr x) :: st' => k (n, ls, .inl y :: .inr (.inr x) :: .inl y :: .inr (.inr x) :: st', μ)
  | _ => False
def ix_pop (n : Nat) : ix_Op := fun k _ ls st μ => match st with
  | .inl _ :: st' => k (n, ls, st', μ)
  | _ => False
def ix_if (c : Int32 → Prop) (t n : Nat) : ix_Op := fun k _ ls st μ => match st with
  | .inl x :: st' => (c x → k (t, ls, st', μ)) ∧ (¬ c x → k (n, ls, st', μ))
  | _ => False
def ix_cmp (c : Int32 → Int32 → Prop) (t n : Nat) : ix_Op := fun k _ ls st μ => match st with
  | .inl y :: .inl x :: st' => (c x y → k (t, ls, st', μ)) ∧ (¬ c x y → k (n, ls, st', μ))
  | _ => False
def ix_goto (t : Nat) : ix_Op := fun k _ ls st μ => k (t, ls, st, μ)
def ix_sw (x : Int32) (ps : List (Int32 × Nat)) (dt : Nat) (k : Nat → Prop) : Prop := match ps with
  | [] => k dt
  | (v, t) :: r => (x = v → k t) ∧ (¬ x = v → ix_sw x r dt k)
def ix_switch (ps : List (Int32 × Nat)) (dt : Nat) : ix_Op := fun k _ ls st μ => match st with
  | .inl x :: st' => ix_sw x ps dt (fun t => k (t, ls, st', μ))
  | _ => False
def ix_iret : ix_Op := fun _ Q _ st μ => match st with
  | [.inl v] => Q (some (.inl v), μ)
  | _ => False
def ix_zret : ix_Op := fun _ Q _ st μ => match st with
  | [.inl v] => (v = 0 ∨ v = 1) ∧ Q (some (.inl v), μ)
  | _ => False
def ix_vret : ix_Op := fun _ Q _ st μ => match st with
  | [] => Q (none, μ)
  | _ => False
def ix_aret : ix_Op := fun _ Q _ st μ => match st with
  | [.inr (.inr v)] => Q (some (.inr (.inr v)), μ)
  | _ => False
-- soundness
section IXS
variable {l : Launch} {cc : ByteArray} {nL : Nat} {own : String} {d : Nat} {rt : Option FieldType} {pc : Nat}
theorem ix_ok_cons {v : ix_V} {st : List ix_V} (hv : ix_ok v) (h : ∀ v ∈ st, ix_ok v) : ∀ w ∈ v :: st, ix_ok w := fun w hw => (List.mem_cons.mp hw).elim (fun e => e ▸ hv) (h w)
theorem ix_ok_tl {v : ix_V} {st : List ix_V} (h : ∀ w ∈ v :: st, ix_ok w) : ∀ w ∈ st, ix_ok w := fun w hw => h w (List.mem_cons_of_mem _ hw)
theorem ix_ok_hd {v : ix_V} {st : List ix_V} (h : ∀ w ∈ v :: st, ix_ok w) : ix_ok v := h v List.mem_cons_self
theorem ix_oki (x : Int32) : ix_ok (.inl x) := trivial
theorem ix_okl (x : Int64) : ix_ok (.inr (.inl x)) := trivial
theorem ix_s_iconst {n : Int} {v : Int32} (hd : decode cc pc = .ok (.iconst n, 1)) (hv : Int32.ofInt n = v) : ix_S l cc nL own d rt pc (ix_push (vi v) (pc + 1)) := by
  refine ⟨fun k k' Q ls st μ hk h => hk _ h, fun p e R s m args below meth c cells slots Qw E A Q hC ls st μ h H locs lsa hP hS hl hok => ?_⟩
  exact lv_iconst hC.1 hC.2.1 hd hv (h H locs lsa hP hS hl (ix_ok_cons (ix_oki _) hok))
theorem ix_s_bipush {n : Int} {v : Int32} (hd : decode cc pc = .ok (.bipush n, 2)) (hv : (Int8.ofInt n).toInt32 = v) : ix_S l cc nL own d rt pc (ix_push (vi v) (pc + 2)) := by
  refine ⟨fun k k' Q ls st μ hk h => hk _ h, fun p e R s m args below meth c cells slots Qw E A Q hC ls st μ h H locs lsa hP hS hl hok => ?_⟩
  exact lv_bipush hC.1 hC.2.1 hd hv (h H locs lsa hP hS hl (ix_ok_cons (ix_oki _) hok))
theorem ix_s_sipush {n : Int} {v : Int32} (hd : decode cc pc = .ok (.sipush n, 3)) (hv : (Int16.ofInt n).toInt32 = v) : ix_S l cc nL own d rt pc (ix_push (vi v) (pc + 3)) := by
  refine ⟨fun k k' Q ls st μ hk h => hk _ h, fun p e R s m args below meth c cells slots Qw E A Q hC ls st μ h H locs lsa hP hS hl hok => ?_⟩
  exact lv_sipush hC.1 hC.2.1 hd hv (h H locs lsa hP hS hl (ix_ok_cons (ix_oki _) hok))
theorem ix_s_ldc {index : Nat} {v : Int32} (hw : Cond.constant own index v ∈ ix_TB) (hd : decode cc pc = .ok (.ldc index, 2)) : ix_S l cc nL own d rt pc (ix_push (vi v) (pc + 2)) := by
  refine ⟨fun k k' Q ls st μ hk h => hk _ h, fun p e R s m args below meth c cells slots Qw E A Q hC ls st μ h H locs lsa hP hS hl hok => ?_⟩
  exact lv_ldc hC.1 hC.2.1 hC.2.2.2.1 (hC.2.2.2.2.1 _ hw) hd (h H locs lsa hP hS hl (ix_ok_cons (ix_oki _) hok))
theorem ix_s_ldcw {index : Nat} {v : Int32} (hw : Cond.constant own index v ∈ ix_TB) (hd : decode cc pc = .ok (.ldc_w index, 3)) : ix_S l cc nL own d rt pc (ix_push (vi v) (pc + 3)) := by
  refine ⟨fun k k' Q ls st μ hk h => hk _ h, fun p e R s m args below meth c cells slots Qw E A Q hC ls st μ h H locs lsa hP hS hl hok => ?_⟩
  exact lv_ldcw hC.1 hC.2.1 hC.2.2.2.1 (hC.2.2.2.2.1 _ hw) hd (h H locs lsa hP hS hl (ix_ok_cons (ix_oki _) hok))
theorem ix_s_ldc2 {index : Nat} {v : Int64} (hw : Cond.constantLong own index v ∈ ix_TB) (hd : decode cc pc = .ok (.ldc2_w index, 3)) : ix_S l cc nL own d rt pc (ix_push (vl v) (pc + 3)) := by
  refine ⟨fun k k' Q ls st μ hk h => hk _ h, fun p e R s m args below meth c cells slots Qw E A Q hC ls st μ h H locs lsa hP hS hl hok => ?_⟩
  exact lv_ldc2 hC.1 hC.2.1 hC.2.2.2.1 (hC.2.2.2.2.1 _ hw) hd (h H locs lsa hP hS hl (ix_ok_cons (ix_okl _) hok))
theorem ix_s_iload_n {k0 : Fin 4} {i : Nat} (hd : decode cc pc = .ok (.iload_n k0, 1)) (hi : (k0 : Nat) = i) : ix_S l cc nL own d rt pc (ix_iload i (pc + 1)) := by
  refine ⟨fun k k' Q ls st μ hk h => ?_, fun p e R s m args below meth c cells slots Qw E A Q hC ls st μ h H locs lsa hP hS hl hok => ?_⟩
  · unfold ix_iload at h ⊢; split at h <;> first | exact hk _ h | exact h
  · unfold ix_iload at h; split at h
    · rename_i x hx
      exact lv_iload_n hC.1 hC.2.1 hd hi (hl.2.2.2.1 _ _ hx) (h H locs lsa hP hS hl (ix_ok_cons (ix_oki _) hok))
    · exact h.elim
theorem ix_s_iload {i : Nat} (hd : decode cc pc = .ok (.iload i, 2)) : ix_S l cc nL own d rt pc (ix_iload i (pc + 2)) := by
  refine ⟨fun k k' Q ls st μ hk h => ?_, fun p e R s m args below meth c cells slots Qw E A Q hC ls st μ h H locs lsa hP hS hl hok => ?_⟩
  · unfold ix_iload at h ⊢; split at h <;> first | exact hk _ h | exact h
  · unfold ix_iload at h; split at h
    · rename_i x hx
      exact lv_iload hC.1 hC.2.1 hd (hl.2.2.2.1 _ _ hx) (h H locs lsa hP hS hl (ix_ok_cons (ix_oki _) hok))
    · exact h.elim
theorem ix_s_lload_n {k0 : Fin 4} {i : Nat} (hd : decode cc pc = .ok (.lload_n k0, 1)) (hi : (k0 : Nat) = i) : ix_S l cc nL own d rt pc (ix_lload i (pc + 1)) := by
  refine ⟨fun k k' Q ls st μ hk h => ?_, fun p e R s m args below meth c cells slots Qw E A Q hC ls st μ h H locs lsa hP hS hl hok => ?_⟩
  · unfold ix_lload at h ⊢; split at h <;> first | exact hk _ h | exact h
  · unfold ix_lload at h; split at h
    · rename_i x hx
      exact lv_lload_n hC.1 hC.2.1 hd hi (hl.2.2.2.1 _ _ hx) (h H locs lsa hP hS hl (ix_ok_cons (ix_okl _) hok))
    · exact h.elim
theorem ix_s_aload_n {k0 : Fin 4} {i : Nat} (hd : decode cc pc = .ok (.aload_n k0, 1)) (hi : (k0 : Nat) = i) : ix_S l cc nL own d rt pc (ix_aload i (pc + 1)) := by
  refine ⟨fun k k' Q ls st μ hk h => ?_, fun p e R s m args below meth c cells slots Qw E A Q hC ls st μ h H locs lsa hP hS hl hok => ?_⟩
  · unfold ix_aload at h ⊢; split at h <;> first | exact hk _ h | exact h
  · unfold ix_aload at h; split at h
    · rename_i x hx
      exact lv_aload_n hC.1 hC.2.1 hd hi (hl.2.2.2.1 _ _ hx) (h H locs lsa hP hS hl (ix_ok_cons (hl.2.2.2.2 _ _ hx) hok))
    · exact h.elim
theorem ix_s_aload {i : Nat} (hd : decode cc pc = .ok (.aload i, 2)) : ix_S l cc nL own d rt pc (ix_aload i (pc + 2)) := by
  refine ⟨fun k k' Q ls st μ hk h => ?_, fun p e R s m args below meth c cells slots Qw E A Q hC ls st μ h H locs lsa hP hS hl hok => ?_⟩
  · unfold ix_aload at h ⊢; split at h <;> first | exact hk _ h | exact h
  · unfold ix_aload at h; split at h
    · rename_i x hx
      exact lv_aload hC.1 hC.2.1 hd (hl.2.2.2.1 _ _ hx) (h H locs lsa hP hS hl (ix_ok_cons (hl.2.2.2.2 _ _ hx) hok))
    · exact h.elim
theorem ix_s_istore_n {k0 : Fin 4} {i : Nat} (hd : decode cc pc = .ok (.istore_n k0, 1)) (hi : (k0 : Nat) = i) (hn : i < nL) : ix_S l cc nL own d rt pc (ix_istore i (pc + 1)) := by
  refine ⟨fun k k' Q ls st μ hk h => ?_, fun p e R s m args below meth c cells slots Qw E A Q hC ls st μ h H locs lsa hP hS hl hok => ?_⟩
  · unfold ix_istore at h ⊢; split at h <;> first | exact ⟨h.1, hk _ h.2⟩ | exact h
  · unfold ix_istore at h; split at h
    · exact lv_istore_n hC.1 hC.2.1 hd hi hl.has hn rfl (fun ls' hl' => h.2 H locs ls' hP hS (hl.st (v := .inl _) hn h.1 (ix_oki _) hl') (ix_ok_tl hok))
    · exact h.elim
theorem ix_s_istore {i : Nat} (hd : decode cc pc = .ok (.istore i, 2)) (hn : i < nL) : ix_S l cc nL own d rt pc (ix_istore i (pc + 2)) := by
  refine ⟨fun k k' Q ls st μ hk h => ?_, fun p e R s m args below meth c cells slots Qw E A Q hC ls st μ h H locs lsa hP hS hl hok => ?_⟩
  · unfold ix_istore at h ⊢; split at h <;> first | exact ⟨h.1, hk _ h.2⟩ | exact h
  · unfold ix_istore at h; split at h
    · exact lv_istore hC.1 hC.2.1 hd hl.has hn rfl (fun ls' hl' => h.2 H locs ls' hP hS (hl.st (v := .inl _) hn h.1 (ix_oki _) hl') (ix_ok_tl hok))
    · exact h.elim
theorem ix_s_astore_n {k0 : Fin 4} {i : Nat} (hd : decode cc pc = .ok (.astore_n k0, 1)) (hi : (k0 : Nat) = i) (hn : i < nL) : ix_S l cc nL own d rt pc (ix_astore i (pc + 1)) := by
  refine ⟨fun k k' Q ls st μ hk h => ?_, fun p e R s m args below meth c cells slots Qw E A Q hC ls st μ h H locs lsa hP hS hl hok => ?_⟩
  · unfold ix_astore at h ⊢; split at h <;> first | exact ⟨h.1, hk _ h.2⟩ | exact h
  · unfold ix_astore at h; split at h
    · exact lv_astore_n hC.1 hC.2.1 hd hi hl.has hn rfl (fun ls' hl' => h.2 H locs ls' hP hS (hl.st (v := .inr (.inr _)) hn h.1 (ix_ok_hd hok) hl') (ix_ok_tl hok))
    · exact h.elim
theorem ix_s_astore {i : Nat} (hd : decode cc pc = .ok (.astore i, 2)) (hn : i < nL) : ix_S l cc nL own d rt pc (ix_astore i (pc + 2)) := by
  refine ⟨fun k k' Q ls st μ hk h => ?_, fun p e R s m args below meth c cells slots Qw E A Q hC ls st μ h H locs lsa hP hS hl hok => ?_⟩
  · unfold ix_astore at h ⊢; split at h <;> first | exact ⟨h.1, hk _ h.2⟩ | exact h
  · unfold ix_astore at h; split at h
    · exact lv_astore hC.1 hC.2.1 hd hl.has hn rfl (fun ls' hl' => h.2 H locs ls' hP hS (hl.st (v := .inr (.inr _)) hn h.1 (ix_ok_hd hok) hl') (ix_ok_tl hok))
    · exact h.elim
theorem ix_s_iinc {i : Nat} {n : Int} {v : Int32} (hd : decode cc pc = .ok (.iinc i n, 3)) (hv : Int32.ofInt n = v) (hn : i < nL) : ix_S l cc nL own d rt pc (ix_iinc i v (pc + 3)) := by
  subst hv
  refine ⟨fun k k' Q ls st μ hk h => ?_, fun p e R s m args below meth c cells slots Qw E A Q hC ls st μ h H locs lsa hP hS hl hok => ?_⟩
  · unfold ix_iinc at h ⊢; split at h <;> first | exact ⟨h.1, hk _ h.2⟩ | exact h
  · unfold ix_iinc at h; split at h
    · rename_i x hx
      obtain ⟨j, hj⟩ := List.getElem?_of_mem (ix_al_in (E := E) hx)
      exact lv_iinc hC.1 hC.2.1 hd hl.has hj rfl hn rfl (fun ls' hl' => h.2 H locs ls' hP hS (hl.st (v := .inl _) hn h.1 (ix_oki _) hl') hok)
    · exact h.elim
theorem ix_s_iadd (hd : decode cc pc = .ok (.iadd, 1)) : ix_S l cc nL own d rt pc (ix_bin (fun x y => x + y) (pc + 1)) := by
  refine ⟨fun k k' Q ls st μ hk h => ?_, fun p e R s m args below meth c cells slots Qw E A Q hC ls st μ h H locs lsa hP hS hl hok => ?_⟩
  · unfold ix_bin at h ⊢; split at h <;> first | exact hk _ h | exact h
  · unfold ix_bin at h; split at h
    · exact lv_iadd hC.1 hC.2.1 hd (h H locs lsa hP hS hl (ix_ok_cons (ix_oki _) (ix_ok_tl (ix_ok_tl hok))))
    · exact h.elim
theorem ix_s_isub (hd : decode cc pc = .ok (.isub, 1)) : ix_S l cc nL own d rt pc (ix_bin (fun x y => x - y) (pc + 1)) := by
  refine ⟨fun k k' Q ls st μ hk h => ?_, fun p e R s m args below meth c cells slots Qw E A Q hC ls st μ h H locs lsa hP hS hl hok => ?_⟩
  · unfold ix_bin at h ⊢; split at h <;> first | exact hk _ h | exact h
  · unfold ix_bin at h; split at h
    · exact lv_isub hC.1 hC.2.1 hd (h H locs lsa hP hS hl (ix_ok_cons (ix_oki _) (ix_ok_tl (ix_ok_tl hok))))
    · exact h.elim
theorem ix_s_imul (hd : decode cc pc = .ok (.imul, 1)) : ix_S l cc nL own d rt pc (ix_bin (fun x y => x * y) (pc + 1)) := by
  refine ⟨fun k k' Q ls st μ hk h => ?_, fun p e R s m args below meth c cells slots Qw E A Q hC ls st μ h H locs lsa hP hS hl hok => ?_⟩
  · unfold ix_bin at h ⊢; split at h <;> first | exact hk _ h | exact h
  · unfold ix_bin at h; split at h
    · exact lv_imul hC.1 hC.2.1 hd (h H locs lsa hP hS hl (ix_ok_cons (ix_oki _) (ix_ok_tl (ix_ok_tl hok))))
    · exact h.elim
theorem ix_s_iand (hd : decode cc pc = .ok (.iand, 1)) : ix_S l cc nL own d rt pc (ix_bin (fun x y => x &&& y) (pc + 1)) := by
  refine ⟨fun k k' Q ls st μ hk h => ?_, fun p e R s m args below meth c cells slots Qw E A Q hC ls st μ h H locs lsa hP hS hl hok => ?_⟩
  · unfold ix_bin at h ⊢; split at h <;> first | exact hk _ h | exact h
  · unfold ix_bin at h; split at h
    · exact lv_iand hC.1 hC.2.1 hd (h H locs lsa hP hS hl (ix_ok_cons (ix_oki _) (ix_ok_tl (ix_ok_tl hok))))
    · exact h.elim
theorem ix_s_ior (hd : decode cc pc = .ok (.ior, 1)) : ix_S l cc nL own d rt pc (ix_bin (fun x y => x ||| y) (pc + 1)) := by
  refine ⟨fun k k' Q ls st μ hk h => ?_, fun p e R s m args below meth c cells slots Qw E A Q hC ls st μ h H locs lsa hP hS hl hok => ?_⟩
  · unfold ix_bin at h ⊢; split at h <;> first | exact hk _ h | exact h
  · unfold ix_bin at h; split at h
    · exact lv_ior hC.1 hC.2.1 hd (h H locs lsa hP hS hl (ix_ok_cons (ix_oki _) (ix_ok_tl (ix_ok_tl hok))))
    · exact h.elim
theorem ix_s_ixor (hd : decode cc pc = .ok (.ixor, 1)) : ix_S l cc nL own d rt pc (ix_bin (fun x y => x ^^^ y) (pc + 1)) := by
  refine ⟨fun k k' Q ls st μ hk h => ?_, fun p e R s m args below meth c cells slots Qw E A Q hC ls st μ h H locs lsa hP hS hl hok => ?_⟩
  · unfold ix_bin at h ⊢; split at h <;> first | exact hk _ h | exact h
  · unfold ix_bin at h; split at h
    · exact lv_ixor hC.1 hC.2.1 hd (h H locs lsa hP hS hl (ix_ok_cons (ix_oki _) (ix_ok_tl (ix_ok_tl hok))))
    · exact h.elim
theorem ix_s_ishl (hd : decode cc pc = .ok (.ishl, 1)) : ix_S l cc nL own d rt pc (ix_bin (fun x y => x <<< (y &&& 31)) (pc + 1)) := by
  refine ⟨fun k k' Q ls st μ hk h => ?_, fun p e R s m args below meth c cells slots Qw E A Q hC ls st μ h H locs lsa hP hS hl hok => ?_⟩
  · unfold ix_bin at h ⊢; split at h <;> first | exact hk _ h | exact h
  · unfold ix_bin at h; split at h
    · exact lv_ishl hC.1 hC.2.1 hd (h H locs lsa hP hS hl (ix_ok_cons (ix_oki _) (ix_ok_tl (ix_ok_tl hok))))
    · exact h.elim
theorem ix_s_ishr (hd : decode cc pc = .ok (.ishr, 1)) : ix_S l cc nL own d rt pc (ix_bin (fun x y => x >>> (y &&& 31)) (pc + 1)) := by
  refine ⟨fun k k' Q ls st μ hk h => ?_, fun p e R s m args below meth c cells slots Qw E A Q hC ls st μ h H locs lsa hP hS hl hok => ?_⟩
  · unfold ix_bin at h ⊢; split at h <;> first | exact hk _ h | exact h
  · unfold ix_bin at h; split at h
    · exact lv_ishr hC.1 hC.2.1 hd (h H locs lsa hP hS hl (ix_ok_cons (ix_oki _) (ix_ok_tl (ix_ok_tl hok))))
    · exact h.elim
theorem ix_s_iushr (hd : decode cc pc = .ok (.iushr, 1)) : ix_S l cc nL own d rt pc (ix_bin (fun x y => (x.toUInt32 >>> (y.toUInt32 &&& Int32.toUInt32 31)).toInt32) (pc + 1)) := by
  refine ⟨fun k k' Q ls st μ hk h => ?_, fun p e R s m args below meth c cells slots Qw E A Q hC ls st μ h H locs lsa hP hS hl hok => ?_⟩
  · unfold ix_bin at h ⊢; split at h <;> first | exact hk _ h | exact h
  · unfold ix_bin at h; split at h
    · exact lv_iushr hC.1 hC.2.1 hd rfl (h H locs lsa hP hS hl (ix_ok_cons (ix_oki _) (ix_ok_tl (ix_ok_tl hok))))
    · exact h.elim
theorem ix_s_idiv (hd : decode cc pc = .ok (.idiv, 1)) : ix_S l cc nL own d rt pc (ix_div (fun x y => x / y) (pc + 1)) := by
  refine ⟨fun k k' Q ls st μ hk h => ?_, fun p e R s m args below meth c cells slots Qw E A Q hC ls st μ h H locs lsa hP hS hl hok => ?_⟩
  · unfold ix_div at h ⊢; split at h <;> first | exact ⟨h.1, hk _ h.2⟩ | exact h
  · unfold ix_div at h; split at h
    · exact lv_idiv hC.1 hC.2.1 hd h.1 (h.2 H locs lsa hP hS hl (ix_ok_cons (ix_oki _) (ix_ok_tl (ix_ok_tl hok))))
    · exact h.elim
theorem ix_s_irem (hd : decode cc pc = .ok (.irem, 1)) : ix_S l cc nL own d rt pc (ix_div (fun x y => x - x / y * y) (pc + 1)) := by
  refine ⟨fun k k' Q ls st μ hk h => ?_, fun p e R s m args below meth c cells slots Qw E A Q hC ls st μ h H locs lsa hP hS hl hok => ?_⟩
  · unfold ix_div at h ⊢; split at h <;> first | exact ⟨h.1, hk _ h.2⟩ | exact h
  · unfold ix_div at h; split at h
    · exact lv_irem hC.1 hC.2.1 hd h.1 (h.2 H locs lsa hP hS hl (ix_ok_cons (ix_oki _) (ix_ok_tl (ix_ok_tl hok))))
    · exact h.elim
theorem ix_s_ineg (hd : decode cc pc = .ok (.ineg, 1)) : ix_S l cc nL own d rt pc (ix_un (fun x => -x) (pc + 1)) := by
  refine ⟨fun k k' Q ls st μ hk h => ?_, fun p e R s m args below meth c cells slots Qw E A Q hC ls st μ h H locs lsa hP hS hl hok => ?_⟩
  · unfold ix_un at h ⊢; split at h <;> first | exact hk _ h | exact h
  · unfold ix_un at h; split at h
    · exact lv_ineg hC.1 hC.2.1 hd (h H locs lsa hP hS hl (ix_ok_cons (ix_oki _) (ix_ok_tl hok)))
    · exact h.elim
theorem ix_s_i2b (hd : decode cc pc = .ok (.i2b, 1)) : ix_S l cc nL own d rt pc (ix_un (fun x => x.toInt8.toInt32) (pc + 1)) := by
  refine ⟨fun k k' Q ls st μ hk h => ?_, fun p e R s m args below meth c cells slots Qw E A Q hC ls st μ h H locs lsa hP hS hl hok => ?_⟩
  · unfold ix_un at h ⊢; split at h <;> first | exact hk _ h | exact h
  · unfold ix_un at h; split at h
    · exact lv_i2b hC.1 hC.2.1 hd rfl (h H locs lsa hP hS hl (ix_ok_cons (ix_oki _) (ix_ok_tl hok)))
    · exact h.elim
theorem ix_s_i2s (hd : decode cc pc = .ok (.i2s, 1)) : ix_S l cc nL own d rt pc (ix_un (fun x => x.toInt16.toInt32) (pc + 1)) := by
  refine ⟨fun k k' Q ls st μ hk h => ?_, fun p e R s m args below meth c cells slots Qw E A Q hC ls st μ h H locs lsa hP hS hl hok => ?_⟩
  · unfold ix_un at h ⊢; split at h <;> first | exact hk _ h | exact h
  · unfold ix_un at h; split at h
    · exact lv_i2s hC.1 hC.2.1 hd rfl (h H locs lsa hP hS hl (ix_ok_cons (ix_oki _) (ix_ok_tl hok)))
    · exact h.elim
theorem ix_s_i2c (hd : decode cc pc = .ok (.i2c, 1)) : ix_S l cc nL own d rt pc (ix_un (fun x => (x.toUInt32 % 65536).toInt32) (pc + 1)) := by
  refine ⟨fun k k' Q ls st μ hk h => ?_, fun p e R s m args below meth c cells slots Qw E A Q hC ls st μ h H locs lsa hP hS hl hok => ?_⟩
  · unfold ix_un at h ⊢; split at h <;> first | exact hk _ h | exact h
  · unfold ix_un at h; split at h
    · exact lv_i2c hC.1 hC.2.1 hd rfl (h H locs lsa hP hS hl (ix_ok_cons (ix_oki _) (ix_ok_tl hok)))
    · exact h.elim
theorem ix_s_i2l (hd : decode cc pc = .ok (.i2l, 1)) : ix_S l cc nL own d rt pc (ix_i2l (pc + 1)) := by
  refine ⟨fun k k' Q ls st μ hk h => ?_, fun p e R s m args below meth c cells slots Qw E A Q hC ls st μ h H locs lsa hP hS hl hok => ?_⟩
  · unfold ix_i2l at h ⊢; split at h <;> first | exact hk _ h | exact h
  · unfold ix_i2l at h; split at h
    · exact lv_i2l hC.1 hC.2.1 hd rfl (h H locs lsa hP hS hl (ix_ok_cons (ix_okl _) (ix_ok_tl hok)))
    · exact h.elim
theorem ix_s_l2i (hd : decode cc pc = .ok (.l2i, 1)) : ix_S l cc nL own d rt pc (ix_l2i (pc + 1)) := by
  refine ⟨fun k k' Q ls st μ hk h => ?_, fun p e R s m args below meth c cells slots Qw E A Q hC ls st μ h H locs lsa hP hS hl hok => ?_⟩
  · unfold ix_l2i at h ⊢; split at h <;> first | exact hk _ h | exact h
  · unfold ix_l2i at h; split at h
    · exact lv_l2i hC.1 hC.2.1 hd rfl (h H locs lsa hP hS hl (ix_ok_cons (ix_oki _) (ix_ok_tl hok)))
    · exact h.elim
theorem ix_s_ladd (hd : decode cc pc = .ok (.ladd, 1)) : ix_S l cc nL own d rt pc (ix_lbin (fun x y => x + y) (pc + 1)) := by
  refine ⟨fun k k' Q ls st μ hk h => ?_, fun p e R s m args below meth c cells slots Qw E A Q hC ls st μ h H locs lsa hP hS hl hok => ?_⟩
  · unfold ix_lbin at h ⊢; split at h <;> first | exact hk _ h | exact h
  · unfold ix_lbin at h; split at h
    · exact lv_ladd hC.1 hC.2.1 hd (h H locs lsa hP hS hl (ix_ok_cons (ix_okl _) (ix_ok_tl (ix_ok_tl hok))))
    · exact h.elim
theorem ix_s_land (hd : decode cc pc = .ok (.land, 1)) : ix_S l cc nL own d rt pc (ix_lbin (fun x y => x &&& y) (pc + 1)) := by
  refine ⟨fun k k' Q ls st μ hk h => ?_, fun p e R s m args below meth c cells slots Qw E A Q hC ls st μ h H locs lsa hP hS hl hok => ?_⟩
  · unfold ix_lbin at h ⊢; split at h <;> first | exact hk _ h | exact h
  · unfold ix_lbin at h; split at h
    · exact lv_land hC.1 hC.2.1 hd (h H locs lsa hP hS hl (ix_ok_cons (ix_okl _) (ix_ok_tl (ix_ok_tl hok))))
    · exact h.elim
theorem ix_s_lor (hd : decode cc pc = .ok (.lor, 1)) : ix_S l cc nL own d rt pc (ix_lbin (fun x y => x ||| y) (pc + 1)) := by
  refine ⟨fun k k' Q ls st μ hk h => ?_, fun p e R s m args below meth c cells slots Qw E A Q hC ls st μ h H locs lsa hP hS hl hok => ?_⟩
  · unfold ix_lbin at h ⊢; split at h <;> first | exact hk _ h | exact h
  · unfold ix_lbin at h; split at h
    · exact lv_lor hC.1 hC.2.1 hd (h H locs lsa hP hS hl (ix_ok_cons (ix_okl _) (ix_ok_tl (ix_ok_tl hok))))
    · exact h.elim
theorem ix_s_lshl (hd : decode cc pc = .ok (.lshl, 1)) : ix_S l cc nL own d rt pc (ix_lsh (fun x y => x <<< (y.toInt64 &&& 63)) (pc + 1)) := by
  refine ⟨fun k k' Q ls st μ hk h => ?_, fun p e R s m args below meth c cells slots Qw E A Q hC ls st μ h H locs lsa hP hS hl hok => ?_⟩
  · unfold ix_lsh at h ⊢; split at h <;> first | exact hk _ h | exact h
  · unfold ix_lsh at h; split at h
    · exact lv_lshl hC.1 hC.2.1 hd rfl (h H locs lsa hP hS hl (ix_ok_cons (ix_okl _) (ix_ok_tl (ix_ok_tl hok))))
    · exact h.elim
theorem ix_s_lshr (hd : decode cc pc = .ok (.lshr, 1)) : ix_S l cc nL own d rt pc (ix_lsh (fun x y => x >>> (y.toInt64 &&& 63)) (pc + 1)) := by
  refine ⟨fun k k' Q ls st μ hk h => ?_, fun p e R s m args below meth c cells slots Qw E A Q hC ls st μ h H locs lsa hP hS hl hok => ?_⟩
  · unfold ix_lsh at h ⊢; split at h <;> first | exact hk _ h | exact h
  · unfold ix_lsh at h; split at h
    · exact lv_lshr hC.1 hC.2.1 hd rfl (h H locs lsa hP hS hl (ix_ok_cons (ix_okl _) (ix_ok_tl (ix_ok_tl hok))))
    · exact h.elim
theorem ix_s_lushr (hd : decode cc pc = .ok (.lushr, 1)) : ix_S l cc nL own d rt pc (ix_lsh (fun x y => (x.toUInt64 >>> (y.toInt64.toUInt64 &&& Int64.toUInt64 63)).toInt64) (pc + 1)) := by
  refine ⟨fun k k' Q ls st μ hk h => ?_, fun p e R s m args below meth c cells slots Qw E A Q hC ls st μ h H locs lsa hP hS hl hok => ?_⟩
  · unfold ix_lsh at h ⊢; split at h <;> first | exact hk _ h | exact h
  · unfold ix_lsh at h; split at h
    · exact lv_lushr hC.1 hC.2.1 hd rfl (h H locs lsa hP hS hl (ix_ok_cons (ix_okl _) (ix_ok_tl (ix_ok_tl hok))))
    · exact h.elim
theorem ix_s_lcmp (hd : decode cc pc = .ok (.lcmp, 1)) : ix_S l cc nL own d rt pc (ix_lcmp (pc + 1)) := by
  refine ⟨fun k k' Q ls st μ hk h => ?_, fun p e R s m args below meth c cells slots Qw E A Q hC ls st μ h H locs lsa hP hS hl hok => ?_⟩
  · unfold ix_lcmp at h ⊢; split at h <;> first | exact hk _ h | exact h
  · unfold ix_lcmp at h; split at h
    · exact W.lcmp hC.1 hC.2.1 hd (h H locs lsa hP hS hl (ix_ok_cons (ix_oki _) (ix_ok_tl (ix_ok_tl hok))))
    · exact h.elim
theorem ix_s_dup (hd : decode cc pc = .ok (.dup, 1)) : ix_S l cc nL own d rt pc (ix_dup (pc + 1)) := by
  refine ⟨fun k k' Q ls st μ hk h => ?_, fun p e R s m args below meth c cells slots Qw E A Q hC ls st μ h H locs lsa hP hS hl hok => ?_⟩
  · unfold ix_dup at h ⊢; split at h <;> first | exact hk _ h | exact h
  · unfold ix_dup at h; split at h
    · exact lv_dup hC.1 hC.2.1 hd rfl (h H locs lsa hP hS hl (ix_ok_cons (ix_ok_hd hok) hok))
    · exact lv_dup hC.1 hC.2.1 hd rfl (h H locs lsa hP hS hl (ix_ok_cons (ix_ok_hd hok) hok))
    · exact h.elim
theorem ix_s_dup2 (hd : decode cc pc = .ok (.dup2, 1)) : ix_S l cc nL own d rt pc (ix_dup2 (pc + 1)) := by
  refine ⟨fun k k' Q ls st μ hk h => ?_, fun p e R s m args below meth c cells slots Qw E A Q hC ls st μ h H locs lsa hP hS hl hok => ?_⟩
  · unfold ix_dup2 at h ⊢; split at h <;> first | exact hk _ h | exact h
  · unfold ix_dup2 at h; split at h
    · exact lv_dup2_11 hC.1 hC.2.1 hd rfl rfl (h H locs lsa hP hS hl (ix_ok_cons (ix_ok_hd hok) (ix_ok_cons (ix_ok_hd (ix_ok_tl hok)) hok)))
    · exact h.elim
theorem ix_s_pop (hd : decode cc pc = .ok (.pop, 1)) : ix_S l cc nL own d rt pc (ix_pop (pc + 1)) := by
  refine ⟨fun k k' Q ls st μ hk h => ?_, fun p e R s m args below meth c cells slots Qw E A Q hC ls st μ h H locs lsa hP hS hl hok => ?_⟩
  · unfold ix_pop at h ⊢; split at h <;> first | exact hk _ h | exact h
  · unfold ix_pop at h; split at h
    · exact lv_pop hC.1 hC.2.1 hd rfl (h H locs lsa hP hS hl (ix_ok_tl hok))
    · exact h.elim
theorem ix_s_goto {off : Int} {t : Nat} (hd : decode cc pc = .ok (.goto off, 3)) (ht : (pc : Int) + off = (t : Int)) : ix_S l cc nL own d rt pc (ix_goto t) := by
  refine ⟨fun k k' Q ls st μ hk h => hk _ h, fun p e R s m args below meth c cells slots Qw E A Q hC ls st μ h H locs lsa hP hS hl hok => ?_⟩
  exact lv_goto hC.1 hC.2.1 hd ht (h H locs lsa hP hS hl hok)
theorem ix_s_if_eq {off : Int} {t : Nat} (hd : decode cc pc = .ok (.ifCond .eq off, 3)) (ht : (pc : Int) + off = (t : Int)) : ix_S l cc nL own d rt pc (ix_if (fun x => x = 0) t (pc + 3)) := by
  refine ⟨fun k k' Q ls st μ hk h => ?_, fun p e R s m args below meth c cells slots Qw E A Q hC ls st μ h H locs lsa hP hS hl hok => ?_⟩
  · unfold ix_if at h ⊢; split at h <;> first | exact ⟨fun z => hk _ (h.1 z), fun z => hk _ (h.2 z)⟩ | exact h
  · unfold ix_if at h; split at h
    · exact lv_if_eq hC.1 hC.2.1 hd ht (fun z => h.1 z H locs lsa hP hS hl (ix_ok_tl hok)) (fun z => h.2 z H locs lsa hP hS hl (ix_ok_tl hok))
    · exact h.elim
theorem ix_s_cmp_eq {off : Int} {t : Nat} (hd : decode cc pc = .ok (.if_icmp .eq off, 3)) (ht : (pc : Int) + off = (t : Int)) : ix_S l cc nL own d rt pc (ix_cmp (fun x y => x = y) t (pc + 3)) := by
  refine ⟨fun k k' Q ls st μ hk h => ?_, fun p e R s m args below meth c cells slots Qw E A Q hC ls st μ h H locs lsa hP hS hl hok => ?_⟩
  · unfold ix_cmp at h ⊢; split at h <;> first | exact ⟨fun z => hk _ (h.1 z), fun z => hk _ (h.2 z)⟩ | exact h
  · unfold ix_cmp at h; split at h
    · exact lv_icmp_eq hC.1 hC.2.1 hd ht (fun z => h.1 z H locs lsa hP hS hl (ix_ok_tl (ix_ok_tl hok))) (fun z => h.2 z H locs lsa hP hS hl (ix_ok_tl (ix_ok_tl hok)))
    · exact h.elim
theorem ix_s_if_lt {off : Int} {t : Nat} (hd : decode cc pc = .ok (.ifCond .lt off, 3)) (ht : (pc : Int) + off = (t : Int)) : ix_S l cc nL own d rt pc (ix_if (fun x => x < 0) t (pc + 3)) := by
  refine ⟨fun k k' Q ls st μ hk h => ?_, fun p e R s m args below meth c cells slots Qw E A Q hC ls st μ h H locs lsa hP hS hl hok => ?_⟩
  · unfold ix_if at h ⊢; split at h <;> first | exact ⟨fun z => hk _ (h.1 z), fun z => hk _ (h.2 z)⟩ | exact h
  · unfold ix_if at h; split at h
    · exact lv_if_lt hC.1 hC.2.1 hd ht (fun z => h.1 z H locs lsa hP hS hl (ix_ok_tl hok)) (fun z => h.2 z H locs lsa hP hS hl (ix_ok_tl hok))
    · exact h.elim
theorem ix_s_cmp_lt {off : Int} {t : Nat} (hd : decode cc pc = .ok (.if_icmp .lt off, 3)) (ht : (pc : Int) + off = (t : Int)) : ix_S l cc nL own d rt pc (ix_cmp (fun x y => x < y) t (pc + 3)) := by
  refine ⟨fun k k' Q ls st μ hk h => ?_, fun p e R s m args below meth c cells slots Qw E A Q hC ls st μ h H locs lsa hP hS hl hok => ?_⟩
  · unfold ix_cmp at h ⊢; split at h <;> first | exact ⟨fun z => hk _ (h.1 z), fun z => hk _ (h.2 z)⟩ | exact h
  · unfold ix_cmp at h; split at h
    · exact lv_icmp_lt hC.1 hC.2.1 hd ht (fun z => h.1 z H locs lsa hP hS hl (ix_ok_tl (ix_ok_tl hok))) (fun z => h.2 z H locs lsa hP hS hl (ix_ok_tl (ix_ok_tl hok)))
    · exact h.elim
theorem ix_s_if_ge {off : Int} {t : Nat} (hd : decode cc pc = .ok (.ifCond .ge off, 3)) (ht : (pc : Int) + off = (t : Int)) : ix_S l cc nL own d rt pc (ix_if (fun x => 0 ≤ x) t (pc + 3)) := by
  refine ⟨fun k k' Q ls st μ hk h => ?_, fun p e R s m args below meth c cells slots Qw E A Q hC ls st μ h H locs lsa hP hS hl hok => ?_⟩
  · unfold ix_if at h ⊢; split at h <;> first | exact ⟨fun z => hk _ (h.1 z), fun z => hk _ (h.2 z)⟩ | exact h
  · unfold ix_if at h; split at h
    · exact lv_if_ge hC.1 hC.2.1 hd ht (fun z => h.1 z H locs lsa hP hS hl (ix_ok_tl hok)) (fun z => h.2 z H locs lsa hP hS hl (ix_ok_tl hok))
    · exact h.elim
theorem ix_s_cmp_ge {off : Int} {t : Nat} (hd : decode cc pc = .ok (.if_icmp .ge off, 3)) (ht : (pc : Int) + off = (t : Int)) : ix_S l cc nL own d rt pc (ix_cmp (fun x y => y ≤ x) t (pc + 3)) := by
  refine ⟨fun k k' Q ls st μ hk h => ?_, fun p e R s m args below meth c cells slots Qw E A Q hC ls st μ h H locs lsa hP hS hl hok => ?_⟩
  · unfold ix_cmp at h ⊢; split at h <;> first | exact ⟨fun z => hk _ (h.1 z), fun z => hk _ (h.2 z)⟩ | exact h
  · unfold ix_cmp at h; split at h
    · exact lv_icmp_ge hC.1 hC.2.1 hd ht (fun z => h.1 z H locs lsa hP hS hl (ix_ok_tl (ix_ok_tl hok))) (fun z => h.2 z H locs lsa hP hS hl (ix_ok_tl (ix_ok_tl hok)))
    · exact h.elim
theorem ix_s_if_gt {off : Int} {t : Nat} (hd : decode cc pc = .ok (.ifCond .gt off, 3)) (ht : (pc : Int) + off = (t : Int)) : ix_S l cc nL own d rt pc (ix_if (fun x => 0 < x) t (pc + 3)) := by
  refine ⟨fun k k' Q ls st μ hk h => ?_, fun p e R s m args below meth c cells slots Qw E A Q hC ls st μ h H locs lsa hP hS hl hok => ?_⟩
  · unfold ix_if at h ⊢; split at h <;> first | exact ⟨fun z => hk _ (h.1 z), fun z => hk _ (h.2 z)⟩ | exact h
  · unfold ix_if at h; split at h
    · exact lv_if_gt hC.1 hC.2.1 hd ht (fun z => h.1 z H locs lsa hP hS hl (ix_ok_tl hok)) (fun z => h.2 z H locs lsa hP hS hl (ix_ok_tl hok))
    · exact h.elim
theorem ix_s_cmp_gt {off : Int} {t : Nat} (hd : decode cc pc = .ok (.if_icmp .gt off, 3)) (ht : (pc : Int) + off = (t : Int)) : ix_S l cc nL own d rt pc (ix_cmp (fun x y => y < x) t (pc + 3)) := by
  refine ⟨fun k k' Q ls st μ hk h => ?_, fun p e R s m args below meth c cells slots Qw E A Q hC ls st μ h H locs lsa hP hS hl hok => ?_⟩
  · unfold ix_cmp at h ⊢; split at h <;> first | exact ⟨fun z => hk _ (h.1 z), fun z => hk _ (h.2 z)⟩ | exact h
  · unfold ix_cmp at h; split at h
    · exact lv_icmp_gt hC.1 hC.2.1 hd ht (fun z => h.1 z H locs lsa hP hS hl (ix_ok_tl (ix_ok_tl hok))) (fun z => h.2 z H locs lsa hP hS hl (ix_ok_tl (ix_ok_tl hok)))
    · exact h.elim
theorem ix_s_if_le {off : Int} {t : Nat} (hd : decode cc pc = .ok (.ifCond .le off, 3)) (ht : (pc : Int) + off = (t : Int)) : ix_S l cc nL own d rt pc (ix_if (fun x => x ≤ 0) t (pc + 3)) := by
  refine ⟨fun k k' Q ls st μ hk h => ?_, fun p e R s m args below meth c cells slots Qw E A Q hC ls st μ h H locs lsa hP hS hl hok => ?_⟩
  · unfold ix_if at h ⊢; split at h <;> first | exact ⟨fun z => hk _ (h.1 z), fun z => hk _ (h.2 z)⟩ | exact h
  · unfold ix_if at h; split at h
    · exact lv_if_le hC.1 hC.2.1 hd ht (fun z => h.1 z H locs lsa hP hS hl (ix_ok_tl hok)) (fun z => h.2 z H locs lsa hP hS hl (ix_ok_tl hok))
    · exact h.elim
theorem ix_s_cmp_le {off : Int} {t : Nat} (hd : decode cc pc = .ok (.if_icmp .le off, 3)) (ht : (pc : Int) + off = (t : Int)) : ix_S l cc nL own d rt pc (ix_cmp (fun x y => x ≤ y) t (pc + 3)) := by
  refine ⟨fun k k' Q ls st μ hk h => ?_, fun p e R s m args below meth c cells slots Qw E A Q hC ls st μ h H locs lsa hP hS hl hok => ?_⟩
  · unfold ix_cmp at h ⊢; split at h <;> first | exact ⟨fun z => hk _ (h.1 z), fun z => hk _ (h.2 z)⟩ | exact h
  · unfold ix_cmp at h; split at h
    · exact lv_icmp_le hC.1 hC.2.1 hd ht (fun z => h.1 z H locs lsa hP hS hl (ix_ok_tl (ix_ok_tl hok))) (fun z => h.2 z H locs lsa hP hS hl (ix_ok_tl (ix_ok_tl hok)))
    · exact h.elim
theorem ix_s_if_ne {off : Int} {t : Nat} (hd : decode cc pc = .ok (.ifCond .ne off, 3)) (ht : (pc : Int) + off = (t : Int)) : ix_S l cc nL own d rt pc (ix_if (fun x => x = 0) (pc + 3) t) := by
  refine ⟨fun k k' Q ls st μ hk h => ?_, fun p e R s m args below meth c cells slots Qw E A Q hC ls st μ h H locs lsa hP hS hl hok => ?_⟩
  · unfold ix_if at h ⊢; split at h <;> first | exact ⟨fun z => hk _ (h.1 z), fun z => hk _ (h.2 z)⟩ | exact h
  · unfold ix_if at h; split at h
    · exact lv_if_ne hC.1 hC.2.1 hd ht (fun z => h.2 z H locs lsa hP hS hl (ix_ok_tl hok)) (fun z => h.1 z H locs lsa hP hS hl (ix_ok_tl hok))
    · exact h.elim
theorem ix_s_cmp_ne {off : Int} {t : Nat} (hd : decode cc pc = .ok (.if_icmp .ne off, 3)) (ht : (pc : Int) + off = (t : Int)) : ix_S l cc nL own d rt pc (ix_cmp (fun x y => x = y) (pc + 3) t) := by
  refine ⟨fun k k' Q ls st μ hk h => ?_, fun p e R s m args below meth c cells slots Qw E A Q hC ls st μ h H locs lsa hP hS hl hok => ?_⟩
  · unfold ix_cmp at h ⊢; split at h <;> first | exact ⟨fun z => hk _ (h.1 z), fun z => hk _ (h.2 z)⟩ | exact h
  · unfold ix_cmp at h; split at h
    · exact lv_icmp_ne hC.1 hC.2.1 hd ht (fun z => h.2 z H locs lsa hP hS hl (ix_ok_tl (ix_ok_tl hok))) (fun z => h.1 z H locs lsa hP hS hl (ix_ok_tl (ix_ok_tl hok)))
    · exact h.elim
theorem ix_sw_mono {x : Int32} {dt : Nat} {k k' : Nat → Prop} (hk : ∀ t, k t → k' t) : ∀ ps : List (Int32 × Nat), ix_sw x ps dt k → ix_sw x ps dt k'
  | [], h => hk _ h
  | (v, t) :: r, h => ⟨fun e => hk _ (h.1 e), fun e => ix_sw_mono hk r (h.2 e)⟩
/-- where a switch goes -/
def ix_tgt (x : Int32) (ps : List (Int32 × Nat)) (dt : Nat) : Nat := match ps with
  | [] => dt
  | (v, t) :: r => if x = v then t else ix_tgt x r dt
theorem ix_sw_tgt {x : Int32} {dt : Nat} {k : Nat → Prop} : ∀ ps : List (Int32 × Nat), ix_sw x ps dt k → k (ix_tgt x ps dt)
  | [], h => h
  | (v, t) :: r, h => by
    unfold ix_tgt
    split
    · rename_i e; exact h.1 e
    · rename_i e; exact ix_sw_tgt r (h.2 e)
theorem ix_s_table {dflt lo hi : Int} {offs : Array Int} {len : Nat} {ps : List (Int32 × Nat)} {dt : Nat} (hd : decode cc pc = .ok (.tableswitch dflt lo hi offs, len)) (hdt : (pc : Int) + dflt = (dt : Int))
    (hout : ∀ x : Int32, (x.toInt < lo ∨ hi < x.toInt) → ix_tgt x ps dt = dt) (hin : ∀ i : Nat, i < (hi - lo + 1).toNat → ∃ off, offs[i]? = some off ∧ (pc : Int) + off = (ix_tgt (Int32.ofInt (lo + i)) ps dt : Int)) : ix_S l cc nL own d rt pc (ix_switch ps dt) := by
  refine ⟨fun k k' Q ls st μ hk h => ?_, fun p e R s m args below meth c cells slots Qw E A Q hC ls st μ h H locs lsa hP hS hl hok => ?_⟩
  · unfold ix_switch at h ⊢; split at h <;> first | exact ix_sw_mono (fun t z => hk _ z) _ h | exact h
  · unfold ix_switch at h; split at h
    · rename_i x st'
      have h2 := ix_sw_tgt ps h
      by_cases ho : x.toInt < lo ∨ hi < x.toInt
      · rw [hout x ho] at h2
        exact lv_tableOut hC.1 hC.2.1 hd ho hdt (h2 H locs lsa hP hS hl (ix_ok_tl hok))
      · have h1 : ¬ x.toInt < lo := fun z => ho (Or.inl z)
        have h3 : ¬ hi < x.toInt := fun z => ho (Or.inr z)
        obtain ⟨off, e1, e2⟩ := hin (x.toInt - lo).toNat (by omega)
        have e3 : Int32.ofInt (lo + ((x.toInt - lo).toNat : Int)) = x := by
          rw [show lo + ((x.toInt - lo).toNat : Int) = x.toInt by omega]
          simp
        rw [e3] at e2
        exact lv_tableIn hC.1 hC.2.1 hd h1 h3 e1 e2 (h2 H locs lsa hP hS hl (ix_ok_tl hok))
    · exact h.elim
theorem ix_s_lookup {dflt : Int} {qs : Array (Int × Int)} {len : Nat} {ps : List (Int32 × Nat)} {dt : Nat} (hd : decode cc pc = .ok (.lookupswitch dflt qs, len)) (hp : (qs.toList.zip (qs.toList.drop 1)).all (fun (a, next) => a.1 < next.1) = true)
    (ho : ∀ x : Int32, (pc : Int) + Op.lookupswitch.offset qs.toList dflt x.toInt = (ix_tgt x ps dt : Int)) : ix_S l cc nL own d rt pc (ix_switch ps dt) := by
  refine ⟨fun k k' Q ls st μ hk h => ?_, fun p e R s m args below meth c cells slots Qw E A Q hC ls st μ h H locs lsa hP hS hl hok => ?_⟩
  · unfold ix_switch at h ⊢; split at h <;> first | exact ix_sw_mono (fun t z => hk _ z) _ h | exact h
  · unfold ix_switch at h; split at h
    · rename_i x st'
      exact lv_lookup hC.1 hC.2.1 hd hp rfl (ho x) (ix_sw_tgt ps h H locs lsa hP hS hl (ix_ok_tl hok))
    · exact h.elim
theorem ix_s_iret (hd : decode cc pc = .ok (.ireturn, 1)) (hr : rt = some .int) : ix_S l cc nL own d rt pc ix_iret := by
  refine ⟨fun k k' Q ls st μ hk h => h, fun p e R s m args below meth c cells slots Qw E A Q hC ls st μ h H locs lsa hP hS hl hok => ?_⟩
  unfold ix_iret at h; split at h
  · exact hC.2.2.2.2.2.2.2.2.2.2.2 (some (.inl _)) μ H locs lsa pc h (fun v e => by cases e; exact ix_oki _) ⟨hd, _, hr, rfl⟩ hP hS
  · exact h.elim
theorem ix_s_zret (hd : decode cc pc = .ok (.ireturn, 1)) (hr : rt = some .boolean) : ix_S l cc nL own d rt pc ix_zret := by
  refine ⟨fun k k' Q ls st μ hk h => h, fun p e R s m args below meth c cells slots Qw E A Q hC ls st μ h H locs lsa hP hS hl hok => ?_⟩
  unfold ix_zret at h; split at h
  · obtain ⟨hz, h⟩ := h
    exact hC.2.2.2.2.2.2.2.2.2.2.2 (some (.inl _)) μ H locs lsa pc h (fun v e => by cases e; exact ix_oki _) ⟨hd, _, hr, by rcases hz with rfl | rfl <;> rfl⟩ hP hS
  · exact h.elim
theorem ix_s_vret (hd : decode cc pc = .ok (.return_, 1)) (hr : rt = none) : ix_S l cc nL own d rt pc ix_vret := by
  refine ⟨fun k k' Q ls st μ hk h => h, fun p e R s m args below meth c cells slots Qw E A Q hC ls st μ h H locs lsa hP hS hl hok => ?_⟩
  unfold ix_vret at h; split at h
  · exact hC.2.2.2.2.2.2.2.2.2.2.2 none μ H locs lsa pc h (fun v e => by cases e) ⟨hd, hr⟩ hP hS
  · exact h.elim
theorem ix_s_aret (hd : decode cc pc = .ok (.areturn, 1)) {n : String} (hr : rt = some (.object n)) : ix_S l cc nL own d rt pc ix_aret := by
  refine ⟨fun k k' Q ls st μ hk h => h, fun p e R s m args below meth c cells slots Qw E A Q hC ls st μ h H locs lsa hP hS hl hok => ?_⟩
  unfold ix_aret at h; split at h
  · exact hC.2.2.2.2.2.2.2.2.2.2.2 (some (.inr (.inr _))) μ H locs lsa pc h (fun v e => by cases e; exact ix_ok_hd hok) ⟨hd, _, hr⟩ hP hS
  · exact h.elim
end IXS
