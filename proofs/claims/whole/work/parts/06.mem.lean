/-! ===== memory operations ===== -/
def ix_geti (t j n : Nat) : ix_Op := fun k _ ls st μ => match st with
  | .inr (.inr (t', a)) :: st' => t' = t ∧ k (n, ls, .inl (μ a j) :: st', μ)
  | _ => False
def ix_getr (t t2 : Nat) (g : Nat → Nat) (n : Nat) : ix_Op := fun k _ ls st μ => match st with
  | .inr (.inr (t', a)) :: st' => t' = t ∧ k (n, ls, .inr (.inr (t2, g a)) :: st', μ)
  | _ => False
def ix_puti (t j n : Nat) : ix_Op := fun k _ ls st μ => match st with
  | .inl v :: .inr (.inr (t', a)) :: st' => t' = t ∧ k (n, ls, st', ix_up μ a j v)
  | _ => False
def ix_putz (t j n : Nat) : ix_Op := fun k _ ls st μ => match st with
  | .inl v :: .inr (.inr (t', a)) :: st' => t' = t ∧ (v = 0 ∨ v = 1) ∧ k (n, ls, st', ix_up μ a j v)
  | _ => False
/-- a String field: by the String's number -/
def ix_puts (t j n : Nat) : ix_Op := fun k _ ls st μ => match st with
  | .inr (.inr (t2, x)) :: .inr (.inr (t', a)) :: st' => t' = t ∧ t2 = 24 ∧ k (n, ls, st', ix_up μ a j (nI x))
  | _ => False
def ix_gets (t j n : Nat) : ix_Op := fun k _ ls st μ => match st with
  | .inr (.inr (t', a)) :: st' => t' = t ∧ (μ a j).toNatClampNeg < 3 ∧ k (n, ls, .inr (.inr (24, (μ a j).toNatClampNeg)) :: st', μ)
  | _ => False
def ix_iald (n : Nat) : ix_Op := fun k _ ls st μ => match st with
  | .inl i :: .inr (.inr (t, a)) :: st' => t = 20 ∧ vp_in i (ix_len a) ∧ k (n, ls, .inl (μ a i.toNatClampNeg) :: st', μ)
  | _ => False
def ix_iast (n : Nat) : ix_Op := fun k _ ls st μ => match st with
  | .inl v :: .inl i :: .inr (.inr (t, a)) :: st' => t = 20 ∧ vp_in i (ix_len a) ∧ k (n, ls, st', ix_up μ a i.toNatClampNeg v)
  | _ => False
def ix_alen (n : Nat) : ix_Op := fun k _ ls st μ => match st with
  | .inr (.inr (t, a)) :: st' => t = 20 ∧ k (n, ls, .inl (Int32.ofNat (ix_len a)) :: st', μ)
  | _ => False
/-- an array of references: cell a0, its cells g i of kind t2 -/
def ix_aald (t a0 N t2 : Nat) (g : Nat → Nat) (n : Nat) : ix_Op := fun k _ ls st μ => match st with
  | .inl i :: .inr (.inr (t', a)) :: st' => t' = t ∧ a = a0 ∧ vp_in i N ∧ k (n, ls, .inr (.inr (t2, g i.toNatClampNeg)) :: st', μ)
  | _ => False
def ix_cs (st : List ix_V) : Nat := match st with
  | [] => 0
  | .inr (.inl _) :: r => 2 + ix_cs r
  | _ :: r => 1 + ix_cs r
def ix_math2 (f : Int32 → Int32 → Int32) (n : Nat) : ix_Op := fun k _ ls st μ => match st with
  | .inl y :: .inl x :: st' => ix_cs st' ≤ 8 ∧ k (n, ls, .inl (f x y) :: st', μ)
  | _ => False
def ix_math1 (f : Int32 → Int32) (n : Nat) : ix_Op := fun k _ ls st μ => match st with
  | .inl x :: st' => ix_cs st' ≤ 8 ∧ k (n, ls, .inl (f x) :: st', μ)
  | _ => False
/-- row a is b's n places from sp on, from dp on -/
def ix_cpy (μ : ix_M) (b a sp dp n : Nat) : ix_M := fun x j => if x = a then va_cpy (μ b) (μ a) sp dp n j else μ x j
def ix_acopy (n0 : Nat) : ix_Op := fun k _ ls st μ => match st with
  | .inl n :: .inl dp :: .inr (.inr (t, a)) :: .inl sp :: .inr (.inr (t2, b)) :: st' => t = 20 ∧ t2 = 20 ∧ ix_cs st' ≤ 8 ∧ (¬ sp < 0 ∧ ¬ dp < 0 ∧ ¬ n < 0) ∧ sp.toNatClampNeg + n.toNatClampNeg ≤ ix_len b ∧ dp.toNatClampNeg + n.toNatClampNeg ≤ ix_len a ∧ k (n0, ls, st', ix_cpy μ b a sp.toNatClampNeg dp.toNatClampNeg n.toNatClampNeg)
  | _ => False
section IXM
variable {l : Launch} {cc : ByteArray} {nL : Nat} {own : String} {d : Nat} {rt : Option FieldType} {pc : Nat}
theorem ix_ok_at {t a : Nat} (h : ix_ok (.inr (.inr (t, a)))) (h1 : ¬ t = 24) (h2 : ¬ t = 25 ∧ ¬ t = 26) : a < ix_N ∧ ix_tag a = t := by
  have h' : (if t = 24 then a < 3 else if t = 25 then True else if t = 26 then a < 3 else a < ix_N ∧ ix_tag a = t) := h
  rw [if_neg h1, if_neg h2.1, if_neg h2.2] at h'
  exact h'
theorem ix_cv_at {E : ix_E} {t a : Nat} (h1 : ¬ t = 24) (h2 : ¬ t = 25 ∧ ¬ t = 26) : ix_cv E (.inr (.inr (t, a))) = .ref (E.2.1 a) := by
  unfold ix_cv
  simp only [h1, h2.1, h2.2, if_false]
theorem ix_okr {t a : Nat} (h : a < ix_N ∧ ix_tag a = t) : ix_ok (.inr (.inr (t, a))) := by
  show (if t = 24 then a < 3 else if t = 25 then True else if t = 26 then a < 3 else a < ix_N ∧ ix_tag a = t)
  have h24 : ∀ x, x < ix_N → ¬ ix_tag x = 24 ∧ ¬ ix_tag x = 25 ∧ ¬ ix_tag x = 26 := by decide +kernel
  have := h24 a h.1
  rw [h.2] at this
  rw [if_neg this.1, if_neg this.2.1, if_neg this.2.2]
  exact h
theorem ix_cs_cat {E : ix_E} : ∀ st : List ix_V, ((st.map (ix_cv E)).map fun v => v.category).sum = ix_cs st
  | [] => rfl
  | .inl x :: r => by simp only [List.map_cons, List.sum_cons, ix_cs_cat r, ix_cs]; rfl
  | .inr (.inl x) :: r => by simp only [List.map_cons, List.sum_cons, ix_cs_cat r, ix_cs]; rfl
  | .inr (.inr (t, a)) :: r => by simp only [List.map_cons, List.sum_cons, ix_cs_cat r, ix_cs]; rfl
theorem ix_s_geti {C : String} {T : u_T} {N t j index : Nat} {ref : String} (hin : ∀ w ∈ u_ws C T N, w ∈ ix_TB) (hc : vwCl[t]? = some (C, T, N)) (ht : t < 20) (hj : j < N) (hw : Cond.fieldLink own index ref (T j).2.1 (T j).2.2.1 ∈ ix_TB) (href : (T j).1 = ref) (hsh : ∀ a, a < ix_N → ix_tag a = t → (ix_sh a).2[j]? = some none) (hd : decode cc pc = .ok (.getfield index, 3)) : ix_S l cc nL own d rt pc (ix_geti t j (pc + 3)) := by
  refine ⟨fun k k' Q ls st μ hk h => ?_, fun p e R s m args below meth c cells slots Qw E A Q hC ls st μ h H locs lsa hP hS hl hok => ?_⟩
  · unfold ix_geti at h ⊢; split at h <;> first | exact ⟨h.1, hk _ h.2⟩ | exact h
  · unfold ix_geti at h; split at h
    · rename_i t' a st'
      obtain ⟨rfl, h⟩ := h
      obtain ⟨ha, htg⟩ := ix_ok_at (ix_ok_hd hok) (by omega) (by omega)
      show W _ _ _ _ _ _ _ _ _ _ _ _ _ _ _ (F0 m pc lsa (ix_cv E _ :: _))
      rw [ix_cv_at (by omega) (by omega)]
      refine va_get (D := E.1) (cl := vwCl) (own := own) (ref := ref) hC.1 hC.2.1 hC.2.2.2.2.1 hin hC.2.2.2.1 hC.2.2.2.2.2.1.1 hP a (by rw [ix_w_at E _ ha, ix_ce_obj htg ht]) hc j hj (hC.2.2.2.2.1 _ hw) (fun x hx => by rw [← href]; exact hx) (v := .int (μ a j)) ?_ hd (h H locs lsa hP hS hl (ix_ok_cons (ix_oki _) (ix_ok_tl hok)))
      rw [List.getElem?_mapIdx, hsh a ha htg]
      rfl
    · exact h.elim
theorem ix_s_getr {C : String} {T : u_T} {N t t2 j index : Nat} {g : Nat → Nat} {ref : String} (hin : ∀ w ∈ u_ws C T N, w ∈ ix_TB) (hc : vwCl[t]? = some (C, T, N)) (ht : t < 20) (hj : j < N) (hw : Cond.fieldLink own index ref (T j).2.1 (T j).2.2.1 ∈ ix_TB) (href : (T j).1 = ref) (hsh : ∀ a, a < ix_N → ix_tag a = t → (ix_sh a).2[j]? = some (some (g a)) ∧ g a < ix_N ∧ ix_tag (g a) = t2) (hd : decode cc pc = .ok (.getfield index, 3)) : ix_S l cc nL own d rt pc (ix_getr t t2 g (pc + 3)) := by
  refine ⟨fun k k' Q ls st μ hk h => ?_, fun p e R s m args below meth c cells slots Qw E A Q hC ls st μ h H locs lsa hP hS hl hok => ?_⟩
  · unfold ix_getr at h ⊢; split at h <;> first | exact ⟨h.1, hk _ h.2⟩ | exact h
  · unfold ix_getr at h; split at h
    · rename_i t' a st'
      obtain ⟨rfl, h⟩ := h
      obtain ⟨ha, htg⟩ := ix_ok_at (ix_ok_hd hok) (by omega) (by omega)
      obtain ⟨g1, g2, g3⟩ := hsh a ha htg
      have hok2 : ix_ok (.inr (.inr (t2, g a))) := ix_okr ⟨g2, g3⟩
      have h24 : ∀ x, x < ix_N → ¬ ix_tag x = 24 ∧ ¬ ix_tag x = 25 ∧ ¬ ix_tag x = 26 := by decide +kernel
      have h5 := h24 _ g2
      rw [g3] at h5
      show W _ _ _ _ _ _ _ _ _ _ _ _ _ _ _ (F0 m pc lsa (ix_cv E _ :: _))
      rw [ix_cv_at (by omega) (by omega)]
      have h6 := h H locs lsa hP hS hl (ix_ok_cons hok2 (ix_ok_tl hok))
      have h7 : W p l e R s m args below meth c H locs cells slots Qw (F0 m (pc + 3) lsa (ix_cv E (.inr (.inr (t2, g a))) :: st'.map (ix_cv E))) := h6
      rw [ix_cv_at h5.1 h5.2] at h7
      refine va_get (D := E.1) (cl := vwCl) (own := own) (ref := ref) hC.1 hC.2.1 hC.2.2.2.2.1 hin hC.2.2.2.1 hC.2.2.2.2.2.1.1 hP a (by rw [ix_w_at E _ ha, ix_ce_obj htg ht]) hc j hj (hC.2.2.2.2.1 _ hw) (fun x hx => by rw [← href]; exact hx) (v := .ref (E.2.1 (g a))) ?_ hd h7
      rw [List.getElem?_mapIdx, g1]
      show some (ix_fv E μ a j (some (g a))) = _
      unfold ix_fv
      have : ¬ g a = 1000 := by have := g2; unfold ix_N at this; omega
      simp only [this, if_false]
    · exact h.elim
theorem ix_ce_put {E : ix_E} {μ : ix_M} {a j t : Nat} {v : Int32} (htg : ix_tag a = t) (ht : t < 20) (hsh : (ix_sh a).2[j]? = some none) : ix_ce E (ix_up μ a j v) a = .inr (t, ((ix_sh a).2.mapIdx (fun j f => ix_fv E μ a j f)).set j (.int v)) := by
  rw [ix_ce_obj htg ht]
  congr 2
  apply List.ext_getElem?
  intro i
  rw [List.getElem?_mapIdx]
  by_cases hi : i = j
  · subst hi
    have hlt : i < (ix_sh a).2.length := (List.getElem?_eq_some_iff.mp hsh).1
    rw [List.getElem?_set_self (by rw [List.length_mapIdx]; exact hlt), hsh]
    show some (ix_fv _ _ _ _ none) = _
    simp [ix_fv, ix_up]
  · rw [List.getElem?_set_ne (Ne.symm hi), List.getElem?_mapIdx]
    cases (ix_sh a).2[i]? with
    | none => rfl
    | some f => cases f with
      | none => simp [ix_fv, ix_up, hi]
      | some r => simp [ix_fv, ix_up, hi]
theorem ix_put_lem {C : String} {T : u_T} {N t j index : Nat} {ref : String} {ty0 : Nat → FieldType} {ty : FieldType} (hin : ∀ w ∈ u_ws C T N, w ∈ ix_TB) (hty : ∀ k, k < N → parseFieldDescriptor (T k).2.2.1 = some (ty0 k)) (hnm : ∀ a, a < N → ∀ b, b < N → a ≠ b → (T a).2.1 ≠ (T b).2.1) (hc : vwCl[t]? = some (C, T, N)) (ht : t < 20) (hj : j < N) (hw : Cond.fieldLink own index ref (T j).2.1 (T j).2.2.1 ∈ ix_TB) (href : (T j).1 = ref) (hfin : (T j).2.2.2 = false) (hd0 : parseFieldDescriptor (T j).2.2.1 = some ty)
    {p : Program} {e : Env} {R : Room} {s : State} {m : MethodId} {args : Array Value} {below : List Frame} {meth : Method} {c : Code} {cells slots : Nat} {Qw : State → Prop} {E : ix_E} {A : Nat → Prop} {Q : ix_R → Prop} (hC : ix_C p l e R s m args below meth c cells slots Qw E nL A cc own d rt Q) {μ μ' : ix_M} {H : Heap} {locs : List Loc} {lsa : Array Slot} {rest : List Value} {a : Nat} {v : Value} (ha : a < ix_N) (htg : ix_tag a = t) (hn : narrow ty v = v) (hf : fits ty v = true) (hP : va_P E.1 vwCl (ix_w E μ) H) (hS : va_S A s.heap H locs)
    (hlen : (ix_sh a).2.length = N) (h1 : ∀ x, x ≠ a → μ' x = μ x) (h2 : ix_ce E μ' a = .inr (t, ((ix_sh a).2.mapIdx (fun j f => ix_fv E μ a j f)).set j v)) (hd : decode cc pc = .ok (.putfield index, 3))
    (kk : ∀ H1 locs1, va_P E.1 vwCl (ix_w E μ') H1 → va_S A s.heap H1 locs1 → W p l e R s m args below meth c H1 locs1 cells slots Qw (F0 m (pc + 3) lsa rest)) : W p l e R s m args below meth c H locs cells slots Qw (F0 m pc lsa (v :: .ref (E.2.1 a) :: rest)) := by
  have hset := ix_w_set (E := E) (μ := μ) (μ' := μ') (k := a) ha h1 h2
  refine va_put (D := E.1) (cl := vwCl) (own := own) (ref := ref) hC.1 hC.2.1 hC.2.2.2.2.1 hin ty0 hty hnm hC.2.2.2.1 hC.2.2.2.2.2.1.1 hP (ix_D hC.2.2.2.2.2.2.2.1 hC.2.2.2.2.2.2.2.2.1) hS a (by rw [ix_w_at E _ ha, ix_ce_obj htg ht]) hc j hj (hC.2.2.2.2.1 _ hw) (fun x hx => by rw [← href]; exact hx) hfin hd0 hn hf (by rw [List.length_mapIdx, hlen]; exact hj) hd (fun H1 locs1 q1 q2 q3 => ?_)
  rw [hset] at q1
  exact kk H1 locs1 q1 q3
theorem ix_s_puti {C : String} {T : u_T} {N t j index : Nat} {ref : String} {ty0 : Nat → FieldType} (hin : ∀ w ∈ u_ws C T N, w ∈ ix_TB) (hty : ∀ k, k < N → parseFieldDescriptor (T k).2.2.1 = some (ty0 k)) (hnm : ∀ a, a < N → ∀ b, b < N → a ≠ b → (T a).2.1 ≠ (T b).2.1) (hc : vwCl[t]? = some (C, T, N)) (ht : t < 20) (hj : j < N) (hw : Cond.fieldLink own index ref (T j).2.1 (T j).2.2.1 ∈ ix_TB) (href : (T j).1 = ref) (hfin : (T j).2.2.2 = false) (hd0 : parseFieldDescriptor (T j).2.2.1 = some .int) (hsh : ∀ a, a < ix_N → ix_tag a = t → (ix_sh a).2[j]? = some none ∧ (ix_sh a).2.length = N) (hd : decode cc pc = .ok (.putfield index, 3)) : ix_S l cc nL own d rt pc (ix_puti t j (pc + 3)) := by
  refine ⟨fun k k' Q ls st μ hk h => ?_, fun p e R s m args below meth c cells slots Qw E A Q hC ls st μ h H locs lsa hP hS hl hok => ?_⟩
  · unfold ix_puti at h ⊢; split at h <;> first | exact ⟨h.1, hk _ h.2⟩ | exact h
  · unfold ix_puti at h; split at h
    · rename_i v t' a st'
      obtain ⟨rfl, h⟩ := h
      obtain ⟨ha, htg⟩ := ix_ok_at (ix_ok_hd (ix_ok_tl hok)) (by omega) (by omega)
      show W _ _ _ _ _ _ _ _ _ _ _ _ _ _ _ (F0 m pc lsa (ix_cv E _ :: ix_cv E _ :: _))
      rw [ix_cv_at (t := t') (by omega) (by omega)]
      exact ix_put_lem hin hty hnm hc ht hj hw href hfin hd0 hC ha htg (v := .int v) rfl rfl hP hS (hsh a ha htg).2 (fun x hx => ix_up_ne hx) (ix_ce_put htg ht (hsh a ha htg).1) hd (fun H1 locs1 q1 q3 => h H1 locs1 lsa q1 q3 hl (ix_ok_tl (ix_ok_tl hok)))
    · exact h.elim
theorem ix_s_putz {C : String} {T : u_T} {N t j index : Nat} {ref : String} {ty0 : Nat → FieldType} (hin : ∀ w ∈ u_ws C T N, w ∈ ix_TB) (hty : ∀ k, k < N → parseFieldDescriptor (T k).2.2.1 = some (ty0 k)) (hnm : ∀ a, a < N → ∀ b, b < N → a ≠ b → (T a).2.1 ≠ (T b).2.1) (hc : vwCl[t]? = some (C, T, N)) (ht : t < 20) (hj : j < N) (hw : Cond.fieldLink own index ref (T j).2.1 (T j).2.2.1 ∈ ix_TB) (href : (T j).1 = ref) (hfin : (T j).2.2.2 = false) (hd0 : parseFieldDescriptor (T j).2.2.1 = some .boolean) (hsh : ∀ a, a < ix_N → ix_tag a = t → (ix_sh a).2[j]? = some none ∧ (ix_sh a).2.length = N) (hd : decode cc pc = .ok (.putfield index, 3)) : ix_S l cc nL own d rt pc (ix_putz t j (pc + 3)) := by
  refine ⟨fun k k' Q ls st μ hk h => ?_, fun p e R s m args below meth c cells slots Qw E A Q hC ls st μ h H locs lsa hP hS hl hok => ?_⟩
  · unfold ix_putz at h ⊢; split at h <;> first | exact ⟨h.1, h.2.1, hk _ h.2.2⟩ | exact h
  · unfold ix_putz at h; split at h
    · rename_i v t' a st'
      obtain ⟨rfl, hz, h⟩ := h
      obtain ⟨ha, htg⟩ := ix_ok_at (ix_ok_hd (ix_ok_tl hok)) (by omega) (by omega)
      show W _ _ _ _ _ _ _ _ _ _ _ _ _ _ _ (F0 m pc lsa (ix_cv E _ :: ix_cv E _ :: _))
      rw [ix_cv_at (t := t') (by omega) (by omega)]
      exact ix_put_lem hin hty hnm hc ht hj hw href hfin hd0 hC ha htg (v := .int v) (by rcases hz with rfl | rfl <;> rfl) (by rcases hz with rfl | rfl <;> rfl) hP hS (hsh a ha htg).2 (fun x hx => ix_up_ne hx) (ix_ce_put htg ht (hsh a ha htg).1) hd (fun H1 locs1 q1 q3 => h H1 locs1 lsa q1 q3 hl (ix_ok_tl (ix_ok_tl hok)))
    · exact h.elim
theorem ix_s_iald (hd : decode cc pc = .ok (.iaload, 1)) : ix_S l cc nL own d rt pc (ix_iald (pc + 1)) := by
  refine ⟨fun k k' Q ls st μ hk h => ?_, fun p e R s m args below meth c cells slots Qw E A Q hC ls st μ h H locs lsa hP hS hl hok => ?_⟩
  · unfold ix_iald at h ⊢; split at h <;> first | exact ⟨h.1, h.2.1, hk _ h.2.2⟩ | exact h
  · unfold ix_iald at h; split at h
    · rename_i i t a st'
      obtain ⟨rfl, hi, h⟩ := h
      obtain ⟨ha, htg⟩ := ix_ok_at (ix_ok_hd (ix_ok_tl hok)) (by decide) (by decide)
      show W _ _ _ _ _ _ _ _ _ _ _ _ _ _ _ (F0 m pc lsa (ix_cv E _ :: ix_cv E _ :: _))
      rw [ix_cv_at (t := 20) (by decide) (by decide)]
      exact va_iald (D := E.1) (cl := vwCl) hC.1 hC.2.1 hC.2.2.2.2.2.1.1 hP a 0 (by rw [ix_w_at E _ ha, ix_ce_arr htg]) rfl hi hd (h H locs lsa hP hS hl (ix_ok_cons (ix_oki _) (ix_ok_tl (ix_ok_tl hok))))
    · exact h.elim
theorem ix_s_iast (hd : decode cc pc = .ok (.iastore, 1)) : ix_S l cc nL own d rt pc (ix_iast (pc + 1)) := by
  refine ⟨fun k k' Q ls st μ hk h => ?_, fun p e R s m args below meth c cells slots Qw E A Q hC ls st μ h H locs lsa hP hS hl hok => ?_⟩
  · unfold ix_iast at h ⊢; split at h <;> first | exact ⟨h.1, h.2.1, hk _ h.2.2⟩ | exact h
  · unfold ix_iast at h; split at h
    · rename_i v i t a st'
      obtain ⟨rfl, hi, h⟩ := h
      obtain ⟨ha, htg⟩ := ix_ok_at (ix_ok_hd (ix_ok_tl (ix_ok_tl hok))) (by decide) (by decide)
      show W _ _ _ _ _ _ _ _ _ _ _ _ _ _ _ (F0 m pc lsa (ix_cv E _ :: ix_cv E _ :: ix_cv E _ :: _))
      rw [ix_cv_at (t := 20) (by decide) (by decide)]
      refine va_iast (D := E.1) (cl := vwCl) hC.1 hC.2.1 hC.2.2.2.2.2.1.1 hP (ix_D hC.2.2.2.2.2.2.2.1 hC.2.2.2.2.2.2.2.2.1) hS a 0 (by rw [ix_w_at E _ ha, ix_ce_arr htg]) rfl hi hd (fun H1 locs1 q1 q2 q3 => ?_)
      rw [ix_w_set (μ' := ix_up μ a i.toNatClampNeg v) ha (fun x hx => ix_up_ne hx) (by
        rw [ix_ce_arr htg]
        congr 3
        congr 1
        funext j
        simp [ix_up, upd])] at q1
      exact h H1 locs1 lsa q1 q3 hl (ix_ok_tl (ix_ok_tl (ix_ok_tl hok)))
    · exact h.elim
theorem ix_s_alen (hd : decode cc pc = .ok (.arraylength, 1)) : ix_S l cc nL own d rt pc (ix_alen (pc + 1)) := by
  refine ⟨fun k k' Q ls st μ hk h => ?_, fun p e R s m args below meth c cells slots Qw E A Q hC ls st μ h H locs lsa hP hS hl hok => ?_⟩
  · unfold ix_alen at h ⊢; split at h <;> first | exact ⟨h.1, hk _ h.2⟩ | exact h
  · unfold ix_alen at h; split at h
    · rename_i t a st'
      obtain ⟨rfl, h⟩ := h
      obtain ⟨ha, htg⟩ := ix_ok_at (ix_ok_hd hok) (by decide) (by decide)
      show W _ _ _ _ _ _ _ _ _ _ _ _ _ _ _ (F0 m pc lsa (ix_cv E _ :: _))
      rw [ix_cv_at (t := 20) (by decide) (by decide)]
      exact va_alen (D := E.1) (cl := vwCl) (x := (ix_len a, .inl (μ a))) (v := Int32.ofNat (ix_len a)) hC.1 hC.2.1 hC.2.2.2.2.2.1.1 hP a 0 (by rw [ix_w_at E _ ha, ix_ce_arr htg]) rfl rfl hd (h H locs lsa hP hS hl (ix_ok_cons (ix_oki _) (ix_ok_tl hok)))
    · exact h.elim
theorem ix_s_aald {t a0 N t2 : Nat} {g : Nat → Nat} {C : String} {E0 : ix_E → List (ClassId × FieldType)} (ht : 20 < t ∧ t < 24) (hlen : (ix_sh a0).2.length = N) (hC0 : ∀ E : ix_E, (ix_tys E)[t - 20]? = some (E.2.2.2.2.1 (t - 20), .object C)) (hv : ∀ i, i < N → (ix_sh a0).2[i]? = some (some (g i)) ∧ g i < ix_N ∧ ix_tag (g i) = t2) (hd : decode cc pc = .ok (.aaload, 1)) : ix_S l cc nL own d rt pc (ix_aald t a0 N t2 g (pc + 1)) := by
  refine ⟨fun k k' Q ls st μ hk h => ?_, fun p e R s m args below meth c cells slots Qw E A Q hC ls st μ h H locs lsa hP hS hl hok => ?_⟩
  · unfold ix_aald at h ⊢; split at h <;> first | exact ⟨h.1, h.2.1, h.2.2.1, hk _ h.2.2.2⟩ | exact h
  · unfold ix_aald at h; split at h
    · rename_i i t' a st'
      obtain ⟨rfl, rfl, hi, h⟩ := h
      obtain ⟨ha, htg⟩ := ix_ok_at (ix_ok_hd (ix_ok_tl hok)) (by omega) (by omega)
      have hlt : i.toNatClampNeg < N := Nat.not_le.mp fun q => hi (Or.inr q)
      obtain ⟨g1, g2, g3⟩ := hv _ hlt
      have h24 : ∀ x, x < ix_N → ¬ ix_tag x = 24 ∧ ¬ ix_tag x = 25 ∧ ¬ ix_tag x = 26 := by decide +kernel
      have h5 := h24 _ g2
      rw [g3] at h5
      have h6 := h H locs lsa hP hS hl (ix_ok_cons (ix_okr ⟨g2, g3⟩) (ix_ok_tl (ix_ok_tl hok)))
      have h7 : W p l e R s m args below meth c H locs cells slots Qw (F0 m (pc + 1) lsa (ix_cv E (.inr (.inr (t2, g i.toNatClampNeg))) :: st'.map (ix_cv E))) := h6
      rw [ix_cv_at h5.1 h5.2] at h7
      show W _ _ _ _ _ _ _ _ _ _ _ _ _ _ _ (F0 m pc lsa (ix_cv E _ :: ix_cv E _ :: _))
      rw [ix_cv_at (t := t') (by omega) (by omega)]
      refine va_aldq (D := E.1) (cl := vwCl) (C := C) hC.1 hC.2.1 hC.2.2.2.2.2.1.1 hP a (t' - 20) (by rw [ix_w_at E _ ha, ix_ce_ref htg (by omega)]) (hC0 E) (n := (ix_sh a).2.length) (by rw [hlen]; exact hi) hd ?_
      have e1 : ix_rv E ((ix_sh a).2.getD i.toNatClampNeg none) = E.2.1 (g i.toNatClampNeg) := by
        rw [List.getD_eq_getElem?_getD, g1]
        show ix_rv E (some (g i.toNatClampNeg)) = _
        unfold ix_rv
        have : ¬ 1000 ≤ g i.toNatClampNeg := by have := g2; unfold ix_N at this; omega
        simp only [this, if_false]
      show W _ _ _ _ _ _ _ _ _ _ _ _ _ _ _ (F0 m (pc + 1) lsa (va_rf (some (ix_rv E ((ix_sh a).2.getD i.toNatClampNeg none))) :: _))
      rw [e1]
      exact h7
    · exact h.elim
theorem ix_s_mmax {index : Nat} (hl0 : Cond.methodLink own index Lib.Math.max.name ∈ ix_TB) (hs0 : Cond.static Lib.Math.max.name ∈ ix_TB) (hi0 : Cond.initialized "java/lang/Math" ∈ ix_TB) (hc0 : Cond.code Lib.Math.max.name Lib.Math.max.code 2 (some .int) ∈ ix_TB) (h1 : 1 ≤ d) (hd : decode cc pc = .ok (.invokestatic index, 3)) : ix_S l cc nL own d rt pc (ix_math2 (fun x y => if x < y then y else x) (pc + 3)) := by
  refine ⟨fun k k' Q ls st μ hk h => ?_, fun p e R s m args below meth c cells slots Qw E A Q hC ls st μ h H locs lsa hP hS hl hok => ?_⟩
  · unfold ix_math2 at h ⊢; split at h <;> first | exact ⟨h.1, hk _ h.2⟩ | exact h
  · unfold ix_math2 at h; split at h
    · rename_i y x st'
      obtain ⟨hcs, h⟩ := h
      obtain ⟨r1, r2, r3, r4⟩ := hC.2.2.2.2.2.2.2.2.2.2.1
      exact va_mmax hC.1 hC.2.1 (by rw [hC.2.2.1]; exact hl.2.1.symm) hC.2.2.2.1 (hC.2.2.2.2.1 _ hl0) (hC.2.2.2.2.1 _ hs0) (hC.2.2.2.2.1 _ hi0) (hC.2.2.2.2.1 _ hc0) (by omega) (by rw [ix_cs_cat]; omega) r3 r4 hd (h H locs lsa hP hS hl (ix_ok_cons (ix_oki _) (ix_ok_tl (ix_ok_tl hok))))
    · exact h.elim
theorem ix_s_mmin {index : Nat} (hl0 : Cond.methodLink own index Lib.Math.min.name ∈ ix_TB) (hs0 : Cond.static Lib.Math.min.name ∈ ix_TB) (hi0 : Cond.initialized "java/lang/Math" ∈ ix_TB) (hc0 : Cond.code Lib.Math.min.name Lib.Math.min.code 2 (some .int) ∈ ix_TB) (h1 : 1 ≤ d) (hd : decode cc pc = .ok (.invokestatic index, 3)) : ix_S l cc nL own d rt pc (ix_math2 (fun x y => if y < x then y else x) (pc + 3)) := by
  refine ⟨fun k k' Q ls st μ hk h => ?_, fun p e R s m args below meth c cells slots Qw E A Q hC ls st μ h H locs lsa hP hS hl hok => ?_⟩
  · unfold ix_math2 at h ⊢; split at h <;> first | exact ⟨h.1, hk _ h.2⟩ | exact h
  · unfold ix_math2 at h; split at h
    · rename_i y x st'
      obtain ⟨hcs, h⟩ := h
      obtain ⟨r1, r2, r3, r4⟩ := hC.2.2.2.2.2.2.2.2.2.2.1
      exact va_mmin hC.1 hC.2.1 (by rw [hC.2.2.1]; exact hl.2.1.symm) hC.2.2.2.1 (hC.2.2.2.2.1 _ hl0) (hC.2.2.2.2.1 _ hs0) (hC.2.2.2.2.1 _ hi0) (hC.2.2.2.2.1 _ hc0) (by omega) (by rw [ix_cs_cat]; omega) r3 r4 hd (h H locs lsa hP hS hl (ix_ok_cons (ix_oki _) (ix_ok_tl (ix_ok_tl hok))))
    · exact h.elim
theorem ix_s_mabs {index : Nat} (hl0 : Cond.methodLink own index Lib.Math.abs.name ∈ ix_TB) (hs0 : Cond.static Lib.Math.abs.name ∈ ix_TB) (hi0 : Cond.initialized "java/lang/Math" ∈ ix_TB) (hc0 : Cond.code Lib.Math.abs.name Lib.Math.abs.code 1 (some .int) ∈ ix_TB) (h1 : 1 ≤ d) (hd : decode cc pc = .ok (.invokestatic index, 3)) : ix_S l cc nL own d rt pc (ix_math1 (fun x => if 0 ≤ x then x else 0 - x) (pc + 3)) := by
  refine ⟨fun k k' Q ls st μ hk h => ?_, fun p e R s m args below meth c cells slots Qw E A Q hC ls st μ h H locs lsa hP hS hl hok => ?_⟩
  · unfold ix_math1 at h ⊢; split at h <;> first | exact ⟨h.1, hk _ h.2⟩ | exact h
  · unfold ix_math1 at h; split at h
    · rename_i x st'
      obtain ⟨hcs, h⟩ := h
      obtain ⟨r1, r2, r3, r4⟩ := hC.2.2.2.2.2.2.2.2.2.2.1
      exact va_mabs hC.1 hC.2.1 (by rw [hC.2.2.1]; exact hl.2.1.symm) hC.2.2.2.1 (hC.2.2.2.2.1 _ hl0) (hC.2.2.2.2.1 _ hs0) (hC.2.2.2.2.1 _ hi0) (hC.2.2.2.2.1 _ hc0) (by omega) (by rw [ix_cs_cat]; omega) r3 r4 hd (h H locs lsa hP hS hl (ix_ok_cons (ix_oki _) (ix_ok_tl hok)))
    · exact h.elim
theorem ix_s_acopy {index : Nat} (hl0 : Cond.methodLink own index arraycopyName ∈ ix_TB) (hn0 : Cond.native arraycopyName ∈ ix_TB) (hs0 : Cond.static arraycopyName ∈ ix_TB) (hi0 : Cond.initialized "java/lang/System" ∈ ix_TB) (h1 : 1 ≤ d) (hd : decode cc pc = .ok (.invokestatic index, 3)) : ix_S l cc nL own d rt pc (ix_acopy (pc + 3)) := by
  refine ⟨fun k k' Q ls st μ hk h => ?_, fun p e R s m args below meth c cells slots Qw E A Q hC ls st μ h H locs lsa hP hS hl hok => ?_⟩
  · unfold ix_acopy at h ⊢; split at h <;> first | exact ⟨h.1, h.2.1, h.2.2.1, h.2.2.2.1, h.2.2.2.2.1, h.2.2.2.2.2.1, hk _ h.2.2.2.2.2.2⟩ | exact h
  · unfold ix_acopy at h; split at h
    · rename_i n dp t a sp t2 b st'
      obtain ⟨rfl, rfl, hcs, ⟨z1, z2, z3⟩, z4, z5, h⟩ := h
      obtain ⟨r1, r2, r3, r4⟩ := hC.2.2.2.2.2.2.2.2.2.2.1
      obtain ⟨ha, htg⟩ := ix_ok_at (ix_ok_hd (ix_ok_tl (ix_ok_tl hok))) (by decide) (by decide)
      obtain ⟨ha2, htg2⟩ := ix_ok_at (ix_ok_hd (ix_ok_tl (ix_ok_tl (ix_ok_tl (ix_ok_tl hok))))) (by decide) (by decide)
      show W _ _ _ _ _ _ _ _ _ _ _ _ _ _ _ (F0 m pc lsa (ix_cv E _ :: ix_cv E _ :: ix_cv E _ :: ix_cv E _ :: ix_cv E _ :: _))
      rw [ix_cv_at (t := 20) (by decide) (by decide), ix_cv_at (t := 20) (by decide) (by decide)]
      refine va_copyi (D := E.1) (cl := vwCl) (ty := .int) hC.1 hC.2.1 (by rw [hC.2.2.1]; exact hl.2.1.symm) hC.2.2.2.1 (hC.2.2.2.2.1 _ hl0) (hC.2.2.2.2.1 _ hn0) (hC.2.2.2.2.1 _ hs0) (hC.2.2.2.2.1 _ hi0) hC.2.2.2.2.2.1.1 hP (ix_D hC.2.2.2.2.2.2.2.1 hC.2.2.2.2.2.2.2.2.1) hS b a 0 0 (by rw [ix_w_at E _ ha2, ix_ce_arr htg2]) (by rw [ix_w_at E _ ha, ix_ce_arr htg]) rfl rfl rfl z1 z2 z3 z4 z5 (fun _ _ => rfl) (by omega) (by
        have hw : nativeFrameWords "java/lang/System" "arraycopy" 5 ≤ 20 := by decide +kernel
        rw [ix_cs_cat]; omega) hd (fun H1 locs1 q1 q2 q3 => ?_)
      rw [ix_w_set (μ' := ix_cpy μ b a sp.toNatClampNeg dp.toNatClampNeg n.toNatClampNeg) ha (fun x hx => by funext j; simp [ix_cpy, hx]) (by
        rw [ix_ce_arr htg]
        congr 3
        congr 1
        funext j
        simp [ix_cpy])] at q1
      exact h H1 locs1 lsa q1 q3 hl (ix_ok_tl (ix_ok_tl (ix_ok_tl (ix_ok_tl (ix_ok_tl hok)))))
    · exact h.elim
end IXM
