/-! ===== what a TEXT is read as ===== -/
abbrev RS : Type := Nat × List Int32
abbrev RF : Type := RS → Bool × RS
def cOp (c : Int32) : Int32 := if c = 124 then 20000 else if c = 38 then 20001 else if c = 60 then 20002 else if c = 61 then 20003 else if c = 62 then 20004 else if c = 43 then 20005 else if c = 45 then 20006 else if c = 42 then 20007 else if c = 47 then 20008 else 20009
def mName (u : Nat) (c : Int32) : Int32 := if u = 0 then (if c = 115 then 0 else if c = 100 then 1 else if c = 116 then 2 else -1) else (if c = 108 then 0 else if c = 98 then 1 else if c = 104 then 2 else -1)
def rdLp (tp : Nat → Int32) (n : Nat) (sub : RF) (lv : Int32) (f : Nat) : RF := match f with
  | 0 => fun s => (true, s)
  | f + 1 => fun s => if mLv (nx tp n s.1) = lv then (if (sub (s.1 + 1, s.2)).1 = true then rdLp tp n sub lv f ((sub (s.1 + 1, s.2)).2.1, (sub (s.1 + 1, s.2)).2.2 ++ [cOp (nx tp n s.1)]) else (false, (sub (s.1 + 1, s.2)).2)) else (true, s)
def rdLv (tp : Nat → Int32) (n : Nat) (unit : RF) (k : Nat) : RF := match k with
  | 0 => unit
  | k + 1 => fun s => if (rdLv tp n unit k s).1 = true then rdLp tp n (rdLv tp n unit k) (nI (4 - k)) (if k = 2 then 1 else 50) (rdLv tp n unit k s).2 else (false, (rdLv tp n unit k s).2)
def rdNm (tp : Nat → Int32) (n u : Nat) : RF := fun s => if mName u (nx tp n s.1) < 0 then (false, s) else (true, s.1 + 1, s.2 ++ [10000 + mName u (nx tp n s.1)])
def rdOp (tp : Nat → Int32) (n : Nat) (U L : RF) (c : Int32) : RF := fun s => if c = 33 then (if (U (s.1 + 1, s.2)).1 = true then (true, (U (s.1 + 1, s.2)).2.1, (U (s.1 + 1, s.2)).2.2 ++ [20010]) else (false, (U (s.1 + 1, s.2)).2)) else (if (L (s.1 + 1, s.2)).1 = true then (if nx tp n (L (s.1 + 1, s.2)).2.1 = 41 then (true, (L (s.1 + 1, s.2)).2.1 + 1, (L (s.1 + 1, s.2)).2.2) else (false, (L (s.1 + 1, s.2)).2)) else (false, (L (s.1 + 1, s.2)).2))
def rdUg (tp : Nat → Int32) (n u : Nat) (O : Int32 → RF) : RF := fun s => if isDg (nx tp n s.1) then (true, (rdN tp n 4 0 s.1).2, s.2 ++ [(rdN tp n 4 0 s.1).1]) else if nx tp n s.1 = 33 ∨ nx tp n s.1 = 40 then O (nx tp n s.1) s else rdNm tp n u s
def rdU (tp : Nat → Int32) (n u : Nat) (k : Nat) : RF := match k with
  | 0 => rdUg tp n u (fun _ s => (false, s))
  | k + 1 => rdUg tp n u (rdOp tp n (rdU tp n u k) (rdLv tp n (rdU tp n u k) 5))
theorem tWf_app : ∀ (x : List Int32) {y : List Int32} {h k m : Nat}, tWf x h k → tWf y k m → tWf (x ++ y) h m
  | [], _, _, _, _, h1, h2 => by
    have h1 : _ = _ := h1
    subst h1
    exact h2
  | d :: x, _, _, _, _, h1, h2 => by
    rcases h1 with ⟨a, b⟩ | ⟨a, b, c⟩ | ⟨a, b, c⟩
    · exact Or.inl ⟨a, tWf_app x b h2⟩
    · exact Or.inr (Or.inl ⟨a, b, tWf_app x c h2⟩)
    · exact Or.inr (Or.inr ⟨a, b, tWf_app x c h2⟩)
theorem mLv_of {c : Int32} (h : mLv c ≠ -1) : c = 37 ∨ c = 38 ∨ c = 42 ∨ c = 43 ∨ c = 45 ∨ c = 47 ∨ c = 60 ∨ c = 61 ∨ c = 62 ∨ c = 124 := by
  unfold mLv at h
  repeat' split at h
  all_goals first | (exact absurd rfl h) | simp_all
theorem cOp_bin {c : Int32} (h : mLv c ≠ -1) : tBin (cOp c) ∧ tCls (cOp c) = -c ∧ c ≠ -1 := by
  rcases mLv_of h with rfl | rfl | rfl | rfl | rfl | rfl | rfl | rfl | rfl | rfl
  all_goals exact ⟨by unfold tBin; decide, by decide +kernel, by decide⟩
theorem mName_of (u : Nat) (c : Int32) : mName u c = -1 ∨ ((mName u c = 0 ∨ mName u c = 1 ∨ mName u c = 2) ∧ c ≠ -1) := by
  unfold mName
  repeat' split
  all_goals first | exact Or.inl rfl | (right; subst_vars; decide)
def RGd (n : Nat) (f : RF) (q : Nat) : Prop := ∀ s : RS, s.1 ≤ n → s.1 ≤ (f s).2.1 ∧ (f s).2.1 ≤ n ∧ (f s).2.2.length + s.1 ≤ s.2.length + (f s).2.1 ∧ ((f s).1 = true → s.1 < (f s).2.1 + q ∧ ∃ w, (f s).2.2 = s.2 ++ w ∧ ∀ h, tWf w (h + q) (h + 1))
theorem rdLp_ok {tp : Nat → Int32} {n : Nat} {sub : RF} {lv : Int32} (hl : lv ≠ -1) (hs : RGd n sub 0) : ∀ f, RGd n (rdLp tp n sub lv f) 1
  | 0 => fun s h => ⟨Nat.le_refl _, h, Nat.le_refl _, fun _ => ⟨Nat.lt_succ_self _, [], by simp [rdLp], fun _ => rfl⟩⟩
  | f + 1 => fun s h => by
    simp only [rdLp]
    by_cases c : mLv (nx tp n s.1) = lv
    · rw [if_pos c]
      obtain ⟨g1, g2, g3⟩ := cOp_bin (c := nx tp n s.1) (by rw [c]; exact hl)
      have hlt := nx_in g3
      obtain ⟨a1, a2, a3, a4⟩ := hs (s.1 + 1, s.2) (by simp only; omega)
      simp only at a1 a2 a3 a4
      by_cases c2 : (sub (s.1 + 1, s.2)).1 = true
      · rw [if_pos c2]
        obtain ⟨b1, w, b2, b3⟩ := a4 c2
        obtain ⟨e1, e2, e3, e4⟩ := rdLp_ok (tp := tp) hl hs f ((sub (s.1 + 1, s.2)).2.1, (sub (s.1 + 1, s.2)).2.2 ++ [cOp (nx tp n s.1)]) a2
        simp only [List.length_append, List.length_cons, List.length_nil] at e1 e2 e3 e4
        refine ⟨by omega, e2, by omega, fun z => ⟨by omega, ?_⟩⟩
        obtain ⟨_, w2, e5, e6⟩ := e4 z
        refine ⟨w ++ ([cOp (nx tp n s.1)] ++ w2), ?_, fun h => ?_⟩
        · rw [e5, b2]
          simp
        · refine tWf_app w (b3 (h + 1)) (tWf_app _ (k := h + 1) ?_ (e6 h))
          exact Or.inr (Or.inr ⟨g1, by omega, rfl⟩)
      · rw [if_neg c2]
        refine ⟨by simp only; omega, a2, by simp only; omega, fun z => absurd z (by simp)⟩
    · rw [if_neg c]
      exact ⟨Nat.le_refl _, h, Nat.le_refl _, fun _ => ⟨Nat.lt_succ_self _, [], by simp, fun _ => rfl⟩⟩
theorem nI4_ne (k : Nat) : nI (4 - k) ≠ -1 := by
  have : ∀ j : Fin 5, nI j.val ≠ -1 := by decide +kernel
  exact this ⟨4 - k, by omega⟩
theorem rdLv_ok {tp : Nat → Int32} {n : Nat} {unit : RF} (hs : RGd n unit 0) : ∀ k, RGd n (rdLv tp n unit k) 0
  | 0 => hs
  | k + 1 => fun s h => by
    simp only [rdLv]
    obtain ⟨a1, a2, a3, a4⟩ := rdLv_ok (tp := tp) hs k s h
    by_cases c : (rdLv tp n unit k s).1 = true
    · rw [if_pos c]
      obtain ⟨b1, w, b2, b3⟩ := a4 c
      obtain ⟨e1, e2, e3, e4⟩ := rdLp_ok (tp := tp) (nI4_ne k) (rdLv_ok (tp := tp) hs k) (if k = 2 then 1 else 50) (rdLv tp n unit k s).2 a2
      refine ⟨by omega, e2, by omega, fun z => ⟨by omega, ?_⟩⟩
      obtain ⟨_, w2, e5, e6⟩ := e4 z
      refine ⟨w ++ w2, ?_, fun h => tWf_app w (b3 h) (e6 h)⟩
      rw [e5, b2]
      simp
    · rw [if_neg c]
      exact ⟨a1, a2, a3, fun z => absurd z (by simp)⟩
theorem rdUg_ok {tp : Nat → Int32} {n u : Nat} {O : Int32 → RF} (hO : ∀ s : RS, s.1 ≤ n → nx tp n s.1 = 33 ∨ nx tp n s.1 = 40 → s.1 ≤ (O (nx tp n s.1) s).2.1 ∧ (O (nx tp n s.1) s).2.1 ≤ n ∧ (O (nx tp n s.1) s).2.2.length + s.1 ≤ s.2.length + (O (nx tp n s.1) s).2.1 ∧ ((O (nx tp n s.1) s).1 = true → s.1 < (O (nx tp n s.1) s).2.1 ∧ ∃ w, (O (nx tp n s.1) s).2.2 = s.2 ++ w ∧ ∀ h, tWf w h (h + 1))) : RGd n (rdUg tp n u O) 0 := by
  intro s h
  unfold rdUg
  by_cases c : isDg (nx tp n s.1)
  · rw [if_pos c]
    obtain ⟨W, g1, g2, g3, g4, g5⟩ := rdN_ok (tp := tp) (n := n) 4 0 s.1 h
    have g6 := g5 (by decide) c
    have e0 : nI 0 = 0 := rfl
    rw [e0] at g1 g3 g4 g6
    simp only [List.length_append, List.length_cons, List.length_nil]
    refine ⟨g3, g4, by omega, fun _ => ⟨by omega, _, rfl, fun h => Or.inl ⟨Or.inl ⟨W, by omega, g1⟩, rfl⟩⟩⟩
  · rw [if_neg c]
    by_cases c2 : nx tp n s.1 = 33 ∨ nx tp n s.1 = 40
    · rw [if_pos c2]
      exact hO s h c2
    · rw [if_neg c2]
      unfold rdNm
      rcases mName_of u (nx tp n s.1) with e | ⟨e, g3⟩
      · rw [e, if_pos (by decide)]
        exact ⟨Nat.le_refl _, h, Nat.le_refl _, fun z => absurd z (by simp)⟩
      · have hlt := nx_in g3
        have hp : tPush (10000 + mName u (nx tp n s.1)) ∧ ¬ mName u (nx tp n s.1) < 0 := by
          rcases e with e | e | e
          · rw [e]; exact ⟨Or.inr (Or.inl rfl), by decide⟩
          · rw [e]; exact ⟨Or.inr (Or.inr (Or.inl rfl)), by decide⟩
          · rw [e]; exact ⟨Or.inr (Or.inr (Or.inr rfl)), by decide⟩
        rw [if_neg hp.2]
        simp only [List.length_append, List.length_cons, List.length_nil]
        exact ⟨by omega, by omega, by omega, fun _ => ⟨by omega, _, rfl, fun h => Or.inl ⟨hp.1, rfl⟩⟩⟩
theorem rdOp_ok {tp : Nat → Int32} {n : Nat} {U L : RF} (hU : RGd n U 0) (hL : RGd n L 0) (s : RS) (hc : nx tp n s.1 = 33 ∨ nx tp n s.1 = 40) : s.1 ≤ (rdOp tp n U L (nx tp n s.1) s).2.1 ∧ (rdOp tp n U L (nx tp n s.1) s).2.1 ≤ n ∧ (rdOp tp n U L (nx tp n s.1) s).2.2.length + s.1 ≤ s.2.length + (rdOp tp n U L (nx tp n s.1) s).2.1 ∧ ((rdOp tp n U L (nx tp n s.1) s).1 = true → s.1 < (rdOp tp n U L (nx tp n s.1) s).2.1 ∧ ∃ w, (rdOp tp n U L (nx tp n s.1) s).2.2 = s.2 ++ w ∧ ∀ h, tWf w h (h + 1)) := by
  have hlt : s.1 < n := nx_in (by rcases hc with e | e <;> rw [e] <;> decide)
  unfold rdOp
  by_cases c : nx tp n s.1 = 33
  · rw [if_pos c]
    obtain ⟨a1, a2, a3, a4⟩ := hU (s.1 + 1, s.2) (by simp only; omega)
    simp only at a1 a2 a3 a4
    by_cases c2 : (U (s.1 + 1, s.2)).1 = true
    · rw [if_pos c2]
      obtain ⟨b1, w, b2, b3⟩ := a4 c2
      simp only [List.length_append, List.length_cons, List.length_nil]
      refine ⟨by omega, a2, by omega, fun _ => ⟨by omega, w ++ [20010], by rw [b2]; simp, fun h => tWf_app w (b3 h) (Or.inr (Or.inl ⟨rfl, by omega, rfl⟩))⟩⟩
    · rw [if_neg c2]
      exact ⟨by simp only; omega, a2, by simp only; omega, fun z => absurd z (by simp)⟩
  · rw [if_neg c]
    obtain ⟨a1, a2, a3, a4⟩ := hL (s.1 + 1, s.2) (by simp only; omega)
    simp only at a1 a2 a3 a4
    by_cases c2 : (L (s.1 + 1, s.2)).1 = true
    · rw [if_pos c2]
      obtain ⟨b1, w, b2, b3⟩ := a4 c2
      by_cases c3 : nx tp n (L (s.1 + 1, s.2)).2.1 = 41
      · rw [if_pos c3]
        have hl3 : (L (s.1 + 1, s.2)).2.1 < n := nx_in (by rw [c3]; decide)
        simp only
        exact ⟨by omega, by omega, by omega, fun _ => ⟨by omega, w, b2, b3⟩⟩
      · rw [if_neg c3]
        exact ⟨by simp only; omega, a2, by simp only; omega, fun z => absurd z (by simp)⟩
    · rw [if_neg c2]
      exact ⟨by simp only; omega, a2, by simp only; omega, fun z => absurd z (by simp)⟩
theorem rdU_ok {tp : Nat → Int32} {n u : Nat} : ∀ k, RGd n (rdU tp n u k) 0
  | 0 => rdUg_ok (fun s h _ => ⟨Nat.le_refl _, h, Nat.le_refl _, fun z => absurd z (by simp)⟩)
  | k + 1 => rdUg_ok (fun s h hc => rdOp_ok (rdU_ok k) (rdLv_ok (rdU_ok k) 5) s hc)
