/-! ===== the memory at the start (written by gen/walk4.py) ===== -/
def mu0L : List (Nat → Int32) := [fun _ => 0, fun j => if j = 5 then 1 else 0, fun j => if j = 9 then 14 else 0, dpF 16, fun _ => 0, fun _ => 0, fun _ => 0, fun _ => 0, fun _ => 0, fun _ => 0, fun _ => 0, fun _ => 0, fun _ => 0, fun _ => 0, fun _ => 0, fun _ => 0, fun _ => 0, fun _ => 0, fun _ => 0, fun _ => 0, fun _ => 0, fun _ => 0, fun _ => 0, wtF 6, fun j => if j = 5 then 1 else 0, fun j => if j = 9 then 14 else 0, dpF 16, fun _ => 0, fun _ => 0, fun _ => 0, fun _ => 0, fun _ => 0, fun _ => 0, fun _ => 0, fun _ => 0, fun _ => 0, fun _ => 0, fun _ => 0, fun _ => 0, fun _ => 0, fun _ => 0, fun _ => 0, fun _ => 0, fun _ => 0, fun _ => 0, fun _ => 0, wtF 6, fun _ => 0, fun j => if j = 9 then 14 else 0, dpF 16, fun _ => 0, fun _ => 0, fun _ => 0, fun _ => 0, fun _ => 0, fun _ => 0, fun j => if j = 9 then 14 else 0, dpF 16, fun _ => 0, fun _ => 0, fun _ => 0, fun _ => 0, fun _ => 0, fun _ => 0, fun j => if j = 9 then 14 else 0, dpF 16, fun _ => 0, fun _ => 0, fun _ => 0, fun _ => 0, fun _ => 0, fun _ => 0, fun j => if j = 9 then 14 else 0, dpF 16, fun _ => 0, fun _ => 0, fun _ => 0, fun _ => 0, fun _ => 0, fun _ => 0, fun j => if j = 9 then 14 else 0, dpF 16, fun _ => 0, fun _ => 0, fun _ => 0, fun _ => 0, fun _ => 0, fun _ => 0, fun _ => 0, fun _ => 0, fun _ => 0, fun _ => 0, fun _ => 0, fun _ => 0, fun _ => 0, fun _ => 0, fun _ => 0, fun _ => 0, fun _ => 0, fun _ => 0, fun _ => 0, fun _ => 0, fun _ => 0, fun _ => 0, fun _ => 0, fun _ => 0, fun _ => 0, fun _ => 0, fun _ => 0, fun _ => 0, fun _ => 0, fun _ => 0, fun j => if j = 5 then -1 else 0, nwW 6, fun _ => 0, fun _ => 0, fun _ => 0, fun _ => 0, fun _ => 0, fun _ => 0, fun _ => 0, fun _ => 0, fun _ => 0, fun _ => 0, fun _ => 0, fun _ => 0, fun _ => 0, fun _ => 0, fun _ => 0, fun _ => 0, fun _ => 0]
def mu0 : ix_M := fun k => mu0L.getD k (fun _ => 0)
theorem mu0_wv : wv mu0 2 = nv (mu0 113) := by
  have h : ∀ r, r < 8 → ∀ i, i < 16 → wok r i = true → mu0 (2 + r) i = mu0 113 (nvI r i) := by decide +kernel
  funext r i
  unfold wv nv
  by_cases c : wok r i = true
  · rw [if_pos c, if_pos c]
    have c2 := c
    simp [wok] at c2
    exact h r (by omega) i (by omega) c
  · rw [if_neg c, if_neg c]
theorem mu0_inv : Inv mu0 := by
  have w1 : ∀ b, b < 8 → nv (mu0 113) 6 b = nI 0 ∧ nv (mu0 113) 4 b = nI 0 ∧ nv (mu0 113) 5 b = nI 0 ∧ nv (mu0 113) 7 b = nI 0 := by decide +kernel
  have w2 : ∀ i, i < 6 → nv (mu0 113) 3 i = nI 0 := by decide +kernel
  have w3 : ∀ j, j < 6 → mu0 23 j = mu0 113 (12 + j) ∧ mu0 113 (12 + j) = nI 10 := by decide +kernel
  have w4 : ∀ i, i < 4 → mu0 (99 + 3 * i) 1 = mu0 123 i ∧ mu0 (100 + 3 * i) 1 = nI 0 ∧ mu0 124 i = nI 0 := by decide +kernel
  refine ⟨⟨⟨mu0_wv, 0, Nat.zero_le _, ⟨⟨0, Nat.zero_le _, by decide +kernel⟩, by decide +kernel, fun b hb => ⟨0, by decide, (w1 b hb).1⟩⟩, fun i hi => ⟨0, by decide, w2 i hi⟩, fun b hb => ⟨0, by decide, (w1 b hb).2.1⟩, fun b hb => ⟨0, by decide, (w1 b hb).2.2.1⟩, fun b hb => ⟨0, by decide, (w1 b hb).2.2.2⟩⟩, by decide +kernel, ⟨0, Nat.zero_le _, by decide +kernel, by decide +kernel, fun j hj => absurd hj (Nat.not_lt_zero j)⟩, ⟨0, Nat.zero_le _, by decide +kernel, by decide +kernel, fun j hj => absurd hj (Nat.not_lt_zero j)⟩, fun j hj => ⟨(w3 j hj).1, 10, by decide, (w3 j hj).2⟩, ⟨[], ⟨⟨by decide +kernel, by decide, fun j hj => absurd hj (Nat.not_lt_zero j)⟩, Or.inl rfl⟩, ⟨⟨by decide +kernel, by decide, fun j hj => absurd hj (Nat.not_lt_zero j)⟩, Or.inl rfl⟩⟩, [], ⟨⟨by decide +kernel, by decide, fun j hj => absurd hj (Nat.not_lt_zero j)⟩, Or.inl rfl⟩, ⟨⟨by decide +kernel, by decide, fun j hj => absurd hj (Nat.not_lt_zero j)⟩, Or.inl rfl⟩⟩, fun z => absurd rfl z, rfl, fun k _ => rfl, fun i hi => ⟨(w4 i hi).1, 0, by decide, (w4 i hi).2.1, (w4 i hi).2.2, fun j hj => absurd hj (Nat.not_lt_zero j)⟩, ⟨[], ⟨by decide +kernel, by decide, fun j hj => absurd hj (Nat.not_lt_zero j)⟩, by decide +kernel, fun j hj => absurd hj (Nat.not_lt_zero j)⟩, by decide +kernel, fun t _ => rfl, fun t _ => rfl⟩
/-- the world at the start -/
def st_E (D : va_G) (q r sa sv : Nat → Nat) (tC : Nat → ClassId) (X : Nat × Nat × (Nat → Int32)) : ix_E := (D, (fun k => if k < 112 then q k else if k < 127 then r (k - 112) else q (k - 15)), sa, sv, tC, X)
def st_w (q r sa : Nat → Nat) (tC : Nat → ClassId) : va_W := [(q 0, .inr (9, [.ref (q 1), .ref (q 24), .int 0, .ref (q 47), .ref (q 88), .ref (q 93), .ref (q 96), .ref (q 98), .ref (q 111), .int 0, .int 0])),
  (q 1, .inr (5, [.ref (q 2), .ref (q 10), .ref (q 19), .ref (q 21), .ref (q 23), .int 1])),
  (q 2, .inr (8, [.ref (q 3), .ref (q 4), .ref (q 5), .ref (q 6), .ref (q 7), .ref (q 8), .ref (q 9), .int 0, .int 0, .int 14])),
  (q 3, .inl (tC 0, 16, .inl (dpF 16))),
  (q 4, .inl (tC 0, 16, .inl (fun _ => 0))),
  (q 5, .inl (tC 0, 6, .inl (fun _ => 0))),
  (q 6, .inl (tC 0, 8, .inl (fun _ => 0))),
  (q 7, .inl (tC 0, 8, .inl (fun _ => 0))),
  (q 8, .inl (tC 0, 8, .inl (fun _ => 0))),
  (q 9, .inl (tC 0, 8, .inl (fun _ => 0))),
  (q 10, .inr (0, [.ref (q 11), .ref (q 15)])),
  (q 11, .inr (6, [.ref (q 12), .ref (q 14)])),
  (q 12, .inr (3, [.ref (q 13), .int 0])),
  (q 13, .inl (tC 0, 50, .inl (fun _ => 0))),
  (q 14, .inl (tC 0, 50, .inl (fun _ => 0))),
  (q 15, .inr (6, [.ref (q 16), .ref (q 18)])),
  (q 16, .inr (3, [.ref (q 17), .int 0])),
  (q 17, .inl (tC 0, 50, .inl (fun _ => 0))),
  (q 18, .inl (tC 0, 50, .inl (fun _ => 0))),
  (q 19, .inr (3, [.ref (q 20), .int 0])),
  (q 20, .inl (tC 0, 50, .inl (fun _ => 0))),
  (q 21, .inr (3, [.ref (q 22), .int 0])),
  (q 22, .inl (tC 0, 20, .inl (fun _ => 0))),
  (q 23, .inl (tC 0, 6, .inl (wtF 6))),
  (q 24, .inr (5, [.ref (q 25), .ref (q 33), .ref (q 42), .ref (q 44), .ref (q 46), .int 1])),
  (q 25, .inr (8, [.ref (q 26), .ref (q 27), .ref (q 28), .ref (q 29), .ref (q 30), .ref (q 31), .ref (q 32), .int 0, .int 0, .int 14])),
  (q 26, .inl (tC 0, 16, .inl (dpF 16))),
  (q 27, .inl (tC 0, 16, .inl (fun _ => 0))),
  (q 28, .inl (tC 0, 6, .inl (fun _ => 0))),
  (q 29, .inl (tC 0, 8, .inl (fun _ => 0))),
  (q 30, .inl (tC 0, 8, .inl (fun _ => 0))),
  (q 31, .inl (tC 0, 8, .inl (fun _ => 0))),
  (q 32, .inl (tC 0, 8, .inl (fun _ => 0))),
  (q 33, .inr (0, [.ref (q 34), .ref (q 38)])),
  (q 34, .inr (6, [.ref (q 35), .ref (q 37)])),
  (q 35, .inr (3, [.ref (q 36), .int 0])),
  (q 36, .inl (tC 0, 50, .inl (fun _ => 0))),
  (q 37, .inl (tC 0, 50, .inl (fun _ => 0))),
  (q 38, .inr (6, [.ref (q 39), .ref (q 41)])),
  (q 39, .inr (3, [.ref (q 40), .int 0])),
  (q 40, .inl (tC 0, 50, .inl (fun _ => 0))),
  (q 41, .inl (tC 0, 50, .inl (fun _ => 0))),
  (q 42, .inr (3, [.ref (q 43), .int 0])),
  (q 43, .inl (tC 0, 50, .inl (fun _ => 0))),
  (q 44, .inr (3, [.ref (q 45), .int 0])),
  (q 45, .inl (tC 0, 20, .inl (fun _ => 0))),
  (q 46, .inl (tC 0, 6, .inl (wtF 6))),
  (q 47, .inl (tC 1, 5, .inr (.inr (.inr (.inr (fun i => [some (q 48), some (q 56), some (q 64), some (q 72), some (q 80)].getD i none)))))),
  (q 48, .inr (8, [.ref (q 49), .ref (q 50), .ref (q 51), .ref (q 52), .ref (q 53), .ref (q 54), .ref (q 55), .int 0, .int 0, .int 14])),
  (q 49, .inl (tC 0, 16, .inl (dpF 16))),
  (q 50, .inl (tC 0, 16, .inl (fun _ => 0))),
  (q 51, .inl (tC 0, 6, .inl (fun _ => 0))),
  (q 52, .inl (tC 0, 8, .inl (fun _ => 0))),
  (q 53, .inl (tC 0, 8, .inl (fun _ => 0))),
  (q 54, .inl (tC 0, 8, .inl (fun _ => 0))),
  (q 55, .inl (tC 0, 8, .inl (fun _ => 0))),
  (q 56, .inr (8, [.ref (q 57), .ref (q 58), .ref (q 59), .ref (q 60), .ref (q 61), .ref (q 62), .ref (q 63), .int 0, .int 0, .int 14])),
  (q 57, .inl (tC 0, 16, .inl (dpF 16))),
  (q 58, .inl (tC 0, 16, .inl (fun _ => 0))),
  (q 59, .inl (tC 0, 6, .inl (fun _ => 0))),
  (q 60, .inl (tC 0, 8, .inl (fun _ => 0))),
  (q 61, .inl (tC 0, 8, .inl (fun _ => 0))),
  (q 62, .inl (tC 0, 8, .inl (fun _ => 0))),
  (q 63, .inl (tC 0, 8, .inl (fun _ => 0))),
  (q 64, .inr (8, [.ref (q 65), .ref (q 66), .ref (q 67), .ref (q 68), .ref (q 69), .ref (q 70), .ref (q 71), .int 0, .int 0, .int 14])),
  (q 65, .inl (tC 0, 16, .inl (dpF 16))),
  (q 66, .inl (tC 0, 16, .inl (fun _ => 0))),
  (q 67, .inl (tC 0, 6, .inl (fun _ => 0))),
  (q 68, .inl (tC 0, 8, .inl (fun _ => 0))),
  (q 69, .inl (tC 0, 8, .inl (fun _ => 0))),
  (q 70, .inl (tC 0, 8, .inl (fun _ => 0))),
  (q 71, .inl (tC 0, 8, .inl (fun _ => 0))),
  (q 72, .inr (8, [.ref (q 73), .ref (q 74), .ref (q 75), .ref (q 76), .ref (q 77), .ref (q 78), .ref (q 79), .int 0, .int 0, .int 14])),
  (q 73, .inl (tC 0, 16, .inl (dpF 16))),
  (q 74, .inl (tC 0, 16, .inl (fun _ => 0))),
  (q 75, .inl (tC 0, 6, .inl (fun _ => 0))),
  (q 76, .inl (tC 0, 8, .inl (fun _ => 0))),
  (q 77, .inl (tC 0, 8, .inl (fun _ => 0))),
  (q 78, .inl (tC 0, 8, .inl (fun _ => 0))),
  (q 79, .inl (tC 0, 8, .inl (fun _ => 0))),
  (q 80, .inr (8, [.ref (q 81), .ref (q 82), .ref (q 83), .ref (q 84), .ref (q 85), .ref (q 86), .ref (q 87), .int 0, .int 0, .int 14])),
  (q 81, .inl (tC 0, 16, .inl (dpF 16))),
  (q 82, .inl (tC 0, 16, .inl (fun _ => 0))),
  (q 83, .inl (tC 0, 6, .inl (fun _ => 0))),
  (q 84, .inl (tC 0, 8, .inl (fun _ => 0))),
  (q 85, .inl (tC 0, 8, .inl (fun _ => 0))),
  (q 86, .inl (tC 0, 8, .inl (fun _ => 0))),
  (q 87, .inl (tC 0, 8, .inl (fun _ => 0))),
  (q 88, .inr (2, [.ref (q 89), .ref (q 112), .ref (sa 0), .int 0])),
  (q 89, .inr (6, [.ref (q 90), .ref (q 92)])),
  (q 90, .inr (3, [.ref (q 91), .int 0])),
  (q 91, .inl (tC 0, 50, .inl (fun _ => 0))),
  (q 92, .inl (tC 0, 50, .inl (fun _ => 0))),
  (q 93, .inr (7, [.ref (q 94), .int 0, .int 0, .int 0])),
  (q 94, .inr (3, [.ref (q 95), .int 0])),
  (q 95, .inl (tC 0, 40, .inl (fun _ => 0))),
  (q 96, .inr (1, [.ref (q 97), .ref (q 114), .ref (q 115), .int 0])),
  (q 97, .inl (tC 0, 1792, .inl (fun _ => 0))),
  (q 98, .inl (tC 2, 4, .inr (.inr (.inr (.inr (fun i => [some (q 99), some (q 102), some (q 105), some (q 108)].getD i none)))))),
  (q 99, .inr (4, [.ref (q 100), .int 0])),
  (q 100, .inr (3, [.ref (q 101), .int 0])),
  (q 101, .inl (tC 0, 40, .inl (fun _ => 0))),
  (q 102, .inr (4, [.ref (q 103), .int 0])),
  (q 103, .inr (3, [.ref (q 104), .int 0])),
  (q 104, .inl (tC 0, 40, .inl (fun _ => 0))),
  (q 105, .inr (4, [.ref (q 106), .int 0])),
  (q 106, .inr (3, [.ref (q 107), .int 0])),
  (q 107, .inl (tC 0, 40, .inl (fun _ => 0))),
  (q 108, .inr (4, [.ref (q 109), .int 0])),
  (q 109, .inr (3, [.ref (q 110), .int 0])),
  (q 110, .inl (tC 0, 40, .inl (fun _ => 0))),
  (q 111, .inl (tC 0, 6, .inl (fun _ => 0))),
  (r 0, .inr (10, [.ref (r 1), .ref (r 2), .ref (r 3), .int 0, .ref (r 4), .int (-1), .int 0, .ref (r 5), .int 0, .int 0, .int 0, .int 0, .ref (r 6), .int 0, .ref (r 7), .ref (r 8), .ref (r 9), .ref (r 10), .int 0, .int 0, .int 0, .int 0, .ref (r 11), .ref (r 12), .ref (r 13), .ref (r 14)])),
  (r 1, .inl (tC 0, 256, .inl (nwW 6))),
  (r 2, .inl (tC 0, 256, .inl (fun _ => 0))),
  (r 3, .inl (tC 0, 256, .inl (fun _ => 0))),
  (r 4, .inl (tC 0, 6, .inl (fun _ => 0))),
  (r 5, .inl (tC 3, 2, .inr (.inr (.inr (.inr (fun i => [some (sa 1), some (sa 2)].getD i none)))))),
  (r 6, .inl (tC 0, 60, .inl (fun _ => 0))),
  (r 7, .inl (tC 0, 4, .inl (fun _ => 0))),
  (r 8, .inl (tC 0, 60, .inl (fun _ => 0))),
  (r 9, .inl (tC 0, 1792, .inl (fun _ => 0))),
  (r 10, .inl (tC 0, 40, .inl (fun _ => 0))),
  (r 11, .inl (tC 0, 4, .inl (fun _ => 0))),
  (r 12, .inl (tC 0, 4, .inl (fun _ => 0))),
  (r 13, .inl (tC 0, 160, .inl (fun _ => 0))),
  (r 14, .inl (tC 0, 40, .inl (fun _ => 0))),
  (q 112, .inr (3, [.ref (q 113), .int 0])),
  (q 113, .inl (tC 0, 50, .inl (fun _ => 0))),
  (q 114, .inl (tC 0, 6, .inl (fun _ => 0))),
  (q 115, .inl (tC 0, 8, .inl (fun _ => 0)))]
theorem va_P.st {D : va_G} {cl : List vw_C} {ws : va_W} {H : Heap} (h : va_P D cl ws H) (k : Nat) {e : Nat × va_E} (he : va_at D cl e H) : va_P D cl (ws.set k e) H := by
  intro i q hi
  by_cases c : i = k
  · subst c
    have hl : i < ws.length := by
      have := (List.getElem?_eq_some_iff.mp hi).1
      rwa [List.length_set] at this
    rw [List.getElem?_set_self hl] at hi
    cases hi
    exact he
  · rw [List.getElem?_set_ne (Ne.symm c)] at hi
    exact h i q hi
theorem st_arr {c : ClassId} {n : Nat} {f g : Nat → Option Nat} (h : ∀ j, j < n → f j = g j) : vp_cell c (n, .inr (.inr (.inr (.inr f)))) = vp_cell c (n, .inr (.inr (.inr (.inr g)))) := by
  unfold vp_cell arrV
  simp only
  congr 2
  funext j
  rw [h j.val j.isLt]
set_option maxRecDepth 100000 in
theorem sc_0 (D : va_G) (q r sa sv : Nat → Nat) (tC : Nat → ClassId) (X : Nat × Nat × (Nat → Int32)) : ix_ce (st_E D q r sa sv tC X) mu0 0 = .inr (9, [.ref (q 1), .ref (q 24), .int 0, .ref (q 47), .ref (q 88), .ref (q 93), .ref (q 96), .ref (q 98), .ref (q 111), .int 0, .int 0]) := by
  rw [ix_ce_obj (t := 9) (by decide +kernel) (by decide), show (ix_sh 0).2 = [some 1, some 24, none, some 47, some 88, some 93, some 96, some 98, some 111, none, none] from rfl]
  simp only [List.mapIdx_cons, List.mapIdx_nil, Function.comp_def, Nat.zero_add, Nat.reduceAdd]
  rfl
set_option maxRecDepth 100000 in
theorem sc_1 (D : va_G) (q r sa sv : Nat → Nat) (tC : Nat → ClassId) (X : Nat × Nat × (Nat → Int32)) : ix_ce (st_E D q r sa sv tC X) mu0 1 = .inr (5, [.ref (q 2), .ref (q 10), .ref (q 19), .ref (q 21), .ref (q 23), .int 1]) := by
  rw [ix_ce_obj (t := 5) (by decide +kernel) (by decide), show (ix_sh 1).2 = [some 2, some 10, some 19, some 21, some 23, none] from rfl]
  simp only [List.mapIdx_cons, List.mapIdx_nil, Function.comp_def, Nat.zero_add, Nat.reduceAdd]
  rfl
set_option maxRecDepth 100000 in
theorem sc_2 (D : va_G) (q r sa sv : Nat → Nat) (tC : Nat → ClassId) (X : Nat × Nat × (Nat → Int32)) : ix_ce (st_E D q r sa sv tC X) mu0 2 = .inr (8, [.ref (q 3), .ref (q 4), .ref (q 5), .ref (q 6), .ref (q 7), .ref (q 8), .ref (q 9), .int 0, .int 0, .int 14]) := by
  rw [ix_ce_obj (t := 8) (by decide +kernel) (by decide), show (ix_sh 2).2 = [some 3, some 4, some 5, some 6, some 7, some 8, some 9, none, none, none] from rfl]
  simp only [List.mapIdx_cons, List.mapIdx_nil, Function.comp_def, Nat.zero_add, Nat.reduceAdd]
  rfl
set_option maxRecDepth 100000 in
theorem sc_3 (D : va_G) (q r sa sv : Nat → Nat) (tC : Nat → ClassId) (X : Nat × Nat × (Nat → Int32)) : ix_ce (st_E D q r sa sv tC X) mu0 3 = .inl (tC 0, 16, .inl (dpF 16)) := (ix_ce_arr (by decide +kernel)).trans rfl
set_option maxRecDepth 100000 in
theorem sc_4 (D : va_G) (q r sa sv : Nat → Nat) (tC : Nat → ClassId) (X : Nat × Nat × (Nat → Int32)) : ix_ce (st_E D q r sa sv tC X) mu0 4 = .inl (tC 0, 16, .inl (fun _ => 0)) := (ix_ce_arr (by decide +kernel)).trans rfl
set_option maxRecDepth 100000 in
theorem sc_5 (D : va_G) (q r sa sv : Nat → Nat) (tC : Nat → ClassId) (X : Nat × Nat × (Nat → Int32)) : ix_ce (st_E D q r sa sv tC X) mu0 5 = .inl (tC 0, 6, .inl (fun _ => 0)) := (ix_ce_arr (by decide +kernel)).trans rfl
set_option maxRecDepth 100000 in
theorem sc_6 (D : va_G) (q r sa sv : Nat → Nat) (tC : Nat → ClassId) (X : Nat × Nat × (Nat → Int32)) : ix_ce (st_E D q r sa sv tC X) mu0 6 = .inl (tC 0, 8, .inl (fun _ => 0)) := (ix_ce_arr (by decide +kernel)).trans rfl
set_option maxRecDepth 100000 in
theorem sc_7 (D : va_G) (q r sa sv : Nat → Nat) (tC : Nat → ClassId) (X : Nat × Nat × (Nat → Int32)) : ix_ce (st_E D q r sa sv tC X) mu0 7 = .inl (tC 0, 8, .inl (fun _ => 0)) := (ix_ce_arr (by decide +kernel)).trans rfl
set_option maxRecDepth 100000 in
theorem sc_8 (D : va_G) (q r sa sv : Nat → Nat) (tC : Nat → ClassId) (X : Nat × Nat × (Nat → Int32)) : ix_ce (st_E D q r sa sv tC X) mu0 8 = .inl (tC 0, 8, .inl (fun _ => 0)) := (ix_ce_arr (by decide +kernel)).trans rfl
set_option maxRecDepth 100000 in
theorem sc_9 (D : va_G) (q r sa sv : Nat → Nat) (tC : Nat → ClassId) (X : Nat × Nat × (Nat → Int32)) : ix_ce (st_E D q r sa sv tC X) mu0 9 = .inl (tC 0, 8, .inl (fun _ => 0)) := (ix_ce_arr (by decide +kernel)).trans rfl
set_option maxRecDepth 100000 in
theorem sc_10 (D : va_G) (q r sa sv : Nat → Nat) (tC : Nat → ClassId) (X : Nat × Nat × (Nat → Int32)) : ix_ce (st_E D q r sa sv tC X) mu0 10 = .inr (0, [.ref (q 11), .ref (q 15)]) := by
  rw [ix_ce_obj (t := 0) (by decide +kernel) (by decide), show (ix_sh 10).2 = [some 11, some 15] from rfl]
  simp only [List.mapIdx_cons, List.mapIdx_nil, Function.comp_def, Nat.zero_add, Nat.reduceAdd]
  rfl
set_option maxRecDepth 100000 in
theorem sc_11 (D : va_G) (q r sa sv : Nat → Nat) (tC : Nat → ClassId) (X : Nat × Nat × (Nat → Int32)) : ix_ce (st_E D q r sa sv tC X) mu0 11 = .inr (6, [.ref (q 12), .ref (q 14)]) := by
  rw [ix_ce_obj (t := 6) (by decide +kernel) (by decide), show (ix_sh 11).2 = [some 12, some 14] from rfl]
  simp only [List.mapIdx_cons, List.mapIdx_nil, Function.comp_def, Nat.zero_add, Nat.reduceAdd]
  rfl
set_option maxRecDepth 100000 in
theorem sc_12 (D : va_G) (q r sa sv : Nat → Nat) (tC : Nat → ClassId) (X : Nat × Nat × (Nat → Int32)) : ix_ce (st_E D q r sa sv tC X) mu0 12 = .inr (3, [.ref (q 13), .int 0]) := by
  rw [ix_ce_obj (t := 3) (by decide +kernel) (by decide), show (ix_sh 12).2 = [some 13, none] from rfl]
  simp only [List.mapIdx_cons, List.mapIdx_nil, Function.comp_def, Nat.zero_add, Nat.reduceAdd]
  rfl
set_option maxRecDepth 100000 in
theorem sc_13 (D : va_G) (q r sa sv : Nat → Nat) (tC : Nat → ClassId) (X : Nat × Nat × (Nat → Int32)) : ix_ce (st_E D q r sa sv tC X) mu0 13 = .inl (tC 0, 50, .inl (fun _ => 0)) := (ix_ce_arr (by decide +kernel)).trans rfl
set_option maxRecDepth 100000 in
theorem sc_14 (D : va_G) (q r sa sv : Nat → Nat) (tC : Nat → ClassId) (X : Nat × Nat × (Nat → Int32)) : ix_ce (st_E D q r sa sv tC X) mu0 14 = .inl (tC 0, 50, .inl (fun _ => 0)) := (ix_ce_arr (by decide +kernel)).trans rfl
set_option maxRecDepth 100000 in
theorem sc_15 (D : va_G) (q r sa sv : Nat → Nat) (tC : Nat → ClassId) (X : Nat × Nat × (Nat → Int32)) : ix_ce (st_E D q r sa sv tC X) mu0 15 = .inr (6, [.ref (q 16), .ref (q 18)]) := by
  rw [ix_ce_obj (t := 6) (by decide +kernel) (by decide), show (ix_sh 15).2 = [some 16, some 18] from rfl]
  simp only [List.mapIdx_cons, List.mapIdx_nil, Function.comp_def, Nat.zero_add, Nat.reduceAdd]
  rfl
set_option maxRecDepth 100000 in
theorem sc_16 (D : va_G) (q r sa sv : Nat → Nat) (tC : Nat → ClassId) (X : Nat × Nat × (Nat → Int32)) : ix_ce (st_E D q r sa sv tC X) mu0 16 = .inr (3, [.ref (q 17), .int 0]) := by
  rw [ix_ce_obj (t := 3) (by decide +kernel) (by decide), show (ix_sh 16).2 = [some 17, none] from rfl]
  simp only [List.mapIdx_cons, List.mapIdx_nil, Function.comp_def, Nat.zero_add, Nat.reduceAdd]
  rfl
set_option maxRecDepth 100000 in
theorem sc_17 (D : va_G) (q r sa sv : Nat → Nat) (tC : Nat → ClassId) (X : Nat × Nat × (Nat → Int32)) : ix_ce (st_E D q r sa sv tC X) mu0 17 = .inl (tC 0, 50, .inl (fun _ => 0)) := (ix_ce_arr (by decide +kernel)).trans rfl
set_option maxRecDepth 100000 in
theorem sc_18 (D : va_G) (q r sa sv : Nat → Nat) (tC : Nat → ClassId) (X : Nat × Nat × (Nat → Int32)) : ix_ce (st_E D q r sa sv tC X) mu0 18 = .inl (tC 0, 50, .inl (fun _ => 0)) := (ix_ce_arr (by decide +kernel)).trans rfl
set_option maxRecDepth 100000 in
theorem sc_19 (D : va_G) (q r sa sv : Nat → Nat) (tC : Nat → ClassId) (X : Nat × Nat × (Nat → Int32)) : ix_ce (st_E D q r sa sv tC X) mu0 19 = .inr (3, [.ref (q 20), .int 0]) := by
  rw [ix_ce_obj (t := 3) (by decide +kernel) (by decide), show (ix_sh 19).2 = [some 20, none] from rfl]
  simp only [List.mapIdx_cons, List.mapIdx_nil, Function.comp_def, Nat.zero_add, Nat.reduceAdd]
  rfl
set_option maxRecDepth 100000 in
theorem sc_20 (D : va_G) (q r sa sv : Nat → Nat) (tC : Nat → ClassId) (X : Nat × Nat × (Nat → Int32)) : ix_ce (st_E D q r sa sv tC X) mu0 20 = .inl (tC 0, 50, .inl (fun _ => 0)) := (ix_ce_arr (by decide +kernel)).trans rfl
set_option maxRecDepth 100000 in
theorem sc_21 (D : va_G) (q r sa sv : Nat → Nat) (tC : Nat → ClassId) (X : Nat × Nat × (Nat → Int32)) : ix_ce (st_E D q r sa sv tC X) mu0 21 = .inr (3, [.ref (q 22), .int 0]) := by
  rw [ix_ce_obj (t := 3) (by decide +kernel) (by decide), show (ix_sh 21).2 = [some 22, none] from rfl]
  simp only [List.mapIdx_cons, List.mapIdx_nil, Function.comp_def, Nat.zero_add, Nat.reduceAdd]
  rfl
set_option maxRecDepth 100000 in
theorem sc_22 (D : va_G) (q r sa sv : Nat → Nat) (tC : Nat → ClassId) (X : Nat × Nat × (Nat → Int32)) : ix_ce (st_E D q r sa sv tC X) mu0 22 = .inl (tC 0, 20, .inl (fun _ => 0)) := (ix_ce_arr (by decide +kernel)).trans rfl
set_option maxRecDepth 100000 in
theorem sc_23 (D : va_G) (q r sa sv : Nat → Nat) (tC : Nat → ClassId) (X : Nat × Nat × (Nat → Int32)) : ix_ce (st_E D q r sa sv tC X) mu0 23 = .inl (tC 0, 6, .inl (wtF 6)) := (ix_ce_arr (by decide +kernel)).trans rfl
set_option maxRecDepth 100000 in
theorem sc_24 (D : va_G) (q r sa sv : Nat → Nat) (tC : Nat → ClassId) (X : Nat × Nat × (Nat → Int32)) : ix_ce (st_E D q r sa sv tC X) mu0 24 = .inr (5, [.ref (q 25), .ref (q 33), .ref (q 42), .ref (q 44), .ref (q 46), .int 1]) := by
  rw [ix_ce_obj (t := 5) (by decide +kernel) (by decide), show (ix_sh 24).2 = [some 25, some 33, some 42, some 44, some 46, none] from rfl]
  simp only [List.mapIdx_cons, List.mapIdx_nil, Function.comp_def, Nat.zero_add, Nat.reduceAdd]
  rfl
set_option maxRecDepth 100000 in
theorem sc_25 (D : va_G) (q r sa sv : Nat → Nat) (tC : Nat → ClassId) (X : Nat × Nat × (Nat → Int32)) : ix_ce (st_E D q r sa sv tC X) mu0 25 = .inr (8, [.ref (q 26), .ref (q 27), .ref (q 28), .ref (q 29), .ref (q 30), .ref (q 31), .ref (q 32), .int 0, .int 0, .int 14]) := by
  rw [ix_ce_obj (t := 8) (by decide +kernel) (by decide), show (ix_sh 25).2 = [some 26, some 27, some 28, some 29, some 30, some 31, some 32, none, none, none] from rfl]
  simp only [List.mapIdx_cons, List.mapIdx_nil, Function.comp_def, Nat.zero_add, Nat.reduceAdd]
  rfl
set_option maxRecDepth 100000 in
theorem sc_26 (D : va_G) (q r sa sv : Nat → Nat) (tC : Nat → ClassId) (X : Nat × Nat × (Nat → Int32)) : ix_ce (st_E D q r sa sv tC X) mu0 26 = .inl (tC 0, 16, .inl (dpF 16)) := (ix_ce_arr (by decide +kernel)).trans rfl
set_option maxRecDepth 100000 in
theorem sc_27 (D : va_G) (q r sa sv : Nat → Nat) (tC : Nat → ClassId) (X : Nat × Nat × (Nat → Int32)) : ix_ce (st_E D q r sa sv tC X) mu0 27 = .inl (tC 0, 16, .inl (fun _ => 0)) := (ix_ce_arr (by decide +kernel)).trans rfl
set_option maxRecDepth 100000 in
theorem sc_28 (D : va_G) (q r sa sv : Nat → Nat) (tC : Nat → ClassId) (X : Nat × Nat × (Nat → Int32)) : ix_ce (st_E D q r sa sv tC X) mu0 28 = .inl (tC 0, 6, .inl (fun _ => 0)) := (ix_ce_arr (by decide +kernel)).trans rfl
set_option maxRecDepth 100000 in
theorem sc_29 (D : va_G) (q r sa sv : Nat → Nat) (tC : Nat → ClassId) (X : Nat × Nat × (Nat → Int32)) : ix_ce (st_E D q r sa sv tC X) mu0 29 = .inl (tC 0, 8, .inl (fun _ => 0)) := (ix_ce_arr (by decide +kernel)).trans rfl
set_option maxRecDepth 100000 in
theorem sc_30 (D : va_G) (q r sa sv : Nat → Nat) (tC : Nat → ClassId) (X : Nat × Nat × (Nat → Int32)) : ix_ce (st_E D q r sa sv tC X) mu0 30 = .inl (tC 0, 8, .inl (fun _ => 0)) := (ix_ce_arr (by decide +kernel)).trans rfl
set_option maxRecDepth 100000 in
theorem sc_31 (D : va_G) (q r sa sv : Nat → Nat) (tC : Nat → ClassId) (X : Nat × Nat × (Nat → Int32)) : ix_ce (st_E D q r sa sv tC X) mu0 31 = .inl (tC 0, 8, .inl (fun _ => 0)) := (ix_ce_arr (by decide +kernel)).trans rfl
set_option maxRecDepth 100000 in
theorem sc_32 (D : va_G) (q r sa sv : Nat → Nat) (tC : Nat → ClassId) (X : Nat × Nat × (Nat → Int32)) : ix_ce (st_E D q r sa sv tC X) mu0 32 = .inl (tC 0, 8, .inl (fun _ => 0)) := (ix_ce_arr (by decide +kernel)).trans rfl
set_option maxRecDepth 100000 in
theorem sc_33 (D : va_G) (q r sa sv : Nat → Nat) (tC : Nat → ClassId) (X : Nat × Nat × (Nat → Int32)) : ix_ce (st_E D q r sa sv tC X) mu0 33 = .inr (0, [.ref (q 34), .ref (q 38)]) := by
  rw [ix_ce_obj (t := 0) (by decide +kernel) (by decide), show (ix_sh 33).2 = [some 34, some 38] from rfl]
  simp only [List.mapIdx_cons, List.mapIdx_nil, Function.comp_def, Nat.zero_add, Nat.reduceAdd]
  rfl
set_option maxRecDepth 100000 in
theorem sc_34 (D : va_G) (q r sa sv : Nat → Nat) (tC : Nat → ClassId) (X : Nat × Nat × (Nat → Int32)) : ix_ce (st_E D q r sa sv tC X) mu0 34 = .inr (6, [.ref (q 35), .ref (q 37)]) := by
  rw [ix_ce_obj (t := 6) (by decide +kernel) (by decide), show (ix_sh 34).2 = [some 35, some 37] from rfl]
  simp only [List.mapIdx_cons, List.mapIdx_nil, Function.comp_def, Nat.zero_add, Nat.reduceAdd]
  rfl
set_option maxRecDepth 100000 in
theorem sc_35 (D : va_G) (q r sa sv : Nat → Nat) (tC : Nat → ClassId) (X : Nat × Nat × (Nat → Int32)) : ix_ce (st_E D q r sa sv tC X) mu0 35 = .inr (3, [.ref (q 36), .int 0]) := by
  rw [ix_ce_obj (t := 3) (by decide +kernel) (by decide), show (ix_sh 35).2 = [some 36, none] from rfl]
  simp only [List.mapIdx_cons, List.mapIdx_nil, Function.comp_def, Nat.zero_add, Nat.reduceAdd]
  rfl
set_option maxRecDepth 100000 in
theorem sc_36 (D : va_G) (q r sa sv : Nat → Nat) (tC : Nat → ClassId) (X : Nat × Nat × (Nat → Int32)) : ix_ce (st_E D q r sa sv tC X) mu0 36 = .inl (tC 0, 50, .inl (fun _ => 0)) := (ix_ce_arr (by decide +kernel)).trans rfl
set_option maxRecDepth 100000 in
theorem sc_37 (D : va_G) (q r sa sv : Nat → Nat) (tC : Nat → ClassId) (X : Nat × Nat × (Nat → Int32)) : ix_ce (st_E D q r sa sv tC X) mu0 37 = .inl (tC 0, 50, .inl (fun _ => 0)) := (ix_ce_arr (by decide +kernel)).trans rfl
set_option maxRecDepth 100000 in
theorem sc_38 (D : va_G) (q r sa sv : Nat → Nat) (tC : Nat → ClassId) (X : Nat × Nat × (Nat → Int32)) : ix_ce (st_E D q r sa sv tC X) mu0 38 = .inr (6, [.ref (q 39), .ref (q 41)]) := by
  rw [ix_ce_obj (t := 6) (by decide +kernel) (by decide), show (ix_sh 38).2 = [some 39, some 41] from rfl]
  simp only [List.mapIdx_cons, List.mapIdx_nil, Function.comp_def, Nat.zero_add, Nat.reduceAdd]
  rfl
set_option maxRecDepth 100000 in
theorem sc_39 (D : va_G) (q r sa sv : Nat → Nat) (tC : Nat → ClassId) (X : Nat × Nat × (Nat → Int32)) : ix_ce (st_E D q r sa sv tC X) mu0 39 = .inr (3, [.ref (q 40), .int 0]) := by
  rw [ix_ce_obj (t := 3) (by decide +kernel) (by decide), show (ix_sh 39).2 = [some 40, none] from rfl]
  simp only [List.mapIdx_cons, List.mapIdx_nil, Function.comp_def, Nat.zero_add, Nat.reduceAdd]
  rfl
set_option maxRecDepth 100000 in
theorem sc_40 (D : va_G) (q r sa sv : Nat → Nat) (tC : Nat → ClassId) (X : Nat × Nat × (Nat → Int32)) : ix_ce (st_E D q r sa sv tC X) mu0 40 = .inl (tC 0, 50, .inl (fun _ => 0)) := (ix_ce_arr (by decide +kernel)).trans rfl
set_option maxRecDepth 100000 in
theorem sc_41 (D : va_G) (q r sa sv : Nat → Nat) (tC : Nat → ClassId) (X : Nat × Nat × (Nat → Int32)) : ix_ce (st_E D q r sa sv tC X) mu0 41 = .inl (tC 0, 50, .inl (fun _ => 0)) := (ix_ce_arr (by decide +kernel)).trans rfl
set_option maxRecDepth 100000 in
theorem sc_42 (D : va_G) (q r sa sv : Nat → Nat) (tC : Nat → ClassId) (X : Nat × Nat × (Nat → Int32)) : ix_ce (st_E D q r sa sv tC X) mu0 42 = .inr (3, [.ref (q 43), .int 0]) := by
  rw [ix_ce_obj (t := 3) (by decide +kernel) (by decide), show (ix_sh 42).2 = [some 43, none] from rfl]
  simp only [List.mapIdx_cons, List.mapIdx_nil, Function.comp_def, Nat.zero_add, Nat.reduceAdd]
  rfl
set_option maxRecDepth 100000 in
theorem sc_43 (D : va_G) (q r sa sv : Nat → Nat) (tC : Nat → ClassId) (X : Nat × Nat × (Nat → Int32)) : ix_ce (st_E D q r sa sv tC X) mu0 43 = .inl (tC 0, 50, .inl (fun _ => 0)) := (ix_ce_arr (by decide +kernel)).trans rfl
set_option maxRecDepth 100000 in
theorem sc_44 (D : va_G) (q r sa sv : Nat → Nat) (tC : Nat → ClassId) (X : Nat × Nat × (Nat → Int32)) : ix_ce (st_E D q r sa sv tC X) mu0 44 = .inr (3, [.ref (q 45), .int 0]) := by
  rw [ix_ce_obj (t := 3) (by decide +kernel) (by decide), show (ix_sh 44).2 = [some 45, none] from rfl]
  simp only [List.mapIdx_cons, List.mapIdx_nil, Function.comp_def, Nat.zero_add, Nat.reduceAdd]
  rfl
set_option maxRecDepth 100000 in
theorem sc_45 (D : va_G) (q r sa sv : Nat → Nat) (tC : Nat → ClassId) (X : Nat × Nat × (Nat → Int32)) : ix_ce (st_E D q r sa sv tC X) mu0 45 = .inl (tC 0, 20, .inl (fun _ => 0)) := (ix_ce_arr (by decide +kernel)).trans rfl
set_option maxRecDepth 100000 in
theorem sc_46 (D : va_G) (q r sa sv : Nat → Nat) (tC : Nat → ClassId) (X : Nat × Nat × (Nat → Int32)) : ix_ce (st_E D q r sa sv tC X) mu0 46 = .inl (tC 0, 6, .inl (wtF 6)) := (ix_ce_arr (by decide +kernel)).trans rfl
set_option maxRecDepth 100000 in
theorem sc_48 (D : va_G) (q r sa sv : Nat → Nat) (tC : Nat → ClassId) (X : Nat × Nat × (Nat → Int32)) : ix_ce (st_E D q r sa sv tC X) mu0 48 = .inr (8, [.ref (q 49), .ref (q 50), .ref (q 51), .ref (q 52), .ref (q 53), .ref (q 54), .ref (q 55), .int 0, .int 0, .int 14]) := by
  rw [ix_ce_obj (t := 8) (by decide +kernel) (by decide), show (ix_sh 48).2 = [some 49, some 50, some 51, some 52, some 53, some 54, some 55, none, none, none] from rfl]
  simp only [List.mapIdx_cons, List.mapIdx_nil, Function.comp_def, Nat.zero_add, Nat.reduceAdd]
  rfl
set_option maxRecDepth 100000 in
theorem sc_49 (D : va_G) (q r sa sv : Nat → Nat) (tC : Nat → ClassId) (X : Nat × Nat × (Nat → Int32)) : ix_ce (st_E D q r sa sv tC X) mu0 49 = .inl (tC 0, 16, .inl (dpF 16)) := (ix_ce_arr (by decide +kernel)).trans rfl
set_option maxRecDepth 100000 in
theorem sc_50 (D : va_G) (q r sa sv : Nat → Nat) (tC : Nat → ClassId) (X : Nat × Nat × (Nat → Int32)) : ix_ce (st_E D q r sa sv tC X) mu0 50 = .inl (tC 0, 16, .inl (fun _ => 0)) := (ix_ce_arr (by decide +kernel)).trans rfl
set_option maxRecDepth 100000 in
theorem sc_51 (D : va_G) (q r sa sv : Nat → Nat) (tC : Nat → ClassId) (X : Nat × Nat × (Nat → Int32)) : ix_ce (st_E D q r sa sv tC X) mu0 51 = .inl (tC 0, 6, .inl (fun _ => 0)) := (ix_ce_arr (by decide +kernel)).trans rfl
set_option maxRecDepth 100000 in
theorem sc_52 (D : va_G) (q r sa sv : Nat → Nat) (tC : Nat → ClassId) (X : Nat × Nat × (Nat → Int32)) : ix_ce (st_E D q r sa sv tC X) mu0 52 = .inl (tC 0, 8, .inl (fun _ => 0)) := (ix_ce_arr (by decide +kernel)).trans rfl
set_option maxRecDepth 100000 in
theorem sc_53 (D : va_G) (q r sa sv : Nat → Nat) (tC : Nat → ClassId) (X : Nat × Nat × (Nat → Int32)) : ix_ce (st_E D q r sa sv tC X) mu0 53 = .inl (tC 0, 8, .inl (fun _ => 0)) := (ix_ce_arr (by decide +kernel)).trans rfl
set_option maxRecDepth 100000 in
theorem sc_54 (D : va_G) (q r sa sv : Nat → Nat) (tC : Nat → ClassId) (X : Nat × Nat × (Nat → Int32)) : ix_ce (st_E D q r sa sv tC X) mu0 54 = .inl (tC 0, 8, .inl (fun _ => 0)) := (ix_ce_arr (by decide +kernel)).trans rfl
set_option maxRecDepth 100000 in
theorem sc_55 (D : va_G) (q r sa sv : Nat → Nat) (tC : Nat → ClassId) (X : Nat × Nat × (Nat → Int32)) : ix_ce (st_E D q r sa sv tC X) mu0 55 = .inl (tC 0, 8, .inl (fun _ => 0)) := (ix_ce_arr (by decide +kernel)).trans rfl
set_option maxRecDepth 100000 in
theorem sc_56 (D : va_G) (q r sa sv : Nat → Nat) (tC : Nat → ClassId) (X : Nat × Nat × (Nat → Int32)) : ix_ce (st_E D q r sa sv tC X) mu0 56 = .inr (8, [.ref (q 57), .ref (q 58), .ref (q 59), .ref (q 60), .ref (q 61), .ref (q 62), .ref (q 63), .int 0, .int 0, .int 14]) := by
  rw [ix_ce_obj (t := 8) (by decide +kernel) (by decide), show (ix_sh 56).2 = [some 57, some 58, some 59, some 60, some 61, some 62, some 63, none, none, none] from rfl]
  simp only [List.mapIdx_cons, List.mapIdx_nil, Function.comp_def, Nat.zero_add, Nat.reduceAdd]
  rfl
set_option maxRecDepth 100000 in
theorem sc_57 (D : va_G) (q r sa sv : Nat → Nat) (tC : Nat → ClassId) (X : Nat × Nat × (Nat → Int32)) : ix_ce (st_E D q r sa sv tC X) mu0 57 = .inl (tC 0, 16, .inl (dpF 16)) := (ix_ce_arr (by decide +kernel)).trans rfl
set_option maxRecDepth 100000 in
theorem sc_58 (D : va_G) (q r sa sv : Nat → Nat) (tC : Nat → ClassId) (X : Nat × Nat × (Nat → Int32)) : ix_ce (st_E D q r sa sv tC X) mu0 58 = .inl (tC 0, 16, .inl (fun _ => 0)) := (ix_ce_arr (by decide +kernel)).trans rfl
set_option maxRecDepth 100000 in
theorem sc_59 (D : va_G) (q r sa sv : Nat → Nat) (tC : Nat → ClassId) (X : Nat × Nat × (Nat → Int32)) : ix_ce (st_E D q r sa sv tC X) mu0 59 = .inl (tC 0, 6, .inl (fun _ => 0)) := (ix_ce_arr (by decide +kernel)).trans rfl
set_option maxRecDepth 100000 in
theorem sc_60 (D : va_G) (q r sa sv : Nat → Nat) (tC : Nat → ClassId) (X : Nat × Nat × (Nat → Int32)) : ix_ce (st_E D q r sa sv tC X) mu0 60 = .inl (tC 0, 8, .inl (fun _ => 0)) := (ix_ce_arr (by decide +kernel)).trans rfl
set_option maxRecDepth 100000 in
theorem sc_61 (D : va_G) (q r sa sv : Nat → Nat) (tC : Nat → ClassId) (X : Nat × Nat × (Nat → Int32)) : ix_ce (st_E D q r sa sv tC X) mu0 61 = .inl (tC 0, 8, .inl (fun _ => 0)) := (ix_ce_arr (by decide +kernel)).trans rfl
set_option maxRecDepth 100000 in
theorem sc_62 (D : va_G) (q r sa sv : Nat → Nat) (tC : Nat → ClassId) (X : Nat × Nat × (Nat → Int32)) : ix_ce (st_E D q r sa sv tC X) mu0 62 = .inl (tC 0, 8, .inl (fun _ => 0)) := (ix_ce_arr (by decide +kernel)).trans rfl
set_option maxRecDepth 100000 in
theorem sc_63 (D : va_G) (q r sa sv : Nat → Nat) (tC : Nat → ClassId) (X : Nat × Nat × (Nat → Int32)) : ix_ce (st_E D q r sa sv tC X) mu0 63 = .inl (tC 0, 8, .inl (fun _ => 0)) := (ix_ce_arr (by decide +kernel)).trans rfl
set_option maxRecDepth 100000 in
theorem sc_64 (D : va_G) (q r sa sv : Nat → Nat) (tC : Nat → ClassId) (X : Nat × Nat × (Nat → Int32)) : ix_ce (st_E D q r sa sv tC X) mu0 64 = .inr (8, [.ref (q 65), .ref (q 66), .ref (q 67), .ref (q 68), .ref (q 69), .ref (q 70), .ref (q 71), .int 0, .int 0, .int 14]) := by
  rw [ix_ce_obj (t := 8) (by decide +kernel) (by decide), show (ix_sh 64).2 = [some 65, some 66, some 67, some 68, some 69, some 70, some 71, none, none, none] from rfl]
  simp only [List.mapIdx_cons, List.mapIdx_nil, Function.comp_def, Nat.zero_add, Nat.reduceAdd]
  rfl
set_option maxRecDepth 100000 in
theorem sc_65 (D : va_G) (q r sa sv : Nat → Nat) (tC : Nat → ClassId) (X : Nat × Nat × (Nat → Int32)) : ix_ce (st_E D q r sa sv tC X) mu0 65 = .inl (tC 0, 16, .inl (dpF 16)) := (ix_ce_arr (by decide +kernel)).trans rfl
set_option maxRecDepth 100000 in
theorem sc_66 (D : va_G) (q r sa sv : Nat → Nat) (tC : Nat → ClassId) (X : Nat × Nat × (Nat → Int32)) : ix_ce (st_E D q r sa sv tC X) mu0 66 = .inl (tC 0, 16, .inl (fun _ => 0)) := (ix_ce_arr (by decide +kernel)).trans rfl
set_option maxRecDepth 100000 in
theorem sc_67 (D : va_G) (q r sa sv : Nat → Nat) (tC : Nat → ClassId) (X : Nat × Nat × (Nat → Int32)) : ix_ce (st_E D q r sa sv tC X) mu0 67 = .inl (tC 0, 6, .inl (fun _ => 0)) := (ix_ce_arr (by decide +kernel)).trans rfl
set_option maxRecDepth 100000 in
theorem sc_68 (D : va_G) (q r sa sv : Nat → Nat) (tC : Nat → ClassId) (X : Nat × Nat × (Nat → Int32)) : ix_ce (st_E D q r sa sv tC X) mu0 68 = .inl (tC 0, 8, .inl (fun _ => 0)) := (ix_ce_arr (by decide +kernel)).trans rfl
set_option maxRecDepth 100000 in
theorem sc_69 (D : va_G) (q r sa sv : Nat → Nat) (tC : Nat → ClassId) (X : Nat × Nat × (Nat → Int32)) : ix_ce (st_E D q r sa sv tC X) mu0 69 = .inl (tC 0, 8, .inl (fun _ => 0)) := (ix_ce_arr (by decide +kernel)).trans rfl
set_option maxRecDepth 100000 in
theorem sc_70 (D : va_G) (q r sa sv : Nat → Nat) (tC : Nat → ClassId) (X : Nat × Nat × (Nat → Int32)) : ix_ce (st_E D q r sa sv tC X) mu0 70 = .inl (tC 0, 8, .inl (fun _ => 0)) := (ix_ce_arr (by decide +kernel)).trans rfl
set_option maxRecDepth 100000 in
theorem sc_71 (D : va_G) (q r sa sv : Nat → Nat) (tC : Nat → ClassId) (X : Nat × Nat × (Nat → Int32)) : ix_ce (st_E D q r sa sv tC X) mu0 71 = .inl (tC 0, 8, .inl (fun _ => 0)) := (ix_ce_arr (by decide +kernel)).trans rfl
set_option maxRecDepth 100000 in
theorem sc_72 (D : va_G) (q r sa sv : Nat → Nat) (tC : Nat → ClassId) (X : Nat × Nat × (Nat → Int32)) : ix_ce (st_E D q r sa sv tC X) mu0 72 = .inr (8, [.ref (q 73), .ref (q 74), .ref (q 75), .ref (q 76), .ref (q 77), .ref (q 78), .ref (q 79), .int 0, .int 0, .int 14]) := by
  rw [ix_ce_obj (t := 8) (by decide +kernel) (by decide), show (ix_sh 72).2 = [some 73, some 74, some 75, some 76, some 77, some 78, some 79, none, none, none] from rfl]
  simp only [List.mapIdx_cons, List.mapIdx_nil, Function.comp_def, Nat.zero_add, Nat.reduceAdd]
  rfl
set_option maxRecDepth 100000 in
theorem sc_73 (D : va_G) (q r sa sv : Nat → Nat) (tC : Nat → ClassId) (X : Nat × Nat × (Nat → Int32)) : ix_ce (st_E D q r sa sv tC X) mu0 73 = .inl (tC 0, 16, .inl (dpF 16)) := (ix_ce_arr (by decide +kernel)).trans rfl
set_option maxRecDepth 100000 in
theorem sc_74 (D : va_G) (q r sa sv : Nat → Nat) (tC : Nat → ClassId) (X : Nat × Nat × (Nat → Int32)) : ix_ce (st_E D q r sa sv tC X) mu0 74 = .inl (tC 0, 16, .inl (fun _ => 0)) := (ix_ce_arr (by decide +kernel)).trans rfl
set_option maxRecDepth 100000 in
theorem sc_75 (D : va_G) (q r sa sv : Nat → Nat) (tC : Nat → ClassId) (X : Nat × Nat × (Nat → Int32)) : ix_ce (st_E D q r sa sv tC X) mu0 75 = .inl (tC 0, 6, .inl (fun _ => 0)) := (ix_ce_arr (by decide +kernel)).trans rfl
set_option maxRecDepth 100000 in
theorem sc_76 (D : va_G) (q r sa sv : Nat → Nat) (tC : Nat → ClassId) (X : Nat × Nat × (Nat → Int32)) : ix_ce (st_E D q r sa sv tC X) mu0 76 = .inl (tC 0, 8, .inl (fun _ => 0)) := (ix_ce_arr (by decide +kernel)).trans rfl
set_option maxRecDepth 100000 in
theorem sc_77 (D : va_G) (q r sa sv : Nat → Nat) (tC : Nat → ClassId) (X : Nat × Nat × (Nat → Int32)) : ix_ce (st_E D q r sa sv tC X) mu0 77 = .inl (tC 0, 8, .inl (fun _ => 0)) := (ix_ce_arr (by decide +kernel)).trans rfl
set_option maxRecDepth 100000 in
theorem sc_78 (D : va_G) (q r sa sv : Nat → Nat) (tC : Nat → ClassId) (X : Nat × Nat × (Nat → Int32)) : ix_ce (st_E D q r sa sv tC X) mu0 78 = .inl (tC 0, 8, .inl (fun _ => 0)) := (ix_ce_arr (by decide +kernel)).trans rfl
set_option maxRecDepth 100000 in
theorem sc_79 (D : va_G) (q r sa sv : Nat → Nat) (tC : Nat → ClassId) (X : Nat × Nat × (Nat → Int32)) : ix_ce (st_E D q r sa sv tC X) mu0 79 = .inl (tC 0, 8, .inl (fun _ => 0)) := (ix_ce_arr (by decide +kernel)).trans rfl
set_option maxRecDepth 100000 in
theorem sc_80 (D : va_G) (q r sa sv : Nat → Nat) (tC : Nat → ClassId) (X : Nat × Nat × (Nat → Int32)) : ix_ce (st_E D q r sa sv tC X) mu0 80 = .inr (8, [.ref (q 81), .ref (q 82), .ref (q 83), .ref (q 84), .ref (q 85), .ref (q 86), .ref (q 87), .int 0, .int 0, .int 14]) := by
  rw [ix_ce_obj (t := 8) (by decide +kernel) (by decide), show (ix_sh 80).2 = [some 81, some 82, some 83, some 84, some 85, some 86, some 87, none, none, none] from rfl]
  simp only [List.mapIdx_cons, List.mapIdx_nil, Function.comp_def, Nat.zero_add, Nat.reduceAdd]
  rfl
set_option maxRecDepth 100000 in
theorem sc_81 (D : va_G) (q r sa sv : Nat → Nat) (tC : Nat → ClassId) (X : Nat × Nat × (Nat → Int32)) : ix_ce (st_E D q r sa sv tC X) mu0 81 = .inl (tC 0, 16, .inl (dpF 16)) := (ix_ce_arr (by decide +kernel)).trans rfl
set_option maxRecDepth 100000 in
theorem sc_82 (D : va_G) (q r sa sv : Nat → Nat) (tC : Nat → ClassId) (X : Nat × Nat × (Nat → Int32)) : ix_ce (st_E D q r sa sv tC X) mu0 82 = .inl (tC 0, 16, .inl (fun _ => 0)) := (ix_ce_arr (by decide +kernel)).trans rfl
set_option maxRecDepth 100000 in
theorem sc_83 (D : va_G) (q r sa sv : Nat → Nat) (tC : Nat → ClassId) (X : Nat × Nat × (Nat → Int32)) : ix_ce (st_E D q r sa sv tC X) mu0 83 = .inl (tC 0, 6, .inl (fun _ => 0)) := (ix_ce_arr (by decide +kernel)).trans rfl
set_option maxRecDepth 100000 in
theorem sc_84 (D : va_G) (q r sa sv : Nat → Nat) (tC : Nat → ClassId) (X : Nat × Nat × (Nat → Int32)) : ix_ce (st_E D q r sa sv tC X) mu0 84 = .inl (tC 0, 8, .inl (fun _ => 0)) := (ix_ce_arr (by decide +kernel)).trans rfl
set_option maxRecDepth 100000 in
theorem sc_85 (D : va_G) (q r sa sv : Nat → Nat) (tC : Nat → ClassId) (X : Nat × Nat × (Nat → Int32)) : ix_ce (st_E D q r sa sv tC X) mu0 85 = .inl (tC 0, 8, .inl (fun _ => 0)) := (ix_ce_arr (by decide +kernel)).trans rfl
set_option maxRecDepth 100000 in
theorem sc_86 (D : va_G) (q r sa sv : Nat → Nat) (tC : Nat → ClassId) (X : Nat × Nat × (Nat → Int32)) : ix_ce (st_E D q r sa sv tC X) mu0 86 = .inl (tC 0, 8, .inl (fun _ => 0)) := (ix_ce_arr (by decide +kernel)).trans rfl
set_option maxRecDepth 100000 in
theorem sc_87 (D : va_G) (q r sa sv : Nat → Nat) (tC : Nat → ClassId) (X : Nat × Nat × (Nat → Int32)) : ix_ce (st_E D q r sa sv tC X) mu0 87 = .inl (tC 0, 8, .inl (fun _ => 0)) := (ix_ce_arr (by decide +kernel)).trans rfl
set_option maxRecDepth 100000 in
theorem sc_88 (D : va_G) (q r sa sv : Nat → Nat) (tC : Nat → ClassId) (X : Nat × Nat × (Nat → Int32)) : ix_ce (st_E D q r sa sv tC X) mu0 88 = .inr (2, [.ref (q 89), .ref (q 112), .ref (sa 0), .int 0]) := by
  rw [ix_ce_obj (t := 2) (by decide +kernel) (by decide), show (ix_sh 88).2 = [some 89, some 127, some 1000, none] from rfl]
  simp only [List.mapIdx_cons, List.mapIdx_nil, Function.comp_def, Nat.zero_add, Nat.reduceAdd]
  rfl
set_option maxRecDepth 100000 in
theorem sc_89 (D : va_G) (q r sa sv : Nat → Nat) (tC : Nat → ClassId) (X : Nat × Nat × (Nat → Int32)) : ix_ce (st_E D q r sa sv tC X) mu0 89 = .inr (6, [.ref (q 90), .ref (q 92)]) := by
  rw [ix_ce_obj (t := 6) (by decide +kernel) (by decide), show (ix_sh 89).2 = [some 90, some 92] from rfl]
  simp only [List.mapIdx_cons, List.mapIdx_nil, Function.comp_def, Nat.zero_add, Nat.reduceAdd]
  rfl
set_option maxRecDepth 100000 in
theorem sc_90 (D : va_G) (q r sa sv : Nat → Nat) (tC : Nat → ClassId) (X : Nat × Nat × (Nat → Int32)) : ix_ce (st_E D q r sa sv tC X) mu0 90 = .inr (3, [.ref (q 91), .int 0]) := by
  rw [ix_ce_obj (t := 3) (by decide +kernel) (by decide), show (ix_sh 90).2 = [some 91, none] from rfl]
  simp only [List.mapIdx_cons, List.mapIdx_nil, Function.comp_def, Nat.zero_add, Nat.reduceAdd]
  rfl
set_option maxRecDepth 100000 in
theorem sc_91 (D : va_G) (q r sa sv : Nat → Nat) (tC : Nat → ClassId) (X : Nat × Nat × (Nat → Int32)) : ix_ce (st_E D q r sa sv tC X) mu0 91 = .inl (tC 0, 50, .inl (fun _ => 0)) := (ix_ce_arr (by decide +kernel)).trans rfl
set_option maxRecDepth 100000 in
theorem sc_92 (D : va_G) (q r sa sv : Nat → Nat) (tC : Nat → ClassId) (X : Nat × Nat × (Nat → Int32)) : ix_ce (st_E D q r sa sv tC X) mu0 92 = .inl (tC 0, 50, .inl (fun _ => 0)) := (ix_ce_arr (by decide +kernel)).trans rfl
set_option maxRecDepth 100000 in
theorem sc_93 (D : va_G) (q r sa sv : Nat → Nat) (tC : Nat → ClassId) (X : Nat × Nat × (Nat → Int32)) : ix_ce (st_E D q r sa sv tC X) mu0 93 = .inr (7, [.ref (q 94), .int 0, .int 0, .int 0]) := by
  rw [ix_ce_obj (t := 7) (by decide +kernel) (by decide), show (ix_sh 93).2 = [some 94, none, none, none] from rfl]
  simp only [List.mapIdx_cons, List.mapIdx_nil, Function.comp_def, Nat.zero_add, Nat.reduceAdd]
  rfl
set_option maxRecDepth 100000 in
theorem sc_94 (D : va_G) (q r sa sv : Nat → Nat) (tC : Nat → ClassId) (X : Nat × Nat × (Nat → Int32)) : ix_ce (st_E D q r sa sv tC X) mu0 94 = .inr (3, [.ref (q 95), .int 0]) := by
  rw [ix_ce_obj (t := 3) (by decide +kernel) (by decide), show (ix_sh 94).2 = [some 95, none] from rfl]
  simp only [List.mapIdx_cons, List.mapIdx_nil, Function.comp_def, Nat.zero_add, Nat.reduceAdd]
  rfl
set_option maxRecDepth 100000 in
theorem sc_95 (D : va_G) (q r sa sv : Nat → Nat) (tC : Nat → ClassId) (X : Nat × Nat × (Nat → Int32)) : ix_ce (st_E D q r sa sv tC X) mu0 95 = .inl (tC 0, 40, .inl (fun _ => 0)) := (ix_ce_arr (by decide +kernel)).trans rfl
set_option maxRecDepth 100000 in
theorem sc_96 (D : va_G) (q r sa sv : Nat → Nat) (tC : Nat → ClassId) (X : Nat × Nat × (Nat → Int32)) : ix_ce (st_E D q r sa sv tC X) mu0 96 = .inr (1, [.ref (q 97), .ref (q 114), .ref (q 115), .int 0]) := by
  rw [ix_ce_obj (t := 1) (by decide +kernel) (by decide), show (ix_sh 96).2 = [some 97, some 129, some 130, none] from rfl]
  simp only [List.mapIdx_cons, List.mapIdx_nil, Function.comp_def, Nat.zero_add, Nat.reduceAdd]
  rfl
set_option maxRecDepth 100000 in
theorem sc_97 (D : va_G) (q r sa sv : Nat → Nat) (tC : Nat → ClassId) (X : Nat × Nat × (Nat → Int32)) : ix_ce (st_E D q r sa sv tC X) mu0 97 = .inl (tC 0, 1792, .inl (fun _ => 0)) := (ix_ce_arr (by decide +kernel)).trans rfl
set_option maxRecDepth 100000 in
theorem sc_99 (D : va_G) (q r sa sv : Nat → Nat) (tC : Nat → ClassId) (X : Nat × Nat × (Nat → Int32)) : ix_ce (st_E D q r sa sv tC X) mu0 99 = .inr (4, [.ref (q 100), .int 0]) := by
  rw [ix_ce_obj (t := 4) (by decide +kernel) (by decide), show (ix_sh 99).2 = [some 100, none] from rfl]
  simp only [List.mapIdx_cons, List.mapIdx_nil, Function.comp_def, Nat.zero_add, Nat.reduceAdd]
  rfl
set_option maxRecDepth 100000 in
theorem sc_100 (D : va_G) (q r sa sv : Nat → Nat) (tC : Nat → ClassId) (X : Nat × Nat × (Nat → Int32)) : ix_ce (st_E D q r sa sv tC X) mu0 100 = .inr (3, [.ref (q 101), .int 0]) := by
  rw [ix_ce_obj (t := 3) (by decide +kernel) (by decide), show (ix_sh 100).2 = [some 101, none] from rfl]
  simp only [List.mapIdx_cons, List.mapIdx_nil, Function.comp_def, Nat.zero_add, Nat.reduceAdd]
  rfl
set_option maxRecDepth 100000 in
theorem sc_101 (D : va_G) (q r sa sv : Nat → Nat) (tC : Nat → ClassId) (X : Nat × Nat × (Nat → Int32)) : ix_ce (st_E D q r sa sv tC X) mu0 101 = .inl (tC 0, 40, .inl (fun _ => 0)) := (ix_ce_arr (by decide +kernel)).trans rfl
set_option maxRecDepth 100000 in
theorem sc_102 (D : va_G) (q r sa sv : Nat → Nat) (tC : Nat → ClassId) (X : Nat × Nat × (Nat → Int32)) : ix_ce (st_E D q r sa sv tC X) mu0 102 = .inr (4, [.ref (q 103), .int 0]) := by
  rw [ix_ce_obj (t := 4) (by decide +kernel) (by decide), show (ix_sh 102).2 = [some 103, none] from rfl]
  simp only [List.mapIdx_cons, List.mapIdx_nil, Function.comp_def, Nat.zero_add, Nat.reduceAdd]
  rfl
set_option maxRecDepth 100000 in
theorem sc_103 (D : va_G) (q r sa sv : Nat → Nat) (tC : Nat → ClassId) (X : Nat × Nat × (Nat → Int32)) : ix_ce (st_E D q r sa sv tC X) mu0 103 = .inr (3, [.ref (q 104), .int 0]) := by
  rw [ix_ce_obj (t := 3) (by decide +kernel) (by decide), show (ix_sh 103).2 = [some 104, none] from rfl]
  simp only [List.mapIdx_cons, List.mapIdx_nil, Function.comp_def, Nat.zero_add, Nat.reduceAdd]
  rfl
set_option maxRecDepth 100000 in
theorem sc_104 (D : va_G) (q r sa sv : Nat → Nat) (tC : Nat → ClassId) (X : Nat × Nat × (Nat → Int32)) : ix_ce (st_E D q r sa sv tC X) mu0 104 = .inl (tC 0, 40, .inl (fun _ => 0)) := (ix_ce_arr (by decide +kernel)).trans rfl
set_option maxRecDepth 100000 in
theorem sc_105 (D : va_G) (q r sa sv : Nat → Nat) (tC : Nat → ClassId) (X : Nat × Nat × (Nat → Int32)) : ix_ce (st_E D q r sa sv tC X) mu0 105 = .inr (4, [.ref (q 106), .int 0]) := by
  rw [ix_ce_obj (t := 4) (by decide +kernel) (by decide), show (ix_sh 105).2 = [some 106, none] from rfl]
  simp only [List.mapIdx_cons, List.mapIdx_nil, Function.comp_def, Nat.zero_add, Nat.reduceAdd]
  rfl
set_option maxRecDepth 100000 in
theorem sc_106 (D : va_G) (q r sa sv : Nat → Nat) (tC : Nat → ClassId) (X : Nat × Nat × (Nat → Int32)) : ix_ce (st_E D q r sa sv tC X) mu0 106 = .inr (3, [.ref (q 107), .int 0]) := by
  rw [ix_ce_obj (t := 3) (by decide +kernel) (by decide), show (ix_sh 106).2 = [some 107, none] from rfl]
  simp only [List.mapIdx_cons, List.mapIdx_nil, Function.comp_def, Nat.zero_add, Nat.reduceAdd]
  rfl
set_option maxRecDepth 100000 in
theorem sc_107 (D : va_G) (q r sa sv : Nat → Nat) (tC : Nat → ClassId) (X : Nat × Nat × (Nat → Int32)) : ix_ce (st_E D q r sa sv tC X) mu0 107 = .inl (tC 0, 40, .inl (fun _ => 0)) := (ix_ce_arr (by decide +kernel)).trans rfl
set_option maxRecDepth 100000 in
theorem sc_108 (D : va_G) (q r sa sv : Nat → Nat) (tC : Nat → ClassId) (X : Nat × Nat × (Nat → Int32)) : ix_ce (st_E D q r sa sv tC X) mu0 108 = .inr (4, [.ref (q 109), .int 0]) := by
  rw [ix_ce_obj (t := 4) (by decide +kernel) (by decide), show (ix_sh 108).2 = [some 109, none] from rfl]
  simp only [List.mapIdx_cons, List.mapIdx_nil, Function.comp_def, Nat.zero_add, Nat.reduceAdd]
  rfl
set_option maxRecDepth 100000 in
theorem sc_109 (D : va_G) (q r sa sv : Nat → Nat) (tC : Nat → ClassId) (X : Nat × Nat × (Nat → Int32)) : ix_ce (st_E D q r sa sv tC X) mu0 109 = .inr (3, [.ref (q 110), .int 0]) := by
  rw [ix_ce_obj (t := 3) (by decide +kernel) (by decide), show (ix_sh 109).2 = [some 110, none] from rfl]
  simp only [List.mapIdx_cons, List.mapIdx_nil, Function.comp_def, Nat.zero_add, Nat.reduceAdd]
  rfl
set_option maxRecDepth 100000 in
theorem sc_110 (D : va_G) (q r sa sv : Nat → Nat) (tC : Nat → ClassId) (X : Nat × Nat × (Nat → Int32)) : ix_ce (st_E D q r sa sv tC X) mu0 110 = .inl (tC 0, 40, .inl (fun _ => 0)) := (ix_ce_arr (by decide +kernel)).trans rfl
set_option maxRecDepth 100000 in
theorem sc_111 (D : va_G) (q r sa sv : Nat → Nat) (tC : Nat → ClassId) (X : Nat × Nat × (Nat → Int32)) : ix_ce (st_E D q r sa sv tC X) mu0 111 = .inl (tC 0, 6, .inl (fun _ => 0)) := (ix_ce_arr (by decide +kernel)).trans rfl
set_option maxRecDepth 100000 in
theorem sc_112 (D : va_G) (q r sa sv : Nat → Nat) (tC : Nat → ClassId) (X : Nat × Nat × (Nat → Int32)) : ix_ce (st_E D q r sa sv tC X) mu0 112 = .inr (10, [.ref (r 1), .ref (r 2), .ref (r 3), .int 0, .ref (r 4), .int (-1), .int 0, .ref (r 5), .int 0, .int 0, .int 0, .int 0, .ref (r 6), .int 0, .ref (r 7), .ref (r 8), .ref (r 9), .ref (r 10), .int 0, .int 0, .int 0, .int 0, .ref (r 11), .ref (r 12), .ref (r 13), .ref (r 14)]) := by
  rw [ix_ce_obj (t := 10) (by decide +kernel) (by decide), show (ix_sh 112).2 = [some 113, some 114, some 115, none, some 116, none, none, some 117, none, none, none, none, some 118, none, some 119, some 120, some 121, some 122, none, none, none, none, some 123, some 124, some 125, some 126] from rfl]
  simp only [List.mapIdx_cons, List.mapIdx_nil, Function.comp_def, Nat.zero_add, Nat.reduceAdd]
  rfl
set_option maxRecDepth 100000 in
theorem sc_113 (D : va_G) (q r sa sv : Nat → Nat) (tC : Nat → ClassId) (X : Nat × Nat × (Nat → Int32)) : ix_ce (st_E D q r sa sv tC X) mu0 113 = .inl (tC 0, 256, .inl (nwW 6)) := (ix_ce_arr (by decide +kernel)).trans rfl
set_option maxRecDepth 100000 in
theorem sc_114 (D : va_G) (q r sa sv : Nat → Nat) (tC : Nat → ClassId) (X : Nat × Nat × (Nat → Int32)) : ix_ce (st_E D q r sa sv tC X) mu0 114 = .inl (tC 0, 256, .inl (fun _ => 0)) := (ix_ce_arr (by decide +kernel)).trans rfl
set_option maxRecDepth 100000 in
theorem sc_115 (D : va_G) (q r sa sv : Nat → Nat) (tC : Nat → ClassId) (X : Nat × Nat × (Nat → Int32)) : ix_ce (st_E D q r sa sv tC X) mu0 115 = .inl (tC 0, 256, .inl (fun _ => 0)) := (ix_ce_arr (by decide +kernel)).trans rfl
set_option maxRecDepth 100000 in
theorem sc_116 (D : va_G) (q r sa sv : Nat → Nat) (tC : Nat → ClassId) (X : Nat × Nat × (Nat → Int32)) : ix_ce (st_E D q r sa sv tC X) mu0 116 = .inl (tC 0, 6, .inl (fun _ => 0)) := (ix_ce_arr (by decide +kernel)).trans rfl
set_option maxRecDepth 100000 in
theorem sc_118 (D : va_G) (q r sa sv : Nat → Nat) (tC : Nat → ClassId) (X : Nat × Nat × (Nat → Int32)) : ix_ce (st_E D q r sa sv tC X) mu0 118 = .inl (tC 0, 60, .inl (fun _ => 0)) := (ix_ce_arr (by decide +kernel)).trans rfl
set_option maxRecDepth 100000 in
theorem sc_119 (D : va_G) (q r sa sv : Nat → Nat) (tC : Nat → ClassId) (X : Nat × Nat × (Nat → Int32)) : ix_ce (st_E D q r sa sv tC X) mu0 119 = .inl (tC 0, 4, .inl (fun _ => 0)) := (ix_ce_arr (by decide +kernel)).trans rfl
set_option maxRecDepth 100000 in
theorem sc_120 (D : va_G) (q r sa sv : Nat → Nat) (tC : Nat → ClassId) (X : Nat × Nat × (Nat → Int32)) : ix_ce (st_E D q r sa sv tC X) mu0 120 = .inl (tC 0, 60, .inl (fun _ => 0)) := (ix_ce_arr (by decide +kernel)).trans rfl
set_option maxRecDepth 100000 in
theorem sc_121 (D : va_G) (q r sa sv : Nat → Nat) (tC : Nat → ClassId) (X : Nat × Nat × (Nat → Int32)) : ix_ce (st_E D q r sa sv tC X) mu0 121 = .inl (tC 0, 1792, .inl (fun _ => 0)) := (ix_ce_arr (by decide +kernel)).trans rfl
set_option maxRecDepth 100000 in
theorem sc_122 (D : va_G) (q r sa sv : Nat → Nat) (tC : Nat → ClassId) (X : Nat × Nat × (Nat → Int32)) : ix_ce (st_E D q r sa sv tC X) mu0 122 = .inl (tC 0, 40, .inl (fun _ => 0)) := (ix_ce_arr (by decide +kernel)).trans rfl
set_option maxRecDepth 100000 in
theorem sc_123 (D : va_G) (q r sa sv : Nat → Nat) (tC : Nat → ClassId) (X : Nat × Nat × (Nat → Int32)) : ix_ce (st_E D q r sa sv tC X) mu0 123 = .inl (tC 0, 4, .inl (fun _ => 0)) := (ix_ce_arr (by decide +kernel)).trans rfl
set_option maxRecDepth 100000 in
theorem sc_124 (D : va_G) (q r sa sv : Nat → Nat) (tC : Nat → ClassId) (X : Nat × Nat × (Nat → Int32)) : ix_ce (st_E D q r sa sv tC X) mu0 124 = .inl (tC 0, 4, .inl (fun _ => 0)) := (ix_ce_arr (by decide +kernel)).trans rfl
set_option maxRecDepth 100000 in
theorem sc_125 (D : va_G) (q r sa sv : Nat → Nat) (tC : Nat → ClassId) (X : Nat × Nat × (Nat → Int32)) : ix_ce (st_E D q r sa sv tC X) mu0 125 = .inl (tC 0, 160, .inl (fun _ => 0)) := (ix_ce_arr (by decide +kernel)).trans rfl
set_option maxRecDepth 100000 in
theorem sc_126 (D : va_G) (q r sa sv : Nat → Nat) (tC : Nat → ClassId) (X : Nat × Nat × (Nat → Int32)) : ix_ce (st_E D q r sa sv tC X) mu0 126 = .inl (tC 0, 40, .inl (fun _ => 0)) := (ix_ce_arr (by decide +kernel)).trans rfl
set_option maxRecDepth 100000 in
theorem sc_127 (D : va_G) (q r sa sv : Nat → Nat) (tC : Nat → ClassId) (X : Nat × Nat × (Nat → Int32)) : ix_ce (st_E D q r sa sv tC X) mu0 127 = .inr (3, [.ref (q 113), .int 0]) := by
  rw [ix_ce_obj (t := 3) (by decide +kernel) (by decide), show (ix_sh 127).2 = [some 128, none] from rfl]
  simp only [List.mapIdx_cons, List.mapIdx_nil, Function.comp_def, Nat.zero_add, Nat.reduceAdd]
  rfl
set_option maxRecDepth 100000 in
theorem sc_128 (D : va_G) (q r sa sv : Nat → Nat) (tC : Nat → ClassId) (X : Nat × Nat × (Nat → Int32)) : ix_ce (st_E D q r sa sv tC X) mu0 128 = .inl (tC 0, 50, .inl (fun _ => 0)) := (ix_ce_arr (by decide +kernel)).trans rfl
set_option maxRecDepth 100000 in
theorem sc_129 (D : va_G) (q r sa sv : Nat → Nat) (tC : Nat → ClassId) (X : Nat × Nat × (Nat → Int32)) : ix_ce (st_E D q r sa sv tC X) mu0 129 = .inl (tC 0, 6, .inl (fun _ => 0)) := (ix_ce_arr (by decide +kernel)).trans rfl
set_option maxRecDepth 100000 in
theorem sc_130 (D : va_G) (q r sa sv : Nat → Nat) (tC : Nat → ClassId) (X : Nat × Nat × (Nat → Int32)) : ix_ce (st_E D q r sa sv tC X) mu0 130 = .inl (tC 0, 8, .inl (fun _ => 0)) := (ix_ce_arr (by decide +kernel)).trans rfl
set_option maxRecDepth 100000 in
theorem st_w_ad (D : va_G) (q r sa sv : Nat → Nat) (tC : Nat → ClassId) (X : Nat × Nat × (Nat → Int32)) : (st_w q r sa tC).map (fun e => e.1) = (List.range ix_N).map (st_E D q r sa sv tC X).2.1 := rfl
set_option maxRecDepth 100000 in
theorem sp_0 {D : va_G} {q r sa sv : Nat → Nat} {tC : Nat → ClassId} {X : Nat × Nat × (Nat → Int32)} {H : Heap} (h : va_P D vwCl (st_w q r sa tC) H) : va_at D vwCl ((st_E D q r sa sv tC X).2.1 0, ix_ce (st_E D q r sa sv tC X) mu0 0) H := by
  rw [sc_0]
  exact h 0 (q 0, .inr (9, [.ref (q 1), .ref (q 24), .int 0, .ref (q 47), .ref (q 88), .ref (q 93), .ref (q 96), .ref (q 98), .ref (q 111), .int 0, .int 0])) rfl
set_option maxRecDepth 100000 in
theorem sp_1 {D : va_G} {q r sa sv : Nat → Nat} {tC : Nat → ClassId} {X : Nat × Nat × (Nat → Int32)} {H : Heap} (h : va_P D vwCl (st_w q r sa tC) H) : va_at D vwCl ((st_E D q r sa sv tC X).2.1 1, ix_ce (st_E D q r sa sv tC X) mu0 1) H := by
  rw [sc_1]
  exact h 1 (q 1, .inr (5, [.ref (q 2), .ref (q 10), .ref (q 19), .ref (q 21), .ref (q 23), .int 1])) rfl
set_option maxRecDepth 100000 in
theorem sp_2 {D : va_G} {q r sa sv : Nat → Nat} {tC : Nat → ClassId} {X : Nat × Nat × (Nat → Int32)} {H : Heap} (h : va_P D vwCl (st_w q r sa tC) H) : va_at D vwCl ((st_E D q r sa sv tC X).2.1 2, ix_ce (st_E D q r sa sv tC X) mu0 2) H := by
  rw [sc_2]
  exact h 2 (q 2, .inr (8, [.ref (q 3), .ref (q 4), .ref (q 5), .ref (q 6), .ref (q 7), .ref (q 8), .ref (q 9), .int 0, .int 0, .int 14])) rfl
set_option maxRecDepth 100000 in
theorem sp_3 {D : va_G} {q r sa sv : Nat → Nat} {tC : Nat → ClassId} {X : Nat × Nat × (Nat → Int32)} {H : Heap} (h : va_P D vwCl (st_w q r sa tC) H) : va_at D vwCl ((st_E D q r sa sv tC X).2.1 3, ix_ce (st_E D q r sa sv tC X) mu0 3) H := by
  rw [sc_3]
  exact h 3 (q 3, .inl (tC 0, 16, .inl (dpF 16))) rfl
set_option maxRecDepth 100000 in
theorem sp_4 {D : va_G} {q r sa sv : Nat → Nat} {tC : Nat → ClassId} {X : Nat × Nat × (Nat → Int32)} {H : Heap} (h : va_P D vwCl (st_w q r sa tC) H) : va_at D vwCl ((st_E D q r sa sv tC X).2.1 4, ix_ce (st_E D q r sa sv tC X) mu0 4) H := by
  rw [sc_4]
  exact h 4 (q 4, .inl (tC 0, 16, .inl (fun _ => 0))) rfl
set_option maxRecDepth 100000 in
theorem sp_5 {D : va_G} {q r sa sv : Nat → Nat} {tC : Nat → ClassId} {X : Nat × Nat × (Nat → Int32)} {H : Heap} (h : va_P D vwCl (st_w q r sa tC) H) : va_at D vwCl ((st_E D q r sa sv tC X).2.1 5, ix_ce (st_E D q r sa sv tC X) mu0 5) H := by
  rw [sc_5]
  exact h 5 (q 5, .inl (tC 0, 6, .inl (fun _ => 0))) rfl
set_option maxRecDepth 100000 in
theorem sp_6 {D : va_G} {q r sa sv : Nat → Nat} {tC : Nat → ClassId} {X : Nat × Nat × (Nat → Int32)} {H : Heap} (h : va_P D vwCl (st_w q r sa tC) H) : va_at D vwCl ((st_E D q r sa sv tC X).2.1 6, ix_ce (st_E D q r sa sv tC X) mu0 6) H := by
  rw [sc_6]
  exact h 6 (q 6, .inl (tC 0, 8, .inl (fun _ => 0))) rfl
set_option maxRecDepth 100000 in
theorem sp_7 {D : va_G} {q r sa sv : Nat → Nat} {tC : Nat → ClassId} {X : Nat × Nat × (Nat → Int32)} {H : Heap} (h : va_P D vwCl (st_w q r sa tC) H) : va_at D vwCl ((st_E D q r sa sv tC X).2.1 7, ix_ce (st_E D q r sa sv tC X) mu0 7) H := by
  rw [sc_7]
  exact h 7 (q 7, .inl (tC 0, 8, .inl (fun _ => 0))) rfl
set_option maxRecDepth 100000 in
theorem sp_8 {D : va_G} {q r sa sv : Nat → Nat} {tC : Nat → ClassId} {X : Nat × Nat × (Nat → Int32)} {H : Heap} (h : va_P D vwCl (st_w q r sa tC) H) : va_at D vwCl ((st_E D q r sa sv tC X).2.1 8, ix_ce (st_E D q r sa sv tC X) mu0 8) H := by
  rw [sc_8]
  exact h 8 (q 8, .inl (tC 0, 8, .inl (fun _ => 0))) rfl
set_option maxRecDepth 100000 in
theorem sp_9 {D : va_G} {q r sa sv : Nat → Nat} {tC : Nat → ClassId} {X : Nat × Nat × (Nat → Int32)} {H : Heap} (h : va_P D vwCl (st_w q r sa tC) H) : va_at D vwCl ((st_E D q r sa sv tC X).2.1 9, ix_ce (st_E D q r sa sv tC X) mu0 9) H := by
  rw [sc_9]
  exact h 9 (q 9, .inl (tC 0, 8, .inl (fun _ => 0))) rfl
set_option maxRecDepth 100000 in
theorem sp_10 {D : va_G} {q r sa sv : Nat → Nat} {tC : Nat → ClassId} {X : Nat × Nat × (Nat → Int32)} {H : Heap} (h : va_P D vwCl (st_w q r sa tC) H) : va_at D vwCl ((st_E D q r sa sv tC X).2.1 10, ix_ce (st_E D q r sa sv tC X) mu0 10) H := by
  rw [sc_10]
  exact h 10 (q 10, .inr (0, [.ref (q 11), .ref (q 15)])) rfl
set_option maxRecDepth 100000 in
theorem sp_11 {D : va_G} {q r sa sv : Nat → Nat} {tC : Nat → ClassId} {X : Nat × Nat × (Nat → Int32)} {H : Heap} (h : va_P D vwCl (st_w q r sa tC) H) : va_at D vwCl ((st_E D q r sa sv tC X).2.1 11, ix_ce (st_E D q r sa sv tC X) mu0 11) H := by
  rw [sc_11]
  exact h 11 (q 11, .inr (6, [.ref (q 12), .ref (q 14)])) rfl
set_option maxRecDepth 100000 in
theorem sp_12 {D : va_G} {q r sa sv : Nat → Nat} {tC : Nat → ClassId} {X : Nat × Nat × (Nat → Int32)} {H : Heap} (h : va_P D vwCl (st_w q r sa tC) H) : va_at D vwCl ((st_E D q r sa sv tC X).2.1 12, ix_ce (st_E D q r sa sv tC X) mu0 12) H := by
  rw [sc_12]
  exact h 12 (q 12, .inr (3, [.ref (q 13), .int 0])) rfl
set_option maxRecDepth 100000 in
theorem sp_13 {D : va_G} {q r sa sv : Nat → Nat} {tC : Nat → ClassId} {X : Nat × Nat × (Nat → Int32)} {H : Heap} (h : va_P D vwCl (st_w q r sa tC) H) : va_at D vwCl ((st_E D q r sa sv tC X).2.1 13, ix_ce (st_E D q r sa sv tC X) mu0 13) H := by
  rw [sc_13]
  exact h 13 (q 13, .inl (tC 0, 50, .inl (fun _ => 0))) rfl
set_option maxRecDepth 100000 in
theorem sp_14 {D : va_G} {q r sa sv : Nat → Nat} {tC : Nat → ClassId} {X : Nat × Nat × (Nat → Int32)} {H : Heap} (h : va_P D vwCl (st_w q r sa tC) H) : va_at D vwCl ((st_E D q r sa sv tC X).2.1 14, ix_ce (st_E D q r sa sv tC X) mu0 14) H := by
  rw [sc_14]
  exact h 14 (q 14, .inl (tC 0, 50, .inl (fun _ => 0))) rfl
set_option maxRecDepth 100000 in
theorem sp_15 {D : va_G} {q r sa sv : Nat → Nat} {tC : Nat → ClassId} {X : Nat × Nat × (Nat → Int32)} {H : Heap} (h : va_P D vwCl (st_w q r sa tC) H) : va_at D vwCl ((st_E D q r sa sv tC X).2.1 15, ix_ce (st_E D q r sa sv tC X) mu0 15) H := by
  rw [sc_15]
  exact h 15 (q 15, .inr (6, [.ref (q 16), .ref (q 18)])) rfl
set_option maxRecDepth 100000 in
theorem sp_16 {D : va_G} {q r sa sv : Nat → Nat} {tC : Nat → ClassId} {X : Nat × Nat × (Nat → Int32)} {H : Heap} (h : va_P D vwCl (st_w q r sa tC) H) : va_at D vwCl ((st_E D q r sa sv tC X).2.1 16, ix_ce (st_E D q r sa sv tC X) mu0 16) H := by
  rw [sc_16]
  exact h 16 (q 16, .inr (3, [.ref (q 17), .int 0])) rfl
set_option maxRecDepth 100000 in
theorem sp_17 {D : va_G} {q r sa sv : Nat → Nat} {tC : Nat → ClassId} {X : Nat × Nat × (Nat → Int32)} {H : Heap} (h : va_P D vwCl (st_w q r sa tC) H) : va_at D vwCl ((st_E D q r sa sv tC X).2.1 17, ix_ce (st_E D q r sa sv tC X) mu0 17) H := by
  rw [sc_17]
  exact h 17 (q 17, .inl (tC 0, 50, .inl (fun _ => 0))) rfl
set_option maxRecDepth 100000 in
theorem sp_18 {D : va_G} {q r sa sv : Nat → Nat} {tC : Nat → ClassId} {X : Nat × Nat × (Nat → Int32)} {H : Heap} (h : va_P D vwCl (st_w q r sa tC) H) : va_at D vwCl ((st_E D q r sa sv tC X).2.1 18, ix_ce (st_E D q r sa sv tC X) mu0 18) H := by
  rw [sc_18]
  exact h 18 (q 18, .inl (tC 0, 50, .inl (fun _ => 0))) rfl
set_option maxRecDepth 100000 in
theorem sp_19 {D : va_G} {q r sa sv : Nat → Nat} {tC : Nat → ClassId} {X : Nat × Nat × (Nat → Int32)} {H : Heap} (h : va_P D vwCl (st_w q r sa tC) H) : va_at D vwCl ((st_E D q r sa sv tC X).2.1 19, ix_ce (st_E D q r sa sv tC X) mu0 19) H := by
  rw [sc_19]
  exact h 19 (q 19, .inr (3, [.ref (q 20), .int 0])) rfl
set_option maxRecDepth 100000 in
theorem sp_20 {D : va_G} {q r sa sv : Nat → Nat} {tC : Nat → ClassId} {X : Nat × Nat × (Nat → Int32)} {H : Heap} (h : va_P D vwCl (st_w q r sa tC) H) : va_at D vwCl ((st_E D q r sa sv tC X).2.1 20, ix_ce (st_E D q r sa sv tC X) mu0 20) H := by
  rw [sc_20]
  exact h 20 (q 20, .inl (tC 0, 50, .inl (fun _ => 0))) rfl
set_option maxRecDepth 100000 in
theorem sp_21 {D : va_G} {q r sa sv : Nat → Nat} {tC : Nat → ClassId} {X : Nat × Nat × (Nat → Int32)} {H : Heap} (h : va_P D vwCl (st_w q r sa tC) H) : va_at D vwCl ((st_E D q r sa sv tC X).2.1 21, ix_ce (st_E D q r sa sv tC X) mu0 21) H := by
  rw [sc_21]
  exact h 21 (q 21, .inr (3, [.ref (q 22), .int 0])) rfl
set_option maxRecDepth 100000 in
theorem sp_22 {D : va_G} {q r sa sv : Nat → Nat} {tC : Nat → ClassId} {X : Nat × Nat × (Nat → Int32)} {H : Heap} (h : va_P D vwCl (st_w q r sa tC) H) : va_at D vwCl ((st_E D q r sa sv tC X).2.1 22, ix_ce (st_E D q r sa sv tC X) mu0 22) H := by
  rw [sc_22]
  exact h 22 (q 22, .inl (tC 0, 20, .inl (fun _ => 0))) rfl
set_option maxRecDepth 100000 in
theorem sp_23 {D : va_G} {q r sa sv : Nat → Nat} {tC : Nat → ClassId} {X : Nat × Nat × (Nat → Int32)} {H : Heap} (h : va_P D vwCl (st_w q r sa tC) H) : va_at D vwCl ((st_E D q r sa sv tC X).2.1 23, ix_ce (st_E D q r sa sv tC X) mu0 23) H := by
  rw [sc_23]
  exact h 23 (q 23, .inl (tC 0, 6, .inl (wtF 6))) rfl
set_option maxRecDepth 100000 in
theorem sp_24 {D : va_G} {q r sa sv : Nat → Nat} {tC : Nat → ClassId} {X : Nat × Nat × (Nat → Int32)} {H : Heap} (h : va_P D vwCl (st_w q r sa tC) H) : va_at D vwCl ((st_E D q r sa sv tC X).2.1 24, ix_ce (st_E D q r sa sv tC X) mu0 24) H := by
  rw [sc_24]
  exact h 24 (q 24, .inr (5, [.ref (q 25), .ref (q 33), .ref (q 42), .ref (q 44), .ref (q 46), .int 1])) rfl
set_option maxRecDepth 100000 in
theorem sp_25 {D : va_G} {q r sa sv : Nat → Nat} {tC : Nat → ClassId} {X : Nat × Nat × (Nat → Int32)} {H : Heap} (h : va_P D vwCl (st_w q r sa tC) H) : va_at D vwCl ((st_E D q r sa sv tC X).2.1 25, ix_ce (st_E D q r sa sv tC X) mu0 25) H := by
  rw [sc_25]
  exact h 25 (q 25, .inr (8, [.ref (q 26), .ref (q 27), .ref (q 28), .ref (q 29), .ref (q 30), .ref (q 31), .ref (q 32), .int 0, .int 0, .int 14])) rfl
set_option maxRecDepth 100000 in
theorem sp_26 {D : va_G} {q r sa sv : Nat → Nat} {tC : Nat → ClassId} {X : Nat × Nat × (Nat → Int32)} {H : Heap} (h : va_P D vwCl (st_w q r sa tC) H) : va_at D vwCl ((st_E D q r sa sv tC X).2.1 26, ix_ce (st_E D q r sa sv tC X) mu0 26) H := by
  rw [sc_26]
  exact h 26 (q 26, .inl (tC 0, 16, .inl (dpF 16))) rfl
set_option maxRecDepth 100000 in
theorem sp_27 {D : va_G} {q r sa sv : Nat → Nat} {tC : Nat → ClassId} {X : Nat × Nat × (Nat → Int32)} {H : Heap} (h : va_P D vwCl (st_w q r sa tC) H) : va_at D vwCl ((st_E D q r sa sv tC X).2.1 27, ix_ce (st_E D q r sa sv tC X) mu0 27) H := by
  rw [sc_27]
  exact h 27 (q 27, .inl (tC 0, 16, .inl (fun _ => 0))) rfl
set_option maxRecDepth 100000 in
theorem sp_28 {D : va_G} {q r sa sv : Nat → Nat} {tC : Nat → ClassId} {X : Nat × Nat × (Nat → Int32)} {H : Heap} (h : va_P D vwCl (st_w q r sa tC) H) : va_at D vwCl ((st_E D q r sa sv tC X).2.1 28, ix_ce (st_E D q r sa sv tC X) mu0 28) H := by
  rw [sc_28]
  exact h 28 (q 28, .inl (tC 0, 6, .inl (fun _ => 0))) rfl
set_option maxRecDepth 100000 in
theorem sp_29 {D : va_G} {q r sa sv : Nat → Nat} {tC : Nat → ClassId} {X : Nat × Nat × (Nat → Int32)} {H : Heap} (h : va_P D vwCl (st_w q r sa tC) H) : va_at D vwCl ((st_E D q r sa sv tC X).2.1 29, ix_ce (st_E D q r sa sv tC X) mu0 29) H := by
  rw [sc_29]
  exact h 29 (q 29, .inl (tC 0, 8, .inl (fun _ => 0))) rfl
set_option maxRecDepth 100000 in
theorem sp_30 {D : va_G} {q r sa sv : Nat → Nat} {tC : Nat → ClassId} {X : Nat × Nat × (Nat → Int32)} {H : Heap} (h : va_P D vwCl (st_w q r sa tC) H) : va_at D vwCl ((st_E D q r sa sv tC X).2.1 30, ix_ce (st_E D q r sa sv tC X) mu0 30) H := by
  rw [sc_30]
  exact h 30 (q 30, .inl (tC 0, 8, .inl (fun _ => 0))) rfl
set_option maxRecDepth 100000 in
theorem sp_31 {D : va_G} {q r sa sv : Nat → Nat} {tC : Nat → ClassId} {X : Nat × Nat × (Nat → Int32)} {H : Heap} (h : va_P D vwCl (st_w q r sa tC) H) : va_at D vwCl ((st_E D q r sa sv tC X).2.1 31, ix_ce (st_E D q r sa sv tC X) mu0 31) H := by
  rw [sc_31]
  exact h 31 (q 31, .inl (tC 0, 8, .inl (fun _ => 0))) rfl
set_option maxRecDepth 100000 in
theorem sp_32 {D : va_G} {q r sa sv : Nat → Nat} {tC : Nat → ClassId} {X : Nat × Nat × (Nat → Int32)} {H : Heap} (h : va_P D vwCl (st_w q r sa tC) H) : va_at D vwCl ((st_E D q r sa sv tC X).2.1 32, ix_ce (st_E D q r sa sv tC X) mu0 32) H := by
  rw [sc_32]
  exact h 32 (q 32, .inl (tC 0, 8, .inl (fun _ => 0))) rfl
set_option maxRecDepth 100000 in
theorem sp_33 {D : va_G} {q r sa sv : Nat → Nat} {tC : Nat → ClassId} {X : Nat × Nat × (Nat → Int32)} {H : Heap} (h : va_P D vwCl (st_w q r sa tC) H) : va_at D vwCl ((st_E D q r sa sv tC X).2.1 33, ix_ce (st_E D q r sa sv tC X) mu0 33) H := by
  rw [sc_33]
  exact h 33 (q 33, .inr (0, [.ref (q 34), .ref (q 38)])) rfl
set_option maxRecDepth 100000 in
theorem sp_34 {D : va_G} {q r sa sv : Nat → Nat} {tC : Nat → ClassId} {X : Nat × Nat × (Nat → Int32)} {H : Heap} (h : va_P D vwCl (st_w q r sa tC) H) : va_at D vwCl ((st_E D q r sa sv tC X).2.1 34, ix_ce (st_E D q r sa sv tC X) mu0 34) H := by
  rw [sc_34]
  exact h 34 (q 34, .inr (6, [.ref (q 35), .ref (q 37)])) rfl
set_option maxRecDepth 100000 in
theorem sp_35 {D : va_G} {q r sa sv : Nat → Nat} {tC : Nat → ClassId} {X : Nat × Nat × (Nat → Int32)} {H : Heap} (h : va_P D vwCl (st_w q r sa tC) H) : va_at D vwCl ((st_E D q r sa sv tC X).2.1 35, ix_ce (st_E D q r sa sv tC X) mu0 35) H := by
  rw [sc_35]
  exact h 35 (q 35, .inr (3, [.ref (q 36), .int 0])) rfl
set_option maxRecDepth 100000 in
theorem sp_36 {D : va_G} {q r sa sv : Nat → Nat} {tC : Nat → ClassId} {X : Nat × Nat × (Nat → Int32)} {H : Heap} (h : va_P D vwCl (st_w q r sa tC) H) : va_at D vwCl ((st_E D q r sa sv tC X).2.1 36, ix_ce (st_E D q r sa sv tC X) mu0 36) H := by
  rw [sc_36]
  exact h 36 (q 36, .inl (tC 0, 50, .inl (fun _ => 0))) rfl
set_option maxRecDepth 100000 in
theorem sp_37 {D : va_G} {q r sa sv : Nat → Nat} {tC : Nat → ClassId} {X : Nat × Nat × (Nat → Int32)} {H : Heap} (h : va_P D vwCl (st_w q r sa tC) H) : va_at D vwCl ((st_E D q r sa sv tC X).2.1 37, ix_ce (st_E D q r sa sv tC X) mu0 37) H := by
  rw [sc_37]
  exact h 37 (q 37, .inl (tC 0, 50, .inl (fun _ => 0))) rfl
set_option maxRecDepth 100000 in
theorem sp_38 {D : va_G} {q r sa sv : Nat → Nat} {tC : Nat → ClassId} {X : Nat × Nat × (Nat → Int32)} {H : Heap} (h : va_P D vwCl (st_w q r sa tC) H) : va_at D vwCl ((st_E D q r sa sv tC X).2.1 38, ix_ce (st_E D q r sa sv tC X) mu0 38) H := by
  rw [sc_38]
  exact h 38 (q 38, .inr (6, [.ref (q 39), .ref (q 41)])) rfl
set_option maxRecDepth 100000 in
theorem sp_39 {D : va_G} {q r sa sv : Nat → Nat} {tC : Nat → ClassId} {X : Nat × Nat × (Nat → Int32)} {H : Heap} (h : va_P D vwCl (st_w q r sa tC) H) : va_at D vwCl ((st_E D q r sa sv tC X).2.1 39, ix_ce (st_E D q r sa sv tC X) mu0 39) H := by
  rw [sc_39]
  exact h 39 (q 39, .inr (3, [.ref (q 40), .int 0])) rfl
set_option maxRecDepth 100000 in
theorem sp_40 {D : va_G} {q r sa sv : Nat → Nat} {tC : Nat → ClassId} {X : Nat × Nat × (Nat → Int32)} {H : Heap} (h : va_P D vwCl (st_w q r sa tC) H) : va_at D vwCl ((st_E D q r sa sv tC X).2.1 40, ix_ce (st_E D q r sa sv tC X) mu0 40) H := by
  rw [sc_40]
  exact h 40 (q 40, .inl (tC 0, 50, .inl (fun _ => 0))) rfl
set_option maxRecDepth 100000 in
theorem sp_41 {D : va_G} {q r sa sv : Nat → Nat} {tC : Nat → ClassId} {X : Nat × Nat × (Nat → Int32)} {H : Heap} (h : va_P D vwCl (st_w q r sa tC) H) : va_at D vwCl ((st_E D q r sa sv tC X).2.1 41, ix_ce (st_E D q r sa sv tC X) mu0 41) H := by
  rw [sc_41]
  exact h 41 (q 41, .inl (tC 0, 50, .inl (fun _ => 0))) rfl
set_option maxRecDepth 100000 in
theorem sp_42 {D : va_G} {q r sa sv : Nat → Nat} {tC : Nat → ClassId} {X : Nat × Nat × (Nat → Int32)} {H : Heap} (h : va_P D vwCl (st_w q r sa tC) H) : va_at D vwCl ((st_E D q r sa sv tC X).2.1 42, ix_ce (st_E D q r sa sv tC X) mu0 42) H := by
  rw [sc_42]
  exact h 42 (q 42, .inr (3, [.ref (q 43), .int 0])) rfl
set_option maxRecDepth 100000 in
theorem sp_43 {D : va_G} {q r sa sv : Nat → Nat} {tC : Nat → ClassId} {X : Nat × Nat × (Nat → Int32)} {H : Heap} (h : va_P D vwCl (st_w q r sa tC) H) : va_at D vwCl ((st_E D q r sa sv tC X).2.1 43, ix_ce (st_E D q r sa sv tC X) mu0 43) H := by
  rw [sc_43]
  exact h 43 (q 43, .inl (tC 0, 50, .inl (fun _ => 0))) rfl
set_option maxRecDepth 100000 in
theorem sp_44 {D : va_G} {q r sa sv : Nat → Nat} {tC : Nat → ClassId} {X : Nat × Nat × (Nat → Int32)} {H : Heap} (h : va_P D vwCl (st_w q r sa tC) H) : va_at D vwCl ((st_E D q r sa sv tC X).2.1 44, ix_ce (st_E D q r sa sv tC X) mu0 44) H := by
  rw [sc_44]
  exact h 44 (q 44, .inr (3, [.ref (q 45), .int 0])) rfl
set_option maxRecDepth 100000 in
theorem sp_45 {D : va_G} {q r sa sv : Nat → Nat} {tC : Nat → ClassId} {X : Nat × Nat × (Nat → Int32)} {H : Heap} (h : va_P D vwCl (st_w q r sa tC) H) : va_at D vwCl ((st_E D q r sa sv tC X).2.1 45, ix_ce (st_E D q r sa sv tC X) mu0 45) H := by
  rw [sc_45]
  exact h 45 (q 45, .inl (tC 0, 20, .inl (fun _ => 0))) rfl
set_option maxRecDepth 100000 in
theorem sp_46 {D : va_G} {q r sa sv : Nat → Nat} {tC : Nat → ClassId} {X : Nat × Nat × (Nat → Int32)} {H : Heap} (h : va_P D vwCl (st_w q r sa tC) H) : va_at D vwCl ((st_E D q r sa sv tC X).2.1 46, ix_ce (st_E D q r sa sv tC X) mu0 46) H := by
  rw [sc_46]
  exact h 46 (q 46, .inl (tC 0, 6, .inl (wtF 6))) rfl
set_option maxRecDepth 100000 in
theorem sp_47 {D : va_G} {q r sa sv : Nat → Nat} {tC : Nat → ClassId} {X : Nat × Nat × (Nat → Int32)} {H : Heap} (h : va_P D vwCl (st_w q r sa tC) H) : va_at D vwCl ((st_E D q r sa sv tC X).2.1 47, ix_ce (st_E D q r sa sv tC X) mu0 47) H := by
  have a : H[q 47]? = some (vp_cell (tC 1) (5, .inr (.inr (.inr (.inr (fun i => [some (q 48), some (q 56), some (q 64), some (q 72), some (q 80)].getD i none)))))) := h 47 _ rfl
  rw [ix_ce_ref (t := 21) (by decide +kernel) (by decide)]
  show H[q 47]? = some (vp_cell (tC 1) (5, .inr (.inr (.inr (.inr (fun i => some (ix_rv (st_E D q r sa sv tC X) ((ix_sh 47).2.getD i none))))))))
  rw [a]
  refine congrArg some (st_arr (fun j hj => ?_))
  match j, hj with
  | 0, _ => rfl
  | 1, _ => rfl
  | 2, _ => rfl
  | 3, _ => rfl
  | 4, _ => rfl
  | j + 5, hj => omega
set_option maxRecDepth 100000 in
theorem sp_48 {D : va_G} {q r sa sv : Nat → Nat} {tC : Nat → ClassId} {X : Nat × Nat × (Nat → Int32)} {H : Heap} (h : va_P D vwCl (st_w q r sa tC) H) : va_at D vwCl ((st_E D q r sa sv tC X).2.1 48, ix_ce (st_E D q r sa sv tC X) mu0 48) H := by
  rw [sc_48]
  exact h 48 (q 48, .inr (8, [.ref (q 49), .ref (q 50), .ref (q 51), .ref (q 52), .ref (q 53), .ref (q 54), .ref (q 55), .int 0, .int 0, .int 14])) rfl
set_option maxRecDepth 100000 in
theorem sp_49 {D : va_G} {q r sa sv : Nat → Nat} {tC : Nat → ClassId} {X : Nat × Nat × (Nat → Int32)} {H : Heap} (h : va_P D vwCl (st_w q r sa tC) H) : va_at D vwCl ((st_E D q r sa sv tC X).2.1 49, ix_ce (st_E D q r sa sv tC X) mu0 49) H := by
  rw [sc_49]
  exact h 49 (q 49, .inl (tC 0, 16, .inl (dpF 16))) rfl
set_option maxRecDepth 100000 in
theorem sp_50 {D : va_G} {q r sa sv : Nat → Nat} {tC : Nat → ClassId} {X : Nat × Nat × (Nat → Int32)} {H : Heap} (h : va_P D vwCl (st_w q r sa tC) H) : va_at D vwCl ((st_E D q r sa sv tC X).2.1 50, ix_ce (st_E D q r sa sv tC X) mu0 50) H := by
  rw [sc_50]
  exact h 50 (q 50, .inl (tC 0, 16, .inl (fun _ => 0))) rfl
set_option maxRecDepth 100000 in
theorem sp_51 {D : va_G} {q r sa sv : Nat → Nat} {tC : Nat → ClassId} {X : Nat × Nat × (Nat → Int32)} {H : Heap} (h : va_P D vwCl (st_w q r sa tC) H) : va_at D vwCl ((st_E D q r sa sv tC X).2.1 51, ix_ce (st_E D q r sa sv tC X) mu0 51) H := by
  rw [sc_51]
  exact h 51 (q 51, .inl (tC 0, 6, .inl (fun _ => 0))) rfl
set_option maxRecDepth 100000 in
theorem sp_52 {D : va_G} {q r sa sv : Nat → Nat} {tC : Nat → ClassId} {X : Nat × Nat × (Nat → Int32)} {H : Heap} (h : va_P D vwCl (st_w q r sa tC) H) : va_at D vwCl ((st_E D q r sa sv tC X).2.1 52, ix_ce (st_E D q r sa sv tC X) mu0 52) H := by
  rw [sc_52]
  exact h 52 (q 52, .inl (tC 0, 8, .inl (fun _ => 0))) rfl
set_option maxRecDepth 100000 in
theorem sp_53 {D : va_G} {q r sa sv : Nat → Nat} {tC : Nat → ClassId} {X : Nat × Nat × (Nat → Int32)} {H : Heap} (h : va_P D vwCl (st_w q r sa tC) H) : va_at D vwCl ((st_E D q r sa sv tC X).2.1 53, ix_ce (st_E D q r sa sv tC X) mu0 53) H := by
  rw [sc_53]
  exact h 53 (q 53, .inl (tC 0, 8, .inl (fun _ => 0))) rfl
set_option maxRecDepth 100000 in
theorem sp_54 {D : va_G} {q r sa sv : Nat → Nat} {tC : Nat → ClassId} {X : Nat × Nat × (Nat → Int32)} {H : Heap} (h : va_P D vwCl (st_w q r sa tC) H) : va_at D vwCl ((st_E D q r sa sv tC X).2.1 54, ix_ce (st_E D q r sa sv tC X) mu0 54) H := by
  rw [sc_54]
  exact h 54 (q 54, .inl (tC 0, 8, .inl (fun _ => 0))) rfl
set_option maxRecDepth 100000 in
theorem sp_55 {D : va_G} {q r sa sv : Nat → Nat} {tC : Nat → ClassId} {X : Nat × Nat × (Nat → Int32)} {H : Heap} (h : va_P D vwCl (st_w q r sa tC) H) : va_at D vwCl ((st_E D q r sa sv tC X).2.1 55, ix_ce (st_E D q r sa sv tC X) mu0 55) H := by
  rw [sc_55]
  exact h 55 (q 55, .inl (tC 0, 8, .inl (fun _ => 0))) rfl
set_option maxRecDepth 100000 in
theorem sp_56 {D : va_G} {q r sa sv : Nat → Nat} {tC : Nat → ClassId} {X : Nat × Nat × (Nat → Int32)} {H : Heap} (h : va_P D vwCl (st_w q r sa tC) H) : va_at D vwCl ((st_E D q r sa sv tC X).2.1 56, ix_ce (st_E D q r sa sv tC X) mu0 56) H := by
  rw [sc_56]
  exact h 56 (q 56, .inr (8, [.ref (q 57), .ref (q 58), .ref (q 59), .ref (q 60), .ref (q 61), .ref (q 62), .ref (q 63), .int 0, .int 0, .int 14])) rfl
set_option maxRecDepth 100000 in
theorem sp_57 {D : va_G} {q r sa sv : Nat → Nat} {tC : Nat → ClassId} {X : Nat × Nat × (Nat → Int32)} {H : Heap} (h : va_P D vwCl (st_w q r sa tC) H) : va_at D vwCl ((st_E D q r sa sv tC X).2.1 57, ix_ce (st_E D q r sa sv tC X) mu0 57) H := by
  rw [sc_57]
  exact h 57 (q 57, .inl (tC 0, 16, .inl (dpF 16))) rfl
set_option maxRecDepth 100000 in
theorem sp_58 {D : va_G} {q r sa sv : Nat → Nat} {tC : Nat → ClassId} {X : Nat × Nat × (Nat → Int32)} {H : Heap} (h : va_P D vwCl (st_w q r sa tC) H) : va_at D vwCl ((st_E D q r sa sv tC X).2.1 58, ix_ce (st_E D q r sa sv tC X) mu0 58) H := by
  rw [sc_58]
  exact h 58 (q 58, .inl (tC 0, 16, .inl (fun _ => 0))) rfl
set_option maxRecDepth 100000 in
theorem sp_59 {D : va_G} {q r sa sv : Nat → Nat} {tC : Nat → ClassId} {X : Nat × Nat × (Nat → Int32)} {H : Heap} (h : va_P D vwCl (st_w q r sa tC) H) : va_at D vwCl ((st_E D q r sa sv tC X).2.1 59, ix_ce (st_E D q r sa sv tC X) mu0 59) H := by
  rw [sc_59]
  exact h 59 (q 59, .inl (tC 0, 6, .inl (fun _ => 0))) rfl
set_option maxRecDepth 100000 in
theorem sp_60 {D : va_G} {q r sa sv : Nat → Nat} {tC : Nat → ClassId} {X : Nat × Nat × (Nat → Int32)} {H : Heap} (h : va_P D vwCl (st_w q r sa tC) H) : va_at D vwCl ((st_E D q r sa sv tC X).2.1 60, ix_ce (st_E D q r sa sv tC X) mu0 60) H := by
  rw [sc_60]
  exact h 60 (q 60, .inl (tC 0, 8, .inl (fun _ => 0))) rfl
set_option maxRecDepth 100000 in
theorem sp_61 {D : va_G} {q r sa sv : Nat → Nat} {tC : Nat → ClassId} {X : Nat × Nat × (Nat → Int32)} {H : Heap} (h : va_P D vwCl (st_w q r sa tC) H) : va_at D vwCl ((st_E D q r sa sv tC X).2.1 61, ix_ce (st_E D q r sa sv tC X) mu0 61) H := by
  rw [sc_61]
  exact h 61 (q 61, .inl (tC 0, 8, .inl (fun _ => 0))) rfl
set_option maxRecDepth 100000 in
theorem sp_62 {D : va_G} {q r sa sv : Nat → Nat} {tC : Nat → ClassId} {X : Nat × Nat × (Nat → Int32)} {H : Heap} (h : va_P D vwCl (st_w q r sa tC) H) : va_at D vwCl ((st_E D q r sa sv tC X).2.1 62, ix_ce (st_E D q r sa sv tC X) mu0 62) H := by
  rw [sc_62]
  exact h 62 (q 62, .inl (tC 0, 8, .inl (fun _ => 0))) rfl
set_option maxRecDepth 100000 in
theorem sp_63 {D : va_G} {q r sa sv : Nat → Nat} {tC : Nat → ClassId} {X : Nat × Nat × (Nat → Int32)} {H : Heap} (h : va_P D vwCl (st_w q r sa tC) H) : va_at D vwCl ((st_E D q r sa sv tC X).2.1 63, ix_ce (st_E D q r sa sv tC X) mu0 63) H := by
  rw [sc_63]
  exact h 63 (q 63, .inl (tC 0, 8, .inl (fun _ => 0))) rfl
set_option maxRecDepth 100000 in
theorem sp_64 {D : va_G} {q r sa sv : Nat → Nat} {tC : Nat → ClassId} {X : Nat × Nat × (Nat → Int32)} {H : Heap} (h : va_P D vwCl (st_w q r sa tC) H) : va_at D vwCl ((st_E D q r sa sv tC X).2.1 64, ix_ce (st_E D q r sa sv tC X) mu0 64) H := by
  rw [sc_64]
  exact h 64 (q 64, .inr (8, [.ref (q 65), .ref (q 66), .ref (q 67), .ref (q 68), .ref (q 69), .ref (q 70), .ref (q 71), .int 0, .int 0, .int 14])) rfl
set_option maxRecDepth 100000 in
theorem sp_65 {D : va_G} {q r sa sv : Nat → Nat} {tC : Nat → ClassId} {X : Nat × Nat × (Nat → Int32)} {H : Heap} (h : va_P D vwCl (st_w q r sa tC) H) : va_at D vwCl ((st_E D q r sa sv tC X).2.1 65, ix_ce (st_E D q r sa sv tC X) mu0 65) H := by
  rw [sc_65]
  exact h 65 (q 65, .inl (tC 0, 16, .inl (dpF 16))) rfl
set_option maxRecDepth 100000 in
theorem sp_66 {D : va_G} {q r sa sv : Nat → Nat} {tC : Nat → ClassId} {X : Nat × Nat × (Nat → Int32)} {H : Heap} (h : va_P D vwCl (st_w q r sa tC) H) : va_at D vwCl ((st_E D q r sa sv tC X).2.1 66, ix_ce (st_E D q r sa sv tC X) mu0 66) H := by
  rw [sc_66]
  exact h 66 (q 66, .inl (tC 0, 16, .inl (fun _ => 0))) rfl
set_option maxRecDepth 100000 in
theorem sp_67 {D : va_G} {q r sa sv : Nat → Nat} {tC : Nat → ClassId} {X : Nat × Nat × (Nat → Int32)} {H : Heap} (h : va_P D vwCl (st_w q r sa tC) H) : va_at D vwCl ((st_E D q r sa sv tC X).2.1 67, ix_ce (st_E D q r sa sv tC X) mu0 67) H := by
  rw [sc_67]
  exact h 67 (q 67, .inl (tC 0, 6, .inl (fun _ => 0))) rfl
set_option maxRecDepth 100000 in
theorem sp_68 {D : va_G} {q r sa sv : Nat → Nat} {tC : Nat → ClassId} {X : Nat × Nat × (Nat → Int32)} {H : Heap} (h : va_P D vwCl (st_w q r sa tC) H) : va_at D vwCl ((st_E D q r sa sv tC X).2.1 68, ix_ce (st_E D q r sa sv tC X) mu0 68) H := by
  rw [sc_68]
  exact h 68 (q 68, .inl (tC 0, 8, .inl (fun _ => 0))) rfl
set_option maxRecDepth 100000 in
theorem sp_69 {D : va_G} {q r sa sv : Nat → Nat} {tC : Nat → ClassId} {X : Nat × Nat × (Nat → Int32)} {H : Heap} (h : va_P D vwCl (st_w q r sa tC) H) : va_at D vwCl ((st_E D q r sa sv tC X).2.1 69, ix_ce (st_E D q r sa sv tC X) mu0 69) H := by
  rw [sc_69]
  exact h 69 (q 69, .inl (tC 0, 8, .inl (fun _ => 0))) rfl
set_option maxRecDepth 100000 in
theorem sp_70 {D : va_G} {q r sa sv : Nat → Nat} {tC : Nat → ClassId} {X : Nat × Nat × (Nat → Int32)} {H : Heap} (h : va_P D vwCl (st_w q r sa tC) H) : va_at D vwCl ((st_E D q r sa sv tC X).2.1 70, ix_ce (st_E D q r sa sv tC X) mu0 70) H := by
  rw [sc_70]
  exact h 70 (q 70, .inl (tC 0, 8, .inl (fun _ => 0))) rfl
set_option maxRecDepth 100000 in
theorem sp_71 {D : va_G} {q r sa sv : Nat → Nat} {tC : Nat → ClassId} {X : Nat × Nat × (Nat → Int32)} {H : Heap} (h : va_P D vwCl (st_w q r sa tC) H) : va_at D vwCl ((st_E D q r sa sv tC X).2.1 71, ix_ce (st_E D q r sa sv tC X) mu0 71) H := by
  rw [sc_71]
  exact h 71 (q 71, .inl (tC 0, 8, .inl (fun _ => 0))) rfl
set_option maxRecDepth 100000 in
theorem sp_72 {D : va_G} {q r sa sv : Nat → Nat} {tC : Nat → ClassId} {X : Nat × Nat × (Nat → Int32)} {H : Heap} (h : va_P D vwCl (st_w q r sa tC) H) : va_at D vwCl ((st_E D q r sa sv tC X).2.1 72, ix_ce (st_E D q r sa sv tC X) mu0 72) H := by
  rw [sc_72]
  exact h 72 (q 72, .inr (8, [.ref (q 73), .ref (q 74), .ref (q 75), .ref (q 76), .ref (q 77), .ref (q 78), .ref (q 79), .int 0, .int 0, .int 14])) rfl
set_option maxRecDepth 100000 in
theorem sp_73 {D : va_G} {q r sa sv : Nat → Nat} {tC : Nat → ClassId} {X : Nat × Nat × (Nat → Int32)} {H : Heap} (h : va_P D vwCl (st_w q r sa tC) H) : va_at D vwCl ((st_E D q r sa sv tC X).2.1 73, ix_ce (st_E D q r sa sv tC X) mu0 73) H := by
  rw [sc_73]
  exact h 73 (q 73, .inl (tC 0, 16, .inl (dpF 16))) rfl
set_option maxRecDepth 100000 in
theorem sp_74 {D : va_G} {q r sa sv : Nat → Nat} {tC : Nat → ClassId} {X : Nat × Nat × (Nat → Int32)} {H : Heap} (h : va_P D vwCl (st_w q r sa tC) H) : va_at D vwCl ((st_E D q r sa sv tC X).2.1 74, ix_ce (st_E D q r sa sv tC X) mu0 74) H := by
  rw [sc_74]
  exact h 74 (q 74, .inl (tC 0, 16, .inl (fun _ => 0))) rfl
set_option maxRecDepth 100000 in
theorem sp_75 {D : va_G} {q r sa sv : Nat → Nat} {tC : Nat → ClassId} {X : Nat × Nat × (Nat → Int32)} {H : Heap} (h : va_P D vwCl (st_w q r sa tC) H) : va_at D vwCl ((st_E D q r sa sv tC X).2.1 75, ix_ce (st_E D q r sa sv tC X) mu0 75) H := by
  rw [sc_75]
  exact h 75 (q 75, .inl (tC 0, 6, .inl (fun _ => 0))) rfl
set_option maxRecDepth 100000 in
theorem sp_76 {D : va_G} {q r sa sv : Nat → Nat} {tC : Nat → ClassId} {X : Nat × Nat × (Nat → Int32)} {H : Heap} (h : va_P D vwCl (st_w q r sa tC) H) : va_at D vwCl ((st_E D q r sa sv tC X).2.1 76, ix_ce (st_E D q r sa sv tC X) mu0 76) H := by
  rw [sc_76]
  exact h 76 (q 76, .inl (tC 0, 8, .inl (fun _ => 0))) rfl
set_option maxRecDepth 100000 in
theorem sp_77 {D : va_G} {q r sa sv : Nat → Nat} {tC : Nat → ClassId} {X : Nat × Nat × (Nat → Int32)} {H : Heap} (h : va_P D vwCl (st_w q r sa tC) H) : va_at D vwCl ((st_E D q r sa sv tC X).2.1 77, ix_ce (st_E D q r sa sv tC X) mu0 77) H := by
  rw [sc_77]
  exact h 77 (q 77, .inl (tC 0, 8, .inl (fun _ => 0))) rfl
set_option maxRecDepth 100000 in
theorem sp_78 {D : va_G} {q r sa sv : Nat → Nat} {tC : Nat → ClassId} {X : Nat × Nat × (Nat → Int32)} {H : Heap} (h : va_P D vwCl (st_w q r sa tC) H) : va_at D vwCl ((st_E D q r sa sv tC X).2.1 78, ix_ce (st_E D q r sa sv tC X) mu0 78) H := by
  rw [sc_78]
  exact h 78 (q 78, .inl (tC 0, 8, .inl (fun _ => 0))) rfl
set_option maxRecDepth 100000 in
theorem sp_79 {D : va_G} {q r sa sv : Nat → Nat} {tC : Nat → ClassId} {X : Nat × Nat × (Nat → Int32)} {H : Heap} (h : va_P D vwCl (st_w q r sa tC) H) : va_at D vwCl ((st_E D q r sa sv tC X).2.1 79, ix_ce (st_E D q r sa sv tC X) mu0 79) H := by
  rw [sc_79]
  exact h 79 (q 79, .inl (tC 0, 8, .inl (fun _ => 0))) rfl
set_option maxRecDepth 100000 in
theorem sp_80 {D : va_G} {q r sa sv : Nat → Nat} {tC : Nat → ClassId} {X : Nat × Nat × (Nat → Int32)} {H : Heap} (h : va_P D vwCl (st_w q r sa tC) H) : va_at D vwCl ((st_E D q r sa sv tC X).2.1 80, ix_ce (st_E D q r sa sv tC X) mu0 80) H := by
  rw [sc_80]
  exact h 80 (q 80, .inr (8, [.ref (q 81), .ref (q 82), .ref (q 83), .ref (q 84), .ref (q 85), .ref (q 86), .ref (q 87), .int 0, .int 0, .int 14])) rfl
set_option maxRecDepth 100000 in
theorem sp_81 {D : va_G} {q r sa sv : Nat → Nat} {tC : Nat → ClassId} {X : Nat × Nat × (Nat → Int32)} {H : Heap} (h : va_P D vwCl (st_w q r sa tC) H) : va_at D vwCl ((st_E D q r sa sv tC X).2.1 81, ix_ce (st_E D q r sa sv tC X) mu0 81) H := by
  rw [sc_81]
  exact h 81 (q 81, .inl (tC 0, 16, .inl (dpF 16))) rfl
set_option maxRecDepth 100000 in
theorem sp_82 {D : va_G} {q r sa sv : Nat → Nat} {tC : Nat → ClassId} {X : Nat × Nat × (Nat → Int32)} {H : Heap} (h : va_P D vwCl (st_w q r sa tC) H) : va_at D vwCl ((st_E D q r sa sv tC X).2.1 82, ix_ce (st_E D q r sa sv tC X) mu0 82) H := by
  rw [sc_82]
  exact h 82 (q 82, .inl (tC 0, 16, .inl (fun _ => 0))) rfl
set_option maxRecDepth 100000 in
theorem sp_83 {D : va_G} {q r sa sv : Nat → Nat} {tC : Nat → ClassId} {X : Nat × Nat × (Nat → Int32)} {H : Heap} (h : va_P D vwCl (st_w q r sa tC) H) : va_at D vwCl ((st_E D q r sa sv tC X).2.1 83, ix_ce (st_E D q r sa sv tC X) mu0 83) H := by
  rw [sc_83]
  exact h 83 (q 83, .inl (tC 0, 6, .inl (fun _ => 0))) rfl
set_option maxRecDepth 100000 in
theorem sp_84 {D : va_G} {q r sa sv : Nat → Nat} {tC : Nat → ClassId} {X : Nat × Nat × (Nat → Int32)} {H : Heap} (h : va_P D vwCl (st_w q r sa tC) H) : va_at D vwCl ((st_E D q r sa sv tC X).2.1 84, ix_ce (st_E D q r sa sv tC X) mu0 84) H := by
  rw [sc_84]
  exact h 84 (q 84, .inl (tC 0, 8, .inl (fun _ => 0))) rfl
set_option maxRecDepth 100000 in
theorem sp_85 {D : va_G} {q r sa sv : Nat → Nat} {tC : Nat → ClassId} {X : Nat × Nat × (Nat → Int32)} {H : Heap} (h : va_P D vwCl (st_w q r sa tC) H) : va_at D vwCl ((st_E D q r sa sv tC X).2.1 85, ix_ce (st_E D q r sa sv tC X) mu0 85) H := by
  rw [sc_85]
  exact h 85 (q 85, .inl (tC 0, 8, .inl (fun _ => 0))) rfl
set_option maxRecDepth 100000 in
theorem sp_86 {D : va_G} {q r sa sv : Nat → Nat} {tC : Nat → ClassId} {X : Nat × Nat × (Nat → Int32)} {H : Heap} (h : va_P D vwCl (st_w q r sa tC) H) : va_at D vwCl ((st_E D q r sa sv tC X).2.1 86, ix_ce (st_E D q r sa sv tC X) mu0 86) H := by
  rw [sc_86]
  exact h 86 (q 86, .inl (tC 0, 8, .inl (fun _ => 0))) rfl
set_option maxRecDepth 100000 in
theorem sp_87 {D : va_G} {q r sa sv : Nat → Nat} {tC : Nat → ClassId} {X : Nat × Nat × (Nat → Int32)} {H : Heap} (h : va_P D vwCl (st_w q r sa tC) H) : va_at D vwCl ((st_E D q r sa sv tC X).2.1 87, ix_ce (st_E D q r sa sv tC X) mu0 87) H := by
  rw [sc_87]
  exact h 87 (q 87, .inl (tC 0, 8, .inl (fun _ => 0))) rfl
set_option maxRecDepth 100000 in
theorem sp_88 {D : va_G} {q r sa sv : Nat → Nat} {tC : Nat → ClassId} {X : Nat × Nat × (Nat → Int32)} {H : Heap} (h : va_P D vwCl (st_w q r sa tC) H) : va_at D vwCl ((st_E D q r sa sv tC X).2.1 88, ix_ce (st_E D q r sa sv tC X) mu0 88) H := by
  rw [sc_88]
  exact h 88 (q 88, .inr (2, [.ref (q 89), .ref (q 112), .ref (sa 0), .int 0])) rfl
set_option maxRecDepth 100000 in
theorem sp_89 {D : va_G} {q r sa sv : Nat → Nat} {tC : Nat → ClassId} {X : Nat × Nat × (Nat → Int32)} {H : Heap} (h : va_P D vwCl (st_w q r sa tC) H) : va_at D vwCl ((st_E D q r sa sv tC X).2.1 89, ix_ce (st_E D q r sa sv tC X) mu0 89) H := by
  rw [sc_89]
  exact h 89 (q 89, .inr (6, [.ref (q 90), .ref (q 92)])) rfl
set_option maxRecDepth 100000 in
theorem sp_90 {D : va_G} {q r sa sv : Nat → Nat} {tC : Nat → ClassId} {X : Nat × Nat × (Nat → Int32)} {H : Heap} (h : va_P D vwCl (st_w q r sa tC) H) : va_at D vwCl ((st_E D q r sa sv tC X).2.1 90, ix_ce (st_E D q r sa sv tC X) mu0 90) H := by
  rw [sc_90]
  exact h 90 (q 90, .inr (3, [.ref (q 91), .int 0])) rfl
set_option maxRecDepth 100000 in
theorem sp_91 {D : va_G} {q r sa sv : Nat → Nat} {tC : Nat → ClassId} {X : Nat × Nat × (Nat → Int32)} {H : Heap} (h : va_P D vwCl (st_w q r sa tC) H) : va_at D vwCl ((st_E D q r sa sv tC X).2.1 91, ix_ce (st_E D q r sa sv tC X) mu0 91) H := by
  rw [sc_91]
  exact h 91 (q 91, .inl (tC 0, 50, .inl (fun _ => 0))) rfl
set_option maxRecDepth 100000 in
theorem sp_92 {D : va_G} {q r sa sv : Nat → Nat} {tC : Nat → ClassId} {X : Nat × Nat × (Nat → Int32)} {H : Heap} (h : va_P D vwCl (st_w q r sa tC) H) : va_at D vwCl ((st_E D q r sa sv tC X).2.1 92, ix_ce (st_E D q r sa sv tC X) mu0 92) H := by
  rw [sc_92]
  exact h 92 (q 92, .inl (tC 0, 50, .inl (fun _ => 0))) rfl
set_option maxRecDepth 100000 in
theorem sp_93 {D : va_G} {q r sa sv : Nat → Nat} {tC : Nat → ClassId} {X : Nat × Nat × (Nat → Int32)} {H : Heap} (h : va_P D vwCl (st_w q r sa tC) H) : va_at D vwCl ((st_E D q r sa sv tC X).2.1 93, ix_ce (st_E D q r sa sv tC X) mu0 93) H := by
  rw [sc_93]
  exact h 93 (q 93, .inr (7, [.ref (q 94), .int 0, .int 0, .int 0])) rfl
set_option maxRecDepth 100000 in
theorem sp_94 {D : va_G} {q r sa sv : Nat → Nat} {tC : Nat → ClassId} {X : Nat × Nat × (Nat → Int32)} {H : Heap} (h : va_P D vwCl (st_w q r sa tC) H) : va_at D vwCl ((st_E D q r sa sv tC X).2.1 94, ix_ce (st_E D q r sa sv tC X) mu0 94) H := by
  rw [sc_94]
  exact h 94 (q 94, .inr (3, [.ref (q 95), .int 0])) rfl
set_option maxRecDepth 100000 in
theorem sp_95 {D : va_G} {q r sa sv : Nat → Nat} {tC : Nat → ClassId} {X : Nat × Nat × (Nat → Int32)} {H : Heap} (h : va_P D vwCl (st_w q r sa tC) H) : va_at D vwCl ((st_E D q r sa sv tC X).2.1 95, ix_ce (st_E D q r sa sv tC X) mu0 95) H := by
  rw [sc_95]
  exact h 95 (q 95, .inl (tC 0, 40, .inl (fun _ => 0))) rfl
set_option maxRecDepth 100000 in
theorem sp_96 {D : va_G} {q r sa sv : Nat → Nat} {tC : Nat → ClassId} {X : Nat × Nat × (Nat → Int32)} {H : Heap} (h : va_P D vwCl (st_w q r sa tC) H) : va_at D vwCl ((st_E D q r sa sv tC X).2.1 96, ix_ce (st_E D q r sa sv tC X) mu0 96) H := by
  rw [sc_96]
  exact h 96 (q 96, .inr (1, [.ref (q 97), .ref (q 114), .ref (q 115), .int 0])) rfl
set_option maxRecDepth 100000 in
theorem sp_97 {D : va_G} {q r sa sv : Nat → Nat} {tC : Nat → ClassId} {X : Nat × Nat × (Nat → Int32)} {H : Heap} (h : va_P D vwCl (st_w q r sa tC) H) : va_at D vwCl ((st_E D q r sa sv tC X).2.1 97, ix_ce (st_E D q r sa sv tC X) mu0 97) H := by
  rw [sc_97]
  exact h 97 (q 97, .inl (tC 0, 1792, .inl (fun _ => 0))) rfl
set_option maxRecDepth 100000 in
theorem sp_98 {D : va_G} {q r sa sv : Nat → Nat} {tC : Nat → ClassId} {X : Nat × Nat × (Nat → Int32)} {H : Heap} (h : va_P D vwCl (st_w q r sa tC) H) : va_at D vwCl ((st_E D q r sa sv tC X).2.1 98, ix_ce (st_E D q r sa sv tC X) mu0 98) H := by
  have a : H[q 98]? = some (vp_cell (tC 2) (4, .inr (.inr (.inr (.inr (fun i => [some (q 99), some (q 102), some (q 105), some (q 108)].getD i none)))))) := h 98 _ rfl
  rw [ix_ce_ref (t := 22) (by decide +kernel) (by decide)]
  show H[q 98]? = some (vp_cell (tC 2) (4, .inr (.inr (.inr (.inr (fun i => some (ix_rv (st_E D q r sa sv tC X) ((ix_sh 98).2.getD i none))))))))
  rw [a]
  refine congrArg some (st_arr (fun j hj => ?_))
  match j, hj with
  | 0, _ => rfl
  | 1, _ => rfl
  | 2, _ => rfl
  | 3, _ => rfl
  | j + 4, hj => omega
set_option maxRecDepth 100000 in
theorem sp_99 {D : va_G} {q r sa sv : Nat → Nat} {tC : Nat → ClassId} {X : Nat × Nat × (Nat → Int32)} {H : Heap} (h : va_P D vwCl (st_w q r sa tC) H) : va_at D vwCl ((st_E D q r sa sv tC X).2.1 99, ix_ce (st_E D q r sa sv tC X) mu0 99) H := by
  rw [sc_99]
  exact h 99 (q 99, .inr (4, [.ref (q 100), .int 0])) rfl
set_option maxRecDepth 100000 in
theorem sp_100 {D : va_G} {q r sa sv : Nat → Nat} {tC : Nat → ClassId} {X : Nat × Nat × (Nat → Int32)} {H : Heap} (h : va_P D vwCl (st_w q r sa tC) H) : va_at D vwCl ((st_E D q r sa sv tC X).2.1 100, ix_ce (st_E D q r sa sv tC X) mu0 100) H := by
  rw [sc_100]
  exact h 100 (q 100, .inr (3, [.ref (q 101), .int 0])) rfl
set_option maxRecDepth 100000 in
theorem sp_101 {D : va_G} {q r sa sv : Nat → Nat} {tC : Nat → ClassId} {X : Nat × Nat × (Nat → Int32)} {H : Heap} (h : va_P D vwCl (st_w q r sa tC) H) : va_at D vwCl ((st_E D q r sa sv tC X).2.1 101, ix_ce (st_E D q r sa sv tC X) mu0 101) H := by
  rw [sc_101]
  exact h 101 (q 101, .inl (tC 0, 40, .inl (fun _ => 0))) rfl
set_option maxRecDepth 100000 in
theorem sp_102 {D : va_G} {q r sa sv : Nat → Nat} {tC : Nat → ClassId} {X : Nat × Nat × (Nat → Int32)} {H : Heap} (h : va_P D vwCl (st_w q r sa tC) H) : va_at D vwCl ((st_E D q r sa sv tC X).2.1 102, ix_ce (st_E D q r sa sv tC X) mu0 102) H := by
  rw [sc_102]
  exact h 102 (q 102, .inr (4, [.ref (q 103), .int 0])) rfl
set_option maxRecDepth 100000 in
theorem sp_103 {D : va_G} {q r sa sv : Nat → Nat} {tC : Nat → ClassId} {X : Nat × Nat × (Nat → Int32)} {H : Heap} (h : va_P D vwCl (st_w q r sa tC) H) : va_at D vwCl ((st_E D q r sa sv tC X).2.1 103, ix_ce (st_E D q r sa sv tC X) mu0 103) H := by
  rw [sc_103]
  exact h 103 (q 103, .inr (3, [.ref (q 104), .int 0])) rfl
set_option maxRecDepth 100000 in
theorem sp_104 {D : va_G} {q r sa sv : Nat → Nat} {tC : Nat → ClassId} {X : Nat × Nat × (Nat → Int32)} {H : Heap} (h : va_P D vwCl (st_w q r sa tC) H) : va_at D vwCl ((st_E D q r sa sv tC X).2.1 104, ix_ce (st_E D q r sa sv tC X) mu0 104) H := by
  rw [sc_104]
  exact h 104 (q 104, .inl (tC 0, 40, .inl (fun _ => 0))) rfl
set_option maxRecDepth 100000 in
theorem sp_105 {D : va_G} {q r sa sv : Nat → Nat} {tC : Nat → ClassId} {X : Nat × Nat × (Nat → Int32)} {H : Heap} (h : va_P D vwCl (st_w q r sa tC) H) : va_at D vwCl ((st_E D q r sa sv tC X).2.1 105, ix_ce (st_E D q r sa sv tC X) mu0 105) H := by
  rw [sc_105]
  exact h 105 (q 105, .inr (4, [.ref (q 106), .int 0])) rfl
set_option maxRecDepth 100000 in
theorem sp_106 {D : va_G} {q r sa sv : Nat → Nat} {tC : Nat → ClassId} {X : Nat × Nat × (Nat → Int32)} {H : Heap} (h : va_P D vwCl (st_w q r sa tC) H) : va_at D vwCl ((st_E D q r sa sv tC X).2.1 106, ix_ce (st_E D q r sa sv tC X) mu0 106) H := by
  rw [sc_106]
  exact h 106 (q 106, .inr (3, [.ref (q 107), .int 0])) rfl
set_option maxRecDepth 100000 in
theorem sp_107 {D : va_G} {q r sa sv : Nat → Nat} {tC : Nat → ClassId} {X : Nat × Nat × (Nat → Int32)} {H : Heap} (h : va_P D vwCl (st_w q r sa tC) H) : va_at D vwCl ((st_E D q r sa sv tC X).2.1 107, ix_ce (st_E D q r sa sv tC X) mu0 107) H := by
  rw [sc_107]
  exact h 107 (q 107, .inl (tC 0, 40, .inl (fun _ => 0))) rfl
set_option maxRecDepth 100000 in
theorem sp_108 {D : va_G} {q r sa sv : Nat → Nat} {tC : Nat → ClassId} {X : Nat × Nat × (Nat → Int32)} {H : Heap} (h : va_P D vwCl (st_w q r sa tC) H) : va_at D vwCl ((st_E D q r sa sv tC X).2.1 108, ix_ce (st_E D q r sa sv tC X) mu0 108) H := by
  rw [sc_108]
  exact h 108 (q 108, .inr (4, [.ref (q 109), .int 0])) rfl
set_option maxRecDepth 100000 in
theorem sp_109 {D : va_G} {q r sa sv : Nat → Nat} {tC : Nat → ClassId} {X : Nat × Nat × (Nat → Int32)} {H : Heap} (h : va_P D vwCl (st_w q r sa tC) H) : va_at D vwCl ((st_E D q r sa sv tC X).2.1 109, ix_ce (st_E D q r sa sv tC X) mu0 109) H := by
  rw [sc_109]
  exact h 109 (q 109, .inr (3, [.ref (q 110), .int 0])) rfl
set_option maxRecDepth 100000 in
theorem sp_110 {D : va_G} {q r sa sv : Nat → Nat} {tC : Nat → ClassId} {X : Nat × Nat × (Nat → Int32)} {H : Heap} (h : va_P D vwCl (st_w q r sa tC) H) : va_at D vwCl ((st_E D q r sa sv tC X).2.1 110, ix_ce (st_E D q r sa sv tC X) mu0 110) H := by
  rw [sc_110]
  exact h 110 (q 110, .inl (tC 0, 40, .inl (fun _ => 0))) rfl
set_option maxRecDepth 100000 in
theorem sp_111 {D : va_G} {q r sa sv : Nat → Nat} {tC : Nat → ClassId} {X : Nat × Nat × (Nat → Int32)} {H : Heap} (h : va_P D vwCl (st_w q r sa tC) H) : va_at D vwCl ((st_E D q r sa sv tC X).2.1 111, ix_ce (st_E D q r sa sv tC X) mu0 111) H := by
  rw [sc_111]
  exact h 111 (q 111, .inl (tC 0, 6, .inl (fun _ => 0))) rfl
set_option maxRecDepth 100000 in
theorem sp_112 {D : va_G} {q r sa sv : Nat → Nat} {tC : Nat → ClassId} {X : Nat × Nat × (Nat → Int32)} {H : Heap} (h : va_P D vwCl (st_w q r sa tC) H) : va_at D vwCl ((st_E D q r sa sv tC X).2.1 112, ix_ce (st_E D q r sa sv tC X) mu0 112) H := by
  rw [sc_112]
  exact h 112 (r 0, .inr (10, [.ref (r 1), .ref (r 2), .ref (r 3), .int 0, .ref (r 4), .int (-1), .int 0, .ref (r 5), .int 0, .int 0, .int 0, .int 0, .ref (r 6), .int 0, .ref (r 7), .ref (r 8), .ref (r 9), .ref (r 10), .int 0, .int 0, .int 0, .int 0, .ref (r 11), .ref (r 12), .ref (r 13), .ref (r 14)])) rfl
set_option maxRecDepth 100000 in
theorem sp_113 {D : va_G} {q r sa sv : Nat → Nat} {tC : Nat → ClassId} {X : Nat × Nat × (Nat → Int32)} {H : Heap} (h : va_P D vwCl (st_w q r sa tC) H) : va_at D vwCl ((st_E D q r sa sv tC X).2.1 113, ix_ce (st_E D q r sa sv tC X) mu0 113) H := by
  rw [sc_113]
  exact h 113 (r 1, .inl (tC 0, 256, .inl (nwW 6))) rfl
set_option maxRecDepth 100000 in
theorem sp_114 {D : va_G} {q r sa sv : Nat → Nat} {tC : Nat → ClassId} {X : Nat × Nat × (Nat → Int32)} {H : Heap} (h : va_P D vwCl (st_w q r sa tC) H) : va_at D vwCl ((st_E D q r sa sv tC X).2.1 114, ix_ce (st_E D q r sa sv tC X) mu0 114) H := by
  rw [sc_114]
  exact h 114 (r 2, .inl (tC 0, 256, .inl (fun _ => 0))) rfl
set_option maxRecDepth 100000 in
theorem sp_115 {D : va_G} {q r sa sv : Nat → Nat} {tC : Nat → ClassId} {X : Nat × Nat × (Nat → Int32)} {H : Heap} (h : va_P D vwCl (st_w q r sa tC) H) : va_at D vwCl ((st_E D q r sa sv tC X).2.1 115, ix_ce (st_E D q r sa sv tC X) mu0 115) H := by
  rw [sc_115]
  exact h 115 (r 3, .inl (tC 0, 256, .inl (fun _ => 0))) rfl
set_option maxRecDepth 100000 in
theorem sp_116 {D : va_G} {q r sa sv : Nat → Nat} {tC : Nat → ClassId} {X : Nat × Nat × (Nat → Int32)} {H : Heap} (h : va_P D vwCl (st_w q r sa tC) H) : va_at D vwCl ((st_E D q r sa sv tC X).2.1 116, ix_ce (st_E D q r sa sv tC X) mu0 116) H := by
  rw [sc_116]
  exact h 116 (r 4, .inl (tC 0, 6, .inl (fun _ => 0))) rfl
set_option maxRecDepth 100000 in
theorem sp_117 {D : va_G} {q r sa sv : Nat → Nat} {tC : Nat → ClassId} {X : Nat × Nat × (Nat → Int32)} {H : Heap} (h : va_P D vwCl (st_w q r sa tC) H) : va_at D vwCl ((st_E D q r sa sv tC X).2.1 117, ix_ce (st_E D q r sa sv tC X) mu0 117) H := by
  have a : H[r 5]? = some (vp_cell (tC 3) (2, .inr (.inr (.inr (.inr (fun i => [some (sa 1), some (sa 2)].getD i none)))))) := h 117 _ rfl
  rw [ix_ce_ref (t := 23) (by decide +kernel) (by decide)]
  show H[r 5]? = some (vp_cell (tC 3) (2, .inr (.inr (.inr (.inr (fun i => some (ix_rv (st_E D q r sa sv tC X) ((ix_sh 117).2.getD i none))))))))
  rw [a]
  refine congrArg some (st_arr (fun j hj => ?_))
  match j, hj with
  | 0, _ => rfl
  | 1, _ => rfl
  | j + 2, hj => omega
set_option maxRecDepth 100000 in
theorem sp_118 {D : va_G} {q r sa sv : Nat → Nat} {tC : Nat → ClassId} {X : Nat × Nat × (Nat → Int32)} {H : Heap} (h : va_P D vwCl (st_w q r sa tC) H) : va_at D vwCl ((st_E D q r sa sv tC X).2.1 118, ix_ce (st_E D q r sa sv tC X) mu0 118) H := by
  rw [sc_118]
  exact h 118 (r 6, .inl (tC 0, 60, .inl (fun _ => 0))) rfl
set_option maxRecDepth 100000 in
theorem sp_119 {D : va_G} {q r sa sv : Nat → Nat} {tC : Nat → ClassId} {X : Nat × Nat × (Nat → Int32)} {H : Heap} (h : va_P D vwCl (st_w q r sa tC) H) : va_at D vwCl ((st_E D q r sa sv tC X).2.1 119, ix_ce (st_E D q r sa sv tC X) mu0 119) H := by
  rw [sc_119]
  exact h 119 (r 7, .inl (tC 0, 4, .inl (fun _ => 0))) rfl
set_option maxRecDepth 100000 in
theorem sp_120 {D : va_G} {q r sa sv : Nat → Nat} {tC : Nat → ClassId} {X : Nat × Nat × (Nat → Int32)} {H : Heap} (h : va_P D vwCl (st_w q r sa tC) H) : va_at D vwCl ((st_E D q r sa sv tC X).2.1 120, ix_ce (st_E D q r sa sv tC X) mu0 120) H := by
  rw [sc_120]
  exact h 120 (r 8, .inl (tC 0, 60, .inl (fun _ => 0))) rfl
set_option maxRecDepth 100000 in
theorem sp_121 {D : va_G} {q r sa sv : Nat → Nat} {tC : Nat → ClassId} {X : Nat × Nat × (Nat → Int32)} {H : Heap} (h : va_P D vwCl (st_w q r sa tC) H) : va_at D vwCl ((st_E D q r sa sv tC X).2.1 121, ix_ce (st_E D q r sa sv tC X) mu0 121) H := by
  rw [sc_121]
  exact h 121 (r 9, .inl (tC 0, 1792, .inl (fun _ => 0))) rfl
set_option maxRecDepth 100000 in
theorem sp_122 {D : va_G} {q r sa sv : Nat → Nat} {tC : Nat → ClassId} {X : Nat × Nat × (Nat → Int32)} {H : Heap} (h : va_P D vwCl (st_w q r sa tC) H) : va_at D vwCl ((st_E D q r sa sv tC X).2.1 122, ix_ce (st_E D q r sa sv tC X) mu0 122) H := by
  rw [sc_122]
  exact h 122 (r 10, .inl (tC 0, 40, .inl (fun _ => 0))) rfl
set_option maxRecDepth 100000 in
theorem sp_123 {D : va_G} {q r sa sv : Nat → Nat} {tC : Nat → ClassId} {X : Nat × Nat × (Nat → Int32)} {H : Heap} (h : va_P D vwCl (st_w q r sa tC) H) : va_at D vwCl ((st_E D q r sa sv tC X).2.1 123, ix_ce (st_E D q r sa sv tC X) mu0 123) H := by
  rw [sc_123]
  exact h 123 (r 11, .inl (tC 0, 4, .inl (fun _ => 0))) rfl
set_option maxRecDepth 100000 in
theorem sp_124 {D : va_G} {q r sa sv : Nat → Nat} {tC : Nat → ClassId} {X : Nat × Nat × (Nat → Int32)} {H : Heap} (h : va_P D vwCl (st_w q r sa tC) H) : va_at D vwCl ((st_E D q r sa sv tC X).2.1 124, ix_ce (st_E D q r sa sv tC X) mu0 124) H := by
  rw [sc_124]
  exact h 124 (r 12, .inl (tC 0, 4, .inl (fun _ => 0))) rfl
set_option maxRecDepth 100000 in
theorem sp_125 {D : va_G} {q r sa sv : Nat → Nat} {tC : Nat → ClassId} {X : Nat × Nat × (Nat → Int32)} {H : Heap} (h : va_P D vwCl (st_w q r sa tC) H) : va_at D vwCl ((st_E D q r sa sv tC X).2.1 125, ix_ce (st_E D q r sa sv tC X) mu0 125) H := by
  rw [sc_125]
  exact h 125 (r 13, .inl (tC 0, 160, .inl (fun _ => 0))) rfl
set_option maxRecDepth 100000 in
theorem sp_126 {D : va_G} {q r sa sv : Nat → Nat} {tC : Nat → ClassId} {X : Nat × Nat × (Nat → Int32)} {H : Heap} (h : va_P D vwCl (st_w q r sa tC) H) : va_at D vwCl ((st_E D q r sa sv tC X).2.1 126, ix_ce (st_E D q r sa sv tC X) mu0 126) H := by
  rw [sc_126]
  exact h 126 (r 14, .inl (tC 0, 40, .inl (fun _ => 0))) rfl
set_option maxRecDepth 100000 in
theorem sp_127 {D : va_G} {q r sa sv : Nat → Nat} {tC : Nat → ClassId} {X : Nat × Nat × (Nat → Int32)} {H : Heap} (h : va_P D vwCl (st_w q r sa tC) H) : va_at D vwCl ((st_E D q r sa sv tC X).2.1 127, ix_ce (st_E D q r sa sv tC X) mu0 127) H := by
  rw [sc_127]
  exact h 127 (q 112, .inr (3, [.ref (q 113), .int 0])) rfl
set_option maxRecDepth 100000 in
theorem sp_128 {D : va_G} {q r sa sv : Nat → Nat} {tC : Nat → ClassId} {X : Nat × Nat × (Nat → Int32)} {H : Heap} (h : va_P D vwCl (st_w q r sa tC) H) : va_at D vwCl ((st_E D q r sa sv tC X).2.1 128, ix_ce (st_E D q r sa sv tC X) mu0 128) H := by
  rw [sc_128]
  exact h 128 (q 113, .inl (tC 0, 50, .inl (fun _ => 0))) rfl
set_option maxRecDepth 100000 in
theorem sp_129 {D : va_G} {q r sa sv : Nat → Nat} {tC : Nat → ClassId} {X : Nat × Nat × (Nat → Int32)} {H : Heap} (h : va_P D vwCl (st_w q r sa tC) H) : va_at D vwCl ((st_E D q r sa sv tC X).2.1 129, ix_ce (st_E D q r sa sv tC X) mu0 129) H := by
  rw [sc_129]
  exact h 129 (q 114, .inl (tC 0, 6, .inl (fun _ => 0))) rfl
set_option maxRecDepth 100000 in
theorem sp_130 {D : va_G} {q r sa sv : Nat → Nat} {tC : Nat → ClassId} {X : Nat × Nat × (Nat → Int32)} {H : Heap} (h : va_P D vwCl (st_w q r sa tC) H) : va_at D vwCl ((st_E D q r sa sv tC X).2.1 130, ix_ce (st_E D q r sa sv tC X) mu0 130) H := by
  rw [sc_130]
  exact h 130 (q 115, .inl (tC 0, 8, .inl (fun _ => 0))) rfl
theorem st_s {P : Nat → Prop} (n : Nat) (h : ∀ k, k < n → P k) (p : P n) : ∀ k, k < n + 1 → P k := fun k hk => (Nat.lt_or_eq_of_le (Nat.le_of_lt_succ hk)).elim (h k) (fun e => e ▸ p)
set_option maxRecDepth 100000 in
theorem st_P {D : va_G} {q r sa sv : Nat → Nat} {tC : Nat → ClassId} {X : Nat × Nat × (Nat → Int32)} {H : Heap} (h : va_P D vwCl (st_w q r sa tC) H) : va_P D vwCl (ix_w (st_E D q r sa sv tC X) mu0) H := by
  intro k e hk
  obtain ⟨hk1, rfl⟩ := ix_w_inv hk
  have P0 : ∀ k, k < 0 → va_at D vwCl ((st_E D q r sa sv tC X).2.1 k, ix_ce (st_E D q r sa sv tC X) mu0 k) H := fun k h => absurd h (Nat.not_lt_zero k)
  have P1 := st_s 0 P0 (sp_0 h)
  have P2 := st_s 1 P1 (sp_1 h)
  have P3 := st_s 2 P2 (sp_2 h)
  have P4 := st_s 3 P3 (sp_3 h)
  have P5 := st_s 4 P4 (sp_4 h)
  have P6 := st_s 5 P5 (sp_5 h)
  have P7 := st_s 6 P6 (sp_6 h)
  have P8 := st_s 7 P7 (sp_7 h)
  have P9 := st_s 8 P8 (sp_8 h)
  have P10 := st_s 9 P9 (sp_9 h)
  have P11 := st_s 10 P10 (sp_10 h)
  have P12 := st_s 11 P11 (sp_11 h)
  have P13 := st_s 12 P12 (sp_12 h)
  have P14 := st_s 13 P13 (sp_13 h)
  have P15 := st_s 14 P14 (sp_14 h)
  have P16 := st_s 15 P15 (sp_15 h)
  have P17 := st_s 16 P16 (sp_16 h)
  have P18 := st_s 17 P17 (sp_17 h)
  have P19 := st_s 18 P18 (sp_18 h)
  have P20 := st_s 19 P19 (sp_19 h)
  have P21 := st_s 20 P20 (sp_20 h)
  have P22 := st_s 21 P21 (sp_21 h)
  have P23 := st_s 22 P22 (sp_22 h)
  have P24 := st_s 23 P23 (sp_23 h)
  have P25 := st_s 24 P24 (sp_24 h)
  have P26 := st_s 25 P25 (sp_25 h)
  have P27 := st_s 26 P26 (sp_26 h)
  have P28 := st_s 27 P27 (sp_27 h)
  have P29 := st_s 28 P28 (sp_28 h)
  have P30 := st_s 29 P29 (sp_29 h)
  have P31 := st_s 30 P30 (sp_30 h)
  have P32 := st_s 31 P31 (sp_31 h)
  have P33 := st_s 32 P32 (sp_32 h)
  have P34 := st_s 33 P33 (sp_33 h)
  have P35 := st_s 34 P34 (sp_34 h)
  have P36 := st_s 35 P35 (sp_35 h)
  have P37 := st_s 36 P36 (sp_36 h)
  have P38 := st_s 37 P37 (sp_37 h)
  have P39 := st_s 38 P38 (sp_38 h)
  have P40 := st_s 39 P39 (sp_39 h)
  have P41 := st_s 40 P40 (sp_40 h)
  have P42 := st_s 41 P41 (sp_41 h)
  have P43 := st_s 42 P42 (sp_42 h)
  have P44 := st_s 43 P43 (sp_43 h)
  have P45 := st_s 44 P44 (sp_44 h)
  have P46 := st_s 45 P45 (sp_45 h)
  have P47 := st_s 46 P46 (sp_46 h)
  have P48 := st_s 47 P47 (sp_47 h)
  have P49 := st_s 48 P48 (sp_48 h)
  have P50 := st_s 49 P49 (sp_49 h)
  have P51 := st_s 50 P50 (sp_50 h)
  have P52 := st_s 51 P51 (sp_51 h)
  have P53 := st_s 52 P52 (sp_52 h)
  have P54 := st_s 53 P53 (sp_53 h)
  have P55 := st_s 54 P54 (sp_54 h)
  have P56 := st_s 55 P55 (sp_55 h)
  have P57 := st_s 56 P56 (sp_56 h)
  have P58 := st_s 57 P57 (sp_57 h)
  have P59 := st_s 58 P58 (sp_58 h)
  have P60 := st_s 59 P59 (sp_59 h)
  have P61 := st_s 60 P60 (sp_60 h)
  have P62 := st_s 61 P61 (sp_61 h)
  have P63 := st_s 62 P62 (sp_62 h)
  have P64 := st_s 63 P63 (sp_63 h)
  have P65 := st_s 64 P64 (sp_64 h)
  have P66 := st_s 65 P65 (sp_65 h)
  have P67 := st_s 66 P66 (sp_66 h)
  have P68 := st_s 67 P67 (sp_67 h)
  have P69 := st_s 68 P68 (sp_68 h)
  have P70 := st_s 69 P69 (sp_69 h)
  have P71 := st_s 70 P70 (sp_70 h)
  have P72 := st_s 71 P71 (sp_71 h)
  have P73 := st_s 72 P72 (sp_72 h)
  have P74 := st_s 73 P73 (sp_73 h)
  have P75 := st_s 74 P74 (sp_74 h)
  have P76 := st_s 75 P75 (sp_75 h)
  have P77 := st_s 76 P76 (sp_76 h)
  have P78 := st_s 77 P77 (sp_77 h)
  have P79 := st_s 78 P78 (sp_78 h)
  have P80 := st_s 79 P79 (sp_79 h)
  have P81 := st_s 80 P80 (sp_80 h)
  have P82 := st_s 81 P81 (sp_81 h)
  have P83 := st_s 82 P82 (sp_82 h)
  have P84 := st_s 83 P83 (sp_83 h)
  have P85 := st_s 84 P84 (sp_84 h)
  have P86 := st_s 85 P85 (sp_85 h)
  have P87 := st_s 86 P86 (sp_86 h)
  have P88 := st_s 87 P87 (sp_87 h)
  have P89 := st_s 88 P88 (sp_88 h)
  have P90 := st_s 89 P89 (sp_89 h)
  have P91 := st_s 90 P90 (sp_90 h)
  have P92 := st_s 91 P91 (sp_91 h)
  have P93 := st_s 92 P92 (sp_92 h)
  have P94 := st_s 93 P93 (sp_93 h)
  have P95 := st_s 94 P94 (sp_94 h)
  have P96 := st_s 95 P95 (sp_95 h)
  have P97 := st_s 96 P96 (sp_96 h)
  have P98 := st_s 97 P97 (sp_97 h)
  have P99 := st_s 98 P98 (sp_98 h)
  have P100 := st_s 99 P99 (sp_99 h)
  have P101 := st_s 100 P100 (sp_100 h)
  have P102 := st_s 101 P101 (sp_101 h)
  have P103 := st_s 102 P102 (sp_102 h)
  have P104 := st_s 103 P103 (sp_103 h)
  have P105 := st_s 104 P104 (sp_104 h)
  have P106 := st_s 105 P105 (sp_105 h)
  have P107 := st_s 106 P106 (sp_106 h)
  have P108 := st_s 107 P107 (sp_107 h)
  have P109 := st_s 108 P108 (sp_108 h)
  have P110 := st_s 109 P109 (sp_109 h)
  have P111 := st_s 110 P110 (sp_110 h)
  have P112 := st_s 111 P111 (sp_111 h)
  have P113 := st_s 112 P112 (sp_112 h)
  have P114 := st_s 113 P113 (sp_113 h)
  have P115 := st_s 114 P114 (sp_114 h)
  have P116 := st_s 115 P115 (sp_115 h)
  have P117 := st_s 116 P116 (sp_116 h)
  have P118 := st_s 117 P117 (sp_117 h)
  have P119 := st_s 118 P118 (sp_118 h)
  have P120 := st_s 119 P119 (sp_119 h)
  have P121 := st_s 120 P120 (sp_120 h)
  have P122 := st_s 121 P121 (sp_121 h)
  have P123 := st_s 122 P122 (sp_122 h)
  have P124 := st_s 123 P123 (sp_123 h)
  have P125 := st_s 124 P124 (sp_124 h)
  have P126 := st_s 125 P125 (sp_125 h)
  have P127 := st_s 126 P126 (sp_126 h)
  have P128 := st_s 127 P127 (sp_127 h)
  have P129 := st_s 128 P128 (sp_128 h)
  have P130 := st_s 129 P129 (sp_129 h)
  have P131 := st_s 130 P130 (sp_130 h)
  exact P131 k hk1
theorem st_at {D : va_G} {q r sa sv : Nat → Nat} {tC : Nat → ClassId} {X : Nat × Nat × (Nat → Int32)} {i : Nat} (hi : i < ix_N) : ∃ p, (st_w q r sa tC)[i]? = some p ∧ p.1 = (st_E D q r sa sv tC X).2.1 i := by
  have e := congrArg (fun z => z[i]?) (st_w_ad D q r sa sv tC X)
  simp only [List.getElem?_map, List.getElem?_range hi] at e
  cases hp : (st_w q r sa tC)[i]? with
  | none => rw [hp] at e; cases e
  | some p =>
    rw [hp] at e
    exact ⟨p, rfl, Option.some.inj e⟩
theorem st_EO {D : va_G} {q r sa sv : Nat → Nat} {tC : Nat → ClassId} {X : Nat × Nat × (Nat → Int32)} {A : Nat → Prop} (h : va_D A (st_w q r sa tC)) : ix_EO (st_E D q r sa sv tC X) := by
  intro i j hi hj e
  obtain ⟨a, a1, a2⟩ := st_at (D := D) (q := q) (r := r) (sa := sa) (sv := sv) (tC := tC) (X := X) hi
  obtain ⟨b, b1, b2⟩ := st_at (D := D) (q := q) (r := r) (sa := sa) (sv := sv) (tC := tC) (X := X) hj
  exact h.1 i j a b a1 b1 (by rw [a2, b2]; exact e)
theorem st_A {D : va_G} {q r sa sv : Nat → Nat} {tC : Nat → ClassId} {X : Nat × Nat × (Nat → Int32)} {A : Nat → Prop} (h : va_D A (st_w q r sa tC)) : ∀ a, ix_A (st_E D q r sa sv tC X) a → A a := by
  rintro a ⟨k, hk, rfl⟩
  obtain ⟨b, b1, b2⟩ := st_at (D := D) (q := q) (r := r) (sa := sa) (sv := sv) (tC := tC) (X := X) hk
  rw [← b2]
  exact h.2 k b b1
