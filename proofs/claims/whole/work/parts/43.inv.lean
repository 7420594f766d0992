/-! ===== what class and model have in common between two calls ===== -/
/-- a water's ranges -/
def WR (v : WV) (M : Nat) : Prop := WAt v M ∧ WyOk v ∧ (∀ b, b < 8 → ∃ K : Nat, K < 7 ∧ v 4 b = nI K) ∧ (∀ b, b < 8 → ∃ m : Nat, m < 10 ∧ v 5 b = nI m) ∧ ∀ b, b < 8 → ∃ x : Nat, x ≤ 99 ∧ v 7 b = nI x
def SR (μ : ix_M) (s : Nat) (f : Nat → Int32) : Prop :=
  (wv μ (s + 1) = nv f ∧ ∃ M, M ≤ 9999 ∧ WR (nv f) M) ∧ μ s 5 = f 3 ∧
  (∃ n, n ≤ 50 ∧ μ (s + 18) 1 = nI n ∧ f 4 = nI n ∧ ∀ j, j < n → μ (s + 19) j = f (82 + j) ∧ ∃ b, b < 256 ∧ f (82 + j) = nI b) ∧
  (∃ n, n ≤ 20 ∧ μ (s + 20) 1 = nI n ∧ f 5 = nI n ∧ ∀ j, j < n → μ (s + 21) j = f (132 + j)) ∧
  (∀ j, j < 6 → μ (s + 22) j = f (12 + j) ∧ ∃ x, x ≤ 99 ∧ f (12 + j) = nI x) ∧
  (∃ ds, TxtOk μ (s + 10) ds ∧ TxtM f 152 ds) ∧ ∃ dl, TxtOk μ (s + 14) dl ∧ TxtM f 204 dl
def SH (μ : ix_M) : Prop := ∀ i, i < 4 → μ (99 + 3 * i) 1 = μ 123 i ∧ ∃ n, n ≤ 40 ∧ μ (100 + 3 * i) 1 = nI n ∧ μ 124 i = nI n ∧ ∀ j, j < n → μ (101 + 3 * i) j = μ 125 (40 * i + j)
def TRr (μ : ix_M) : Prop := ∃ tr, TrC μ tr ∧ μ 112 18 = nI tr.length ∧ ∀ j, j < tr.length → μ 122 j = tr.getD j 0
def Inv (μ : ix_M) : Prop := SR μ 1 (μ 113) ∧ (μ 0 2 ≠ 0 → SR μ 24 (μ 114)) ∧ μ 0 2 = μ 112 3 ∧ (∀ k, k ≤ 5 → μ 111 k = μ 116 k) ∧ SH μ ∧ TRr μ ∧ μ 112 5 = -1 ∧ (∀ t, t < 256 → μ 97 (1536 + t) = 0) ∧ ∀ t, t < 256 → μ 121 (1536 + t) = 0
theorem SR.fx {μ μ' : ix_M} {s : Nat} {f f' : Nat → Int32} (h : SR μ s f) (hc : ∀ a, s ≤ a → a ≤ s + 22 → a ≠ s + 13 → a ≠ s + 17 → μ' a = μ a) (hf : RE f' f) : SR μ' s f' := by
  obtain ⟨⟨h1, M, hM, h2⟩, h3, ⟨n, n1, n2, n3, n4⟩, ⟨m, m1, m2, m3, m4⟩, h6, ⟨ds, d1, d2⟩, dl, d3, d4⟩ := h
  have en : nv f' = nv f := nv_cong hf
  have ew : wv μ' (s + 1) = wv μ (s + 1) := wv_fx (fun r hr => hc _ (by omega) (by omega) (by omega) (by omega))
  refine ⟨⟨by rw [ew, en]; exact h1, M, hM, by rw [en]; exact h2⟩, ?_, ⟨n, n1, ?_, ?_, fun j hj => ?_⟩, ⟨m, m1, ?_, ?_, fun j hj => ?_⟩, fun j hj => ?_, ⟨ds, d1.fx (hc _ (by omega) (by omega) (by omega) (by omega)) (hc _ (by omega) (by omega) (by omega) (by omega)), d2.cong (by decide) hf⟩, dl, d3.fx (hc _ (by omega) (by omega) (by omega) (by omega)) (hc _ (by omega) (by omega) (by omega) (by omega)), d4.cong (by decide) hf⟩
  · rw [hc s (by omega) (by omega) (by omega) (by omega), hf 3 (by decide)]
    exact h3
  · rw [hc _ (by omega) (by omega) (by omega) (by omega)]
    exact n2
  · rw [hf 4 (by decide)]
    exact n3
  · rw [hc _ (by omega) (by omega) (by omega) (by omega), hf _ (by omega)]
    exact n4 j hj
  · rw [hc _ (by omega) (by omega) (by omega) (by omega)]
    exact m2
  · rw [hf 5 (by decide)]
    exact m3
  · rw [hc _ (by omega) (by omega) (by omega) (by omega), hf _ (by omega)]
    exact m4 j hj
  · rw [hc _ (by omega) (by omega) (by omega) (by omega), hf _ (by omega)]
    exact h6 j hj
/-- cells that a call on what is now may change -/
def nowB (a : Nat) : Bool := a == 0 || (1 ≤ a && a ≤ 23) || a == 37 || a == 41 || (47 ≤ a && a ≤ 93) || a == 96 || a == 97 || a == 112 || a == 113 || a == 115 || (117 ≤ a && a ≤ 121) || (126 ≤ a && a ≤ 130)
theorem SH.fx {μ μ' : ix_M} (h : SH μ) (hc : ∀ a, 98 ≤ a → a ≤ 110 → μ' a = μ a) (h3 : μ' 123 = μ 123) (h4 : μ' 124 = μ 124) (h5 : μ' 125 = μ 125) : SH μ' := by
  intro i hi
  rw [h3, h4, h5, hc _ (by omega) (by omega), hc _ (by omega) (by omega), hc _ (by omega) (by omega)]
  exact h i hi
theorem Inv.gen {μ μ' : ix_M} {L : List Nat} (h : Inv μ) (hF : Fx L μ μ') (hL : ∀ a ∈ L, nowB a = true) (hS : SR μ' 1 (μ' 113)) (h02 : μ' 0 2 = μ 0 2) (h3 : μ' 112 3 = μ 112 3) (h5 : μ' 112 5 = -1) (h18 : μ' 112 18 = μ 112 18) (z1 : ∀ t, t < 256 → μ' 97 (1536 + t) = 0) (z2 : ∀ t, t < 256 → μ' 121 (1536 + t) = 0) : Inv μ' := by
  have hc : ∀ a, nowB a = false → μ' a = μ a := fun a ha => hF a (fun z => by rw [hL a z] at ha; exact absurd ha (by decide))
  obtain ⟨i1, i2, i3, i4, i5, ⟨tr, t1, t2, t3⟩, i7, i8, i9⟩ := h
  have e94 := hc 94 rfl
  have e95 := hc 95 rfl
  have e122 := hc 122 rfl
  have bt : ∀ a, 98 ≤ a → a ≤ 111 → nowB a = false := fun a h1 h2 => by
    have : ∀ b : Fin 14, nowB (98 + b.val) = false := by decide
    have := this ⟨a - 98, by omega⟩
    rwa [show 98 + (a - 98) = a by omega] at this
  have bk : ∀ a, 24 ≤ a → a ≤ 46 → a ≠ 37 → a ≠ 41 → nowB a = false := fun a h1 h2 h3 h4 => by
    have : ∀ b : Fin 23, b.val ≠ 13 → b.val ≠ 17 → nowB (24 + b.val) = false := by decide
    have := this ⟨a - 24, by omega⟩ (by simp only; omega) (by simp only; omega)
    rwa [show 24 + (a - 24) = a by omega] at this
  refine ⟨hS, fun z => ?_, by rw [h02, h3]; exact i3, fun k hk => ?_, i5.fx (fun a h1 h2 => hc a (bt a h1 (by omega))) (hc _ rfl) (hc _ rfl) (hc _ rfl), ⟨tr, ?_, by rw [h18]; exact t2, fun j hj => by rw [e122]; exact t3 j hj⟩, h5, z1, z2⟩
  · rw [h02] at z
    exact (i2 z).fx (fun a h1 h2 h3 h4 => hc a (bk a h1 h2 h3 h4)) (fun j _ => by rw [hc 114 rfl])
  · rw [hc 111 rfl, hc 116 rfl]
    exact i4 k hk
  · exact ⟨by rw [e94]; exact t1.1, t1.2.1, fun j hj => by rw [e95]; exact t1.2.2 j hj⟩
theorem Inv.now {μ μ' : ix_M} {L : List Nat} (h : Inv μ) (hF : Fx L μ μ') (hL : ∀ a ∈ L, nowB a = true) (hS : SR μ' 1 (μ' 113)) (h0 : 0 ∉ L ∧ 112 ∉ L ∧ 97 ∉ L ∧ 121 ∉ L) : Inv μ' :=
  h.gen hF hL hS (by rw [hF 0 h0.1]) (by rw [hF 112 h0.2.1]) (by rw [hF 112 h0.2.1]; exact h.2.2.2.2.2.2.1) (by rw [hF 112 h0.2.1]) (by rw [hF 97 h0.2.2.1]; exact h.2.2.2.2.2.2.2.1) (by rw [hF 121 h0.2.2.2]; exact h.2.2.2.2.2.2.2.2)
/-- cells that hold nothing over a call -/
def scrB (a : Nat) : Bool := a == 14 || a == 18 || a == 37 || a == 41 || (47 ≤ a && a ≤ 93) || a == 96 || a == 115 || (117 ≤ a && a ≤ 120) || (126 ≤ a && a ≤ 130)
theorem scr_now (a : Nat) (h : scrB a = true) : nowB a = true ∧ a ≠ 0 ∧ a ≠ 112 ∧ a ≠ 97 ∧ a ≠ 121 ∧ a ≠ 113 ∧ (1 ≤ a → a ≤ 23 → a = 14 ∨ a = 18) := by
  simp [scrB, nowB] at h ⊢
  omega
theorem Inv.scr {μ μ' : ix_M} {L : List Nat} (h : Inv μ) (hF : Fx L μ μ') (hL : ∀ a ∈ L, scrB a = true) : Inv μ' := by
  refine h.now hF (fun a ha => (scr_now a (hL a ha)).1) ?_ ⟨fun z => (scr_now _ (hL _ z)).2.1 rfl, fun z => (scr_now _ (hL _ z)).2.2.1 rfl, fun z => (scr_now _ (hL _ z)).2.2.2.1 rfl, fun z => (scr_now _ (hL _ z)).2.2.2.2.1 rfl⟩
  have e : μ' 113 = μ 113 := hF 113 (fun z => (scr_now _ (hL _ z)).2.2.2.2.2.1 rfl)
  rw [e]
  refine h.1.fx (fun a h1 h2 h3 h4 => hF a (fun z => ?_)) (fun j _ => rfl)
  have := (scr_now a (hL a z)).2.2.2.2.2.2 h1 h2
  omega
/-- the model has put its row back -/
theorem Inv.back {μ μ' : ix_M} (h : Inv μ) (hF : Fx [113, 115, 119, 120] μ μ') (he : RE (μ' 113) (μ 113)) : Inv μ' := by
  refine h.now hF (by decide) (h.1.fx (fun a h1 h2 h3 h4 => hF a ?_) he) (by decide)
  simp only [List.mem_cons, List.not_mem_nil, or_false]
  omega
/-- an error told on both sides -/
theorem Inv.err {μ : ix_M} (h : Inv μ) {k : Nat} (hk : k ≤ 5) : Inv (ix_up (ix_up μ 111 k (μ 111 k + 1)) 116 k (μ 116 k + 1)) := by
  obtain ⟨i1, i2, i3, i4, i5, ⟨tr, t1, t2, t3⟩, i7, i8, i9⟩ := h
  have e : ∀ a, a ≠ 111 → a ≠ 116 → ix_up (ix_up μ 111 k (μ 111 k + 1)) 116 k (μ 116 k + 1) a = μ a := fun a h1 h2 => by rw [ix_up_ne h2, ix_up_ne h1]
  have e0 := e 0 (by decide) (by decide)
  have e112 := e 112 (by decide) (by decide)
  have e113 := e 113 (by decide) (by decide)
  refine ⟨?_, fun z => ?_, by rw [e0, e112]; exact i3, fun j hj => ?_, i5.fx (fun a h1 h2 => e a (by omega) (by omega)) (e 123 (by decide) (by decide)) (e 124 (by decide) (by decide)) (e 125 (by decide) (by decide)), ⟨tr, ?_, by rw [e112]; exact t2, fun j hj => by rw [e 122 (by decide) (by decide)]; exact t3 j hj⟩, by rw [e112]; exact i7, by rw [e 97 (by decide) (by decide)]; exact i8, by rw [e 121 (by decide) (by decide)]; exact i9⟩
  · rw [e113]
    exact i1.fx (fun a h1 h2 _ _ => e a (by omega) (by omega)) (fun j _ => rfl)
  · rw [e0] at z
    rw [e 114 (by decide) (by decide)]
    exact (i2 z).fx (fun a h1 h2 _ _ => e a (by omega) (by omega)) (fun j _ => rfl)
  · rw [ix_up_ne (a := 111) (by decide), ix_up_ap, ix_up_ap]
    by_cases c : j = k
    · subst c
      rw [if_pos ⟨rfl, rfl⟩, if_pos ⟨rfl, rfl⟩, i4 j hj]
    · rw [if_neg (fun z => c z.2), if_neg (fun z => c z.2), ix_up_ne (by decide)]
      exact i4 j hj
  · exact ⟨by rw [e 94 (by decide) (by decide)]; exact t1.1, t1.2.1, fun j hj => by rw [e 95 (by decide) (by decide)]; exact t1.2.2 j hj⟩
/-! a water's ranges stay -/
def R99 (x : Int32) : Prop := 0 ≤ x.toInt ∧ x.toInt ≤ 99
theorem R99.nat {x : Int32} (h : R99 x) : ∃ n : Nat, n ≤ 99 ∧ x = nI n := nI_get h.1 h.2 (by decide)
theorem R99.of {n : Nat} (h : n ≤ 99) : R99 (nI n) := by
  unfold R99
  rw [nI_toInt (by omega)]
  omega
theorem R99.held (x : Int32) : R99 (mHeld x) := by
  unfold mHeld R99
  have e99 : (99 : Int32).toInt = 99 := rfl
  have e0 : (0 : Int32).toInt = 0 := rfl
  simp only [fa_lt]
  split <;> split <;> simp_all <;> omega
theorem mTake_99 {d s r : Int32} (hd : 0 ≤ d.toInt) (hs : R99 s) (hr : R99 r) : R99 (s - mTake d s r) ∧ R99 (r + mTake d s r) := by
  obtain ⟨s1, s2⟩ := hs
  obtain ⟨r1, r2⟩ := hr
  have e99 : (99 : Int32).toInt = 99 := rfl
  have e : (99 - r).toInt = 99 - r.toInt := by rw [fb_subI (by omega) (by omega), e99]
  have ht : 0 ≤ (mTake d s r).toInt ∧ (mTake d s r).toInt ≤ s.toInt ∧ (mTake d s r).toInt ≤ 99 - r.toInt := by
    unfold mTake
    simp only [fa_lt, e]
    split <;> split <;> simp_all <;> omega
  unfold R99
  rw [fb_subI (by omega) (by omega), fb_addI (by omega) (by omega)]
  omega
theorem mDips_pos : ∀ K, K < 7 → ∀ m, m < 10 → ∀ s, s < 100 → 0 ≤ (mDips (nI K) (nI m) (nI s)).toInt := by decide +kernel
theorem pDp_99 {v : WV} (h6 : ∀ b, b < 8 → ∃ c : Nat, c < 16 ∧ v 6 b = nI c) (h4 : ∀ b, b < 8 → ∃ K : Nat, K < 7 ∧ v 4 b = nI K) (h5 : ∀ b, b < 8 → ∃ m : Nat, m < 10 ∧ v 5 b = nI m) {s : (Nat → Int32) × (Nat → Int32)} (s1 : ∀ i, i < 16 → R99 (s.1 i)) (s2 : ∀ i, i < 8 → R99 (s.2 i)) : ∀ n, n ≤ 8 → (∀ i, i < 16 → R99 ((pDp v s n).1 i)) ∧ ∀ i, i < 8 → R99 ((pDp v s n).2 i)
  | 0, _ => ⟨s1, s2⟩
  | n + 1, hn => by
    obtain ⟨i1, i2⟩ := pDp_99 h6 h4 h5 s1 s2 n (by omega)
    obtain ⟨c, hc, ec⟩ := h6 n (by omega)
    obtain ⟨K, hK, eK⟩ := h4 n (by omega)
    obtain ⟨m, hm, em⟩ := h5 n (by omega)
    have cc : (v 6 n).toNatClampNeg = c := by rw [ec, nI_clamp (by omega)]
    have hd : 0 ≤ (mDips (v 4 n) (v 5 n) ((pDp v s n).1 c)).toInt := by
      obtain ⟨x, hx, ex⟩ := (i1 c hc).nat
      rw [eK, em, ex]
      exact mDips_pos K hK m hm x (by omega)
    obtain ⟨t1, t2⟩ := mTake_99 hd (i1 c hc) (i2 n (by omega))
    simp only [pDp, cc]
    refine ⟨fun i hi => ?_, fun i hi => ?_⟩
    · unfold upd
      split
      · exact t1
      · exact i1 i hi
    · unfold upd
      split
      · exact t2
      · exact i2 i hi
theorem wr_pV {v : WV} {M : Nat} (h : WR v M) (ds dl : List Int32) (led way : Int32) : WR (pV ds dl led way v) (M + 1) := by
  obtain ⟨h1, h2, h3, h4, h5⟩ := h
  obtain ⟨N, hN, eN⟩ := h1.1
  have pn : pN v = N := by rw [pN, eN, nI_clamp (by omega)]
  refine ⟨h1.pV ds dl led way, h2.pV ds dl led way, fun b hb => ?_, fun b hb => ?_, fun b hb => ?_⟩
  · have e : pV ds dl led way v 4 b = v 4 b := by
      unfold pV
      rw [if_pos (wok_4 hb), if_neg (by decide), if_neg (by decide), if_neg (by decide), if_neg (by decide)]
    rw [e]
    exact h3 b hb
  · have e : pV ds dl led way v 5 b = v 5 b := by
      unfold pV
      rw [if_pos (wok_5 hb), if_neg (by decide), if_neg (by decide), if_neg (by decide), if_neg (by decide)]
    rw [e]
    exact h4 b hb
  · have e : pV ds dl led way v 7 b = pBa dl v (pDD ds v).2 b := by
      unfold pV
      rw [if_pos (wok_7 hb), if_neg (by decide), if_neg (by decide), if_neg (by decide), if_pos rfl]
    have hd := (pDp_99 (s := (pSt ds v, v 7)) h1.2.2 h3 h4 (fun i _ => R99.held _) (fun i hi => by obtain ⟨x, hx, ex⟩ := h5 i hi; show R99 (v 7 i); rw [ex]; exact R99.of hx) N hN).2 b hb
    rw [e]
    refine R99.nat ?_
    unfold pBa pBa1 pDD
    rw [pn]
    split
    · have hl := R99.held (if dl = [] then (if pL v = 0 then 0 else mLeaks (v 4 b) (v 5 b)) else (tEval (mLeaks (v 4 b) (v 5 b)) ((pDp v (pSt ds v, v 7) N).2 b) (pL v) dl []).headD 0)
      have hl : R99 (lawL dl (mLeaks (v 4 b) (v 5 b)) ((pDp v (pSt ds v, v 7) N).2 b) (pL v)) := hl
      generalize lawL dl (mLeaks (v 4 b) (v 5 b)) ((pDp v (pSt ds v, v 7) N).2 b) (pL v) = y at hl
      generalize (pDp v (pSt ds v, v 7) N).2 b = x at hd
      obtain ⟨l1, l2⟩ := hl
      obtain ⟨x1, x2⟩ := hd
      have e : (x - y).toInt = x.toInt - y.toInt := fb_subI (by omega) (by omega)
      have e0 : (0 : Int32).toInt = 0 := rfl
      unfold mMax0 R99
      by_cases c : 0 < x - y
      · rw [if_pos c]
        rw [fa_lt, e0, e] at c
        rw [e]
        omega
      · rw [if_neg c, e0]
        omega
    · exact hd
theorem wr_it {v : WV} {M : Nat} (h : WR v M) (ds dl : List Int32) : ∀ n, WR (pIt ds dl n v) (M + n)
  | 0 => h
  | n + 1 => wr_pV (wr_it h ds dl n) ds dl _ _
/-- what is had is never below 0 -/
theorem mSum_pos {f : Nat → Int32} : ∀ n, n ≤ 8 → (∀ b, b < n → ∃ x : Nat, x ≤ 99 ∧ f b = nI x) → ∃ y : Nat, y ≤ 99 * n ∧ mSum f n = nI y
  | 0, _, _ => ⟨0, by omega, rfl⟩
  | n + 1, hn, h => by
    obtain ⟨y, hy, ey⟩ := mSum_pos n (by omega) (fun b hb => h b (by omega))
    obtain ⟨x, hx, ex⟩ := h n (by omega)
    exact ⟨y + x, by omega, by rw [mSum, ey, ex, nI_add]⟩
theorem WR.had {v : WV} {M : Nat} (h : WR v M) : ∃ y : Nat, y ≤ 792 ∧ pH v = nI y := by
  obtain ⟨N, hN, eN⟩ := h.1.1
  have pn : pN v = N := by rw [pN, eN, nI_clamp (by omega)]
  obtain ⟨y, hy, ey⟩ := mSum_pos (f := v 7) N hN (fun b hb => h.2.2.2.2 b (by omega))
  exact ⟨y, by omega, by rw [pH, pn]; exact ey⟩
