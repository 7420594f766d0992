/-! ===== the law's body, over its script ===== -/
def ix_SX (X : Nat × Nat × (Nat → Int32)) (l : Launch) (cc : ByteArray) (nL : Nat) (own : String) (d : Nat) (rt : Option FieldType) (pc : Nat) (op : ix_Op) : Prop :=
  (∀ (k k' : ix_K) (Q : ix_R → Prop) (ls : ix_L) (st : List ix_V) (μ : ix_M), (∀ x, k x → k' x) → op k Q ls st μ → op k' Q ls st μ) ∧
  ∀ (p : Program) (e : Env) (R : Room) (s : State) (m : MethodId) (args : Array Value) (below : List Frame) (meth : Method) (c : Code) (cells slots : Nat) (Qw : State → Prop) (E : ix_E) (A : Nat → Prop) (Q : ix_R → Prop), E.2.2.2.2.2 = X → ix_C p l e R s m args below meth c cells slots Qw E nL A cc own d rt Q → ∀ (ls : ix_L) (st : List ix_V) (μ : ix_M), op (ix_Vd p l e R s m args below meth c cells slots Qw E nL A) Q ls st μ → ix_Vd p l e R s m args below meth c cells slots Qw E nL A (pc, ls, st, μ)
def ix_AllX (X : Nat × Nat × (Nat → Int32)) (l : Launch) (cc : ByteArray) (nL : Nat) (own : String) (d : Nat) (rt : Option FieldType) (ops : List (Nat × ix_Op)) : Prop := ∀ q ∈ ops, ix_SX X l cc nL own d rt q.1 q.2
def ix_Mo (ops : List (Nat × ix_Op)) : Prop := ∀ q ∈ ops, ∀ (k k' : ix_K) (Q : ix_R → Prop) (ls : ix_L) (st : List ix_V) (μ : ix_M), (∀ x, k x → k' x) → q.2 k Q ls st μ → q.2 k' Q ls st μ
section IXX
variable {X : Nat × Nat × (Nat → Int32)} {l : Launch} {cc : ByteArray} {nL : Nat} {own : String} {d : Nat} {rt : Option FieldType} {ops ops' : List (Nat × ix_Op)} {Q : ix_R → Prop} {pc : Nat}
theorem ix_S.toX {op : ix_Op} (h : ix_S l cc nL own d rt pc op) : ix_SX X l cc nL own d rt pc op := ⟨h.1, fun p e R s m args below meth c cells slots Qw E A Q _ hC ls st μ z => h.2 p e R s m args below meth c cells slots Qw E A Q hC ls st μ z⟩
theorem ix_AllX.nil : ix_AllX X l cc nL own d rt [] := fun _ h => by cases h
theorem ix_AllX.cons {op : ix_Op} (h1 : ix_SX X l cc nL own d rt pc op) (h2 : ix_AllX X l cc nL own d rt ops) : ix_AllX X l cc nL own d rt ((pc, op) :: ops) := fun q hq => (List.mem_cons.mp hq).elim (fun e => e ▸ h1) (h2 q)
theorem ix_AllX.app (h1 : ix_AllX X l cc nL own d rt ops) (h2 : ix_AllX X l cc nL own d rt ops') : ix_AllX X l cc nL own d rt (ops ++ ops') := fun q hq => (List.mem_append.mp hq).elim (h1 q) (h2 q)
theorem ix_AllX.mo (h : ix_AllX X l cc nL own d rt ops) : ix_Mo ops := fun q hq => (h q hq).1
theorem ix_Ev.foldM (hA : ix_Mo ops) {op : ix_Op} (hlk : ix_lk ops pc = some op) {ls : ix_L} {st : List ix_V} {μ : ix_M} (h : op (ix_Ev ops Q) Q ls st μ) : ix_Ev ops Q (pc, ls, st, μ) := by
  intro S hS
  refine hS pc ls st μ op hlk (hA _ (ix_lk_in hlk) (ix_Ev ops Q) S Q ls st μ (fun x hx => hx S hS) h)
theorem ix_Ev.unfoldM (hA : ix_Mo ops) {op : ix_Op} (hlk : ix_lk ops pc = some op) {ls : ix_L} {st : List ix_V} {μ : ix_M} (h : ix_Ev ops Q (pc, ls, st, μ)) : op (ix_Ev ops Q) Q ls st μ := by
  have h2 := h (fun fr => ∃ op, ix_lk ops fr.1 = some op ∧ op (ix_Ev ops Q) Q fr.2.1 fr.2.2.1 fr.2.2.2) (fun pc ls st μ op ho hop => ⟨op, ho, hA _ (ix_lk_in ho) _ _ Q ls st μ (fun x hx => by
    obtain ⟨pc', ls', st', μ'⟩ := x
    obtain ⟨op', ho', hop'⟩ := hx
    exact ix_Ev.foldM hA ho' hop') hop⟩)
  obtain ⟨op', ho', hop'⟩ := h2
  cases hlk.symm.trans ho'
  exact hop'
theorem ix_Ev.eqM (hA : ix_Mo ops) {op : ix_Op} (hlk : ix_lk ops pc = some op) (ls : ix_L) (st : List ix_V) (μ : ix_M) : ix_Ev ops Q (pc, ls, st, μ) = op (ix_Ev ops Q) Q ls st μ := propext ⟨ix_Ev.unfoldM hA hlk, ix_Ev.foldM hA hlk⟩
theorem ix_Ev.soundX (hA : ix_AllX X l cc nL own d rt ops) {p : Program} {e : Env} {R : Room} {s : State} {m : MethodId} {args : Array Value} {below : List Frame} {meth : Method} {c : Code} {cells slots : Nat} {Qw : State → Prop} {E : ix_E} {A : Nat → Prop} (hX : E.2.2.2.2.2 = X) (hC : ix_C p l e R s m args below meth c cells slots Qw E nL A cc own d rt Q) {fr : ix_F} (h : ix_Ev ops Q fr) : ix_Vd p l e R s m args below meth c cells slots Qw E nL A fr :=
  h _ (fun pc ls st μ op hlk hop => (hA _ (ix_lk_in hlk)).2 p e R s m args below meth c cells slots Qw E A Q hX hC ls st μ hop)
theorem ix_lk_app {A B : List (Nat × ix_Op)} (h : ix_lk A pc = none) : ix_lk (A ++ B) pc = ix_lk B pc := by
  induction A with
  | nil => rfl
  | cons q r ih =>
    unfold ix_lk at h
    by_cases c : q.1 = pc
    · rw [if_pos c] at h
      cases h
    · rw [if_neg c] at h
      show ix_lk (q :: (r ++ B)) pc = _
      rw [ix_lk, if_neg c]
      exact ih h
theorem ix_lk_app1 {A B : List (Nat × ix_Op)} {op : ix_Op} (h : ix_lk A pc = some op) : ix_lk (A ++ B) pc = some op := by
  induction A with
  | nil => cases h
  | cons q r ih =>
    unfold ix_lk at h
    show ix_lk (q :: (r ++ B)) pc = _
    by_cases c : q.1 = pc
    · rw [if_pos c] at h
      rw [ix_lk, if_pos c]
      exact h
    · rw [if_neg c] at h
      rw [ix_lk, if_neg c]
      exact ih h
theorem ix_lk_none {A : List (Nat × ix_Op)} {ks : List Nat} {n : Nat} (hk : A.map Prod.fst = ks) (hb : ∀ k ∈ ks, k < n) (h : n ≤ pc) : ix_lk A pc = none := by
  subst hk
  induction A with
  | nil => rfl
  | cons q r ih =>
    have h1 := hb q.1 (by simp)
    rw [ix_lk, if_neg (by omega)]
    exact ih (fun k hk => hb k (by simp at hk ⊢; exact Or.inr hk))
end IXX
def ix_xld (L : Nat) (xs : Nat → Int32) (n : Nat) : ix_Op := fun k _ ls st μ => match st with
  | .inl i :: .inr (.inr (t, _)) :: st' => t = 25 ∧ vp_in i L ∧ k (n, ls, .inl (xs i.toNatClampNeg) :: st', μ)
  | _ => False
def ix_xln (L : Nat) (n : Nat) : ix_Op := fun k _ ls st μ => match st with
  | .inr (.inr (t, _)) :: st' => t = 25 ∧ k (n, ls, .inl (Int32.ofNat L) :: st', μ)
  | _ => False
theorem ix_s_xld {b L : Nat} {xs : Nat → Int32} {l : Launch} {cc : ByteArray} {nL : Nat} {own : String} {d : Nat} {rt : Option FieldType} {pc : Nat} (hd : decode cc pc = .ok (.iaload, 1)) : ix_SX (b, L, xs) l cc nL own d rt pc (ix_xld L xs (pc + 1)) := by
  refine ⟨fun k k' Q ls st μ hk h => ?_, fun p e R s m args below meth c cells slots Qw E A Q hX hC ls st μ h H locs lsa hP hS hl hok => ?_⟩
  · unfold ix_xld at h ⊢; split at h <;> first | exact ⟨h.1, h.2.1, hk _ h.2.2⟩ | exact h
  · unfold ix_xld at h; split at h
    · rename_i i t a st'
      obtain ⟨rfl, hi, h⟩ := h
      have hR := hC.2.2.2.2.2.2.1
      have hx := hR.2.2.1
      rw [hX] at hx
      have hnA : ¬ ix_A E b := by
        have := hR.2.2.2.1
        rw [hX] at this
        exact this
      have hbl : b < s.heap.size := by
        obtain ⟨scr, g1, -⟩ := hx
        exact (Array.getElem?_eq_some_iff.mp g1).1
      have hbA : ¬ A b := fun z => hnA (hC.2.2.2.2.2.2.2.2.2.1 b hbl z)
      have ecv : ix_cv E (.inr (.inr (25, a))) = .ref b := by
        show Value.ref E.2.2.2.2.2.1 = _
        rw [hX]
      show W _ _ _ _ _ _ _ _ _ _ _ _ _ _ _ (F0 m pc lsa (ix_cv E _ :: ix_cv E _ :: _))
      rw [ecv]
      exact va_sld hC.1 hC.2.1 hx hbl hbA hS hi hd (h H locs lsa hP hS hl (ix_ok_cons (ix_oki _) (ix_ok_tl (ix_ok_tl hok))))
    · exact h.elim
theorem ix_s_xln {b L : Nat} {xs : Nat → Int32} {l : Launch} {cc : ByteArray} {nL : Nat} {own : String} {d : Nat} {rt : Option FieldType} {pc : Nat} (hd : decode cc pc = .ok (.arraylength, 1)) : ix_SX (b, L, xs) l cc nL own d rt pc (ix_xln L (pc + 1)) := by
  refine ⟨fun k k' Q ls st μ hk h => ?_, fun p e R s m args below meth c cells slots Qw E A Q hX hC ls st μ h H locs lsa hP hS hl hok => ?_⟩
  · unfold ix_xln at h ⊢; split at h <;> first | exact ⟨h.1, hk _ h.2⟩ | exact h
  · unfold ix_xln at h; split at h
    · rename_i t a st'
      obtain ⟨rfl, h⟩ := h
      have hR := hC.2.2.2.2.2.2.1
      have hx := hR.2.2.1
      rw [hX] at hx
      have hnA : ¬ ix_A E b := by
        have := hR.2.2.2.1
        rw [hX] at this
        exact this
      have hbl : b < s.heap.size := by
        obtain ⟨scr, g1, -⟩ := hx
        exact (Array.getElem?_eq_some_iff.mp g1).1
      have hbA : ¬ A b := fun z => hnA (hC.2.2.2.2.2.2.2.2.2.1 b hbl z)
      have ecv : ix_cv E (.inr (.inr (25, a))) = .ref b := by
        show Value.ref E.2.2.2.2.2.1 = _
        rw [hX]
      show W _ _ _ _ _ _ _ _ _ _ _ _ _ _ _ (F0 m pc lsa (ix_cv E _ :: _))
      rw [ecv]
      exact va_slen hC.1 hC.2.1 hx hbl hbA hS hd (h H locs lsa hP hS hl (ix_ok_cons (ix_oki _) (ix_ok_tl hok)))
    · exact h.elim
theorem tw_1402 : Cond.constantLong "IndigoBoatsLaw" 64 (4294967295) ∈ ix_TB := ix_tab 1402 (by decide +kernel) rfl
def bL_0 (L : Nat) (xs : Nat → Int32) : List (Nat × ix_Op) := [
  (18, ix_iload 3 19),
  (19, ix_aload 0 20),
  (20, ix_xln L 21),
  (21, ix_push (vi 6) 23),
  (23, ix_bin (fun x y => x - y) 24),
  (24, ix_cmp (fun x y => y < x) 1642 27),
  (27, ix_aload 0 28),
  (28, ix_iload 3 29),
  (29, ix_xld L xs 30),
  (30, ix_push (vi 63) 32),
  (32, ix_bin (fun x y => x &&& y) 33),
  (33, ix_switch [(0, 224), (1, 267), (2, 300), (3, 333), (4, 356), (5, 379), (6, 412), (7, 435), (8, 468), (9, 501), (10, 544), (11, 577), (12, 610), (13, 673), (14, 696), (15, 749), (16, 772), (17, 795), (18, 828), (19, 871), (20, 904), (21, 937), (22, 970), (23, 1003), (24, 1046), (25, 1079), (26, 1102), (27, 1125), (28, 1158), (29, 1201), (30, 1244), (31, 1267), (32, 1310), (33, 1333), (34, 1376), (35, 1419), (36, 1482), (37, 1505), (38, 1528), (39, 1541), (40, 1554), (41, 1577), (42, 1590), (43, 1613)] 1636)]
def bL_1 (L : Nat) (xs : Nat → Int32) : List (Nat × ix_Op) := [
  (224, ix_aload 1 225),
  (225, ix_aload 0 226),
  (226, ix_iload 3 227),
  (227, ix_push (vi 1) 228),
  (228, ix_bin (fun x y => x + y) 229),
  (229, ix_xld L xs 230),
  (230, ix_aload 0 231),
  (231, ix_iload 3 232),
  (232, ix_push (vi 2) 233),
  (233, ix_bin (fun x y => x + y) 234),
  (234, ix_xld L xs 235),
  (235, ix_aload 0 236),
  (236, ix_iload 3 237),
  (237, ix_push (vi 3) 238),
  (238, ix_bin (fun x y => x + y) 239),
  (239, ix_xld L xs 240),
  (240, oc_X10_cell 243),
  (243, ix_aload 2 244),
  (244, ix_aload 0 245),
  (245, ix_iload 3 246),
  (246, ix_push (vi 1) 247),
  (247, ix_bin (fun x y => x + y) 248),
  (248, ix_xld L xs 249),
  (249, ix_aload 0 250),
  (250, ix_iload 3 251),
  (251, ix_push (vi 2) 252),
  (252, ix_bin (fun x y => x + y) 253),
  (253, ix_xld L xs 254),
  (254, ix_aload 0 255),
  (255, ix_iload 3 256),
  (256, ix_push (vi 3) 257),
  (257, ix_bin (fun x y => x + y) 258),
  (258, ix_xld L xs 259),
  (259, oc_X11_cell 262),
  (262, ix_cmp (fun x y => x = y) 1636 265),
  (265, ix_push (vi 0) 266),
  (266, ix_zret)]
def bL_2 (L : Nat) (xs : Nat → Int32) : List (Nat × ix_Op) := [
  (267, ix_aload 1 268),
  (268, ix_aload 0 269),
  (269, ix_iload 3 270),
  (270, ix_push (vi 1) 271),
  (271, ix_bin (fun x y => x + y) 272),
  (272, ix_xld L xs 273),
  (273, ix_aload 0 274),
  (274, ix_iload 3 275),
  (275, ix_push (vi 2) 276),
  (276, ix_bin (fun x y => x + y) 277),
  (277, ix_xld L xs 278),
  (278, oc_X10_ofCell 281),
  (281, ix_aload 2 282),
  (282, ix_aload 0 283),
  (283, ix_iload 3 284),
  (284, ix_push (vi 1) 285),
  (285, ix_bin (fun x y => x + y) 286),
  (286, ix_xld L xs 287),
  (287, ix_aload 0 288),
  (288, ix_iload 3 289),
  (289, ix_push (vi 2) 290),
  (290, ix_bin (fun x y => x + y) 291),
  (291, ix_xld L xs 292),
  (292, oc_X11_ofCell 295),
  (295, ix_cmp (fun x y => x = y) 1636 298),
  (298, ix_push (vi 0) 299),
  (299, ix_zret)]
def bL_3 (L : Nat) (xs : Nat → Int32) : List (Nat × ix_Op) := [
  (300, ix_aload 1 301),
  (301, ix_aload 0 302),
  (302, ix_iload 3 303),
  (303, ix_push (vi 1) 304),
  (304, ix_bin (fun x y => x + y) 305),
  (305, ix_xld L xs 306),
  (306, ix_aload 0 307),
  (307, ix_iload 3 308),
  (308, ix_push (vi 2) 309),
  (309, ix_bin (fun x y => x + y) 310),
  (310, ix_xld L xs 311),
  (311, oc_X10_list 314),
  (314, ix_aload 2 315),
  (315, ix_aload 0 316),
  (316, ix_iload 3 317),
  (317, ix_push (vi 1) 318),
  (318, ix_bin (fun x y => x + y) 319),
  (319, ix_xld L xs 320),
  (320, ix_aload 0 321),
  (321, ix_iload 3 322),
  (322, ix_push (vi 2) 323),
  (323, ix_bin (fun x y => x + y) 324),
  (324, ix_xld L xs 325),
  (325, oc_X11_list 328),
  (328, ix_cmp (fun x y => x = y) 1636 331),
  (331, ix_push (vi 0) 332),
  (332, ix_zret)]
def bL_4 (L : Nat) (xs : Nat → Int32) : List (Nat × ix_Op) := [
  (333, ix_aload 1 334),
  (334, ix_aload 0 335),
  (335, ix_iload 3 336),
  (336, ix_push (vi 1) 337),
  (337, ix_bin (fun x y => x + y) 338),
  (338, ix_xld L xs 339),
  (339, oc_X10_ofList 342),
  (342, ix_aload 2 343),
  (343, ix_aload 0 344),
  (344, ix_iload 3 345),
  (345, ix_push (vi 1) 346),
  (346, ix_bin (fun x y => x + y) 347),
  (347, ix_xld L xs 348),
  (348, oc_X11_ofList 351),
  (351, ix_cmp (fun x y => x = y) 1636 354),
  (354, ix_push (vi 0) 355),
  (355, ix_zret)]
def bL_5 (L : Nat) (xs : Nat → Int32) : List (Nat × ix_Op) := [
  (356, ix_aload 1 357),
  (357, ix_aload 0 358),
  (358, ix_iload 3 359),
  (359, ix_push (vi 1) 360),
  (360, ix_bin (fun x y => x + y) 361),
  (361, ix_xld L xs 362),
  (362, oc_X10_dark 365),
  (365, ix_aload 2 366),
  (366, ix_aload 0 367),
  (367, ix_iload 3 368),
  (368, ix_push (vi 1) 369),
  (369, ix_bin (fun x y => x + y) 370),
  (370, ix_xld L xs 371),
  (371, oc_X11_dark 374),
  (374, ix_cmp (fun x y => x = y) 1636 377),
  (377, ix_push (vi 0) 378),
  (378, ix_zret)]
def bL_6 (L : Nat) (xs : Nat → Int32) : List (Nat × ix_Op) := [
  (379, ix_aload 1 380),
  (380, ix_aload 0 381),
  (381, ix_iload 3 382),
  (382, ix_push (vi 1) 383),
  (383, ix_bin (fun x y => x + y) 384),
  (384, ix_xld L xs 385),
  (385, ix_aload 0 386),
  (386, ix_iload 3 387),
  (387, ix_push (vi 2) 388),
  (388, ix_bin (fun x y => x + y) 389),
  (389, ix_xld L xs 390),
  (390, oc_X10_wants 393),
  (393, ix_aload 2 394),
  (394, ix_aload 0 395),
  (395, ix_iload 3 396),
  (396, ix_push (vi 1) 397),
  (397, ix_bin (fun x y => x + y) 398),
  (398, ix_xld L xs 399),
  (399, ix_aload 0 400),
  (400, ix_iload 3 401),
  (401, ix_push (vi 2) 402),
  (402, ix_bin (fun x y => x + y) 403),
  (403, ix_xld L xs 404),
  (404, oc_X11_wants 407),
  (407, ix_cmp (fun x y => x = y) 1636 410),
  (410, ix_push (vi 0) 411),
  (411, ix_zret)]
def bL_7 (L : Nat) (xs : Nat → Int32) : List (Nat × ix_Op) := [
  (412, ix_aload 1 413),
  (413, ix_aload 0 414),
  (414, ix_iload 3 415),
  (415, ix_push (vi 1) 416),
  (416, ix_bin (fun x y => x + y) 417),
  (417, ix_xld L xs 418),
  (418, oc_X10_ofWearer 421),
  (421, ix_aload 2 422),
  (422, ix_aload 0 423),
  (423, ix_iload 3 424),
  (424, ix_push (vi 1) 425),
  (425, ix_bin (fun x y => x + y) 426),
  (426, ix_xld L xs 427),
  (427, oc_X11_ofWearer 430),
  (430, ix_cmp (fun x y => x = y) 1636 433),
  (433, ix_push (vi 0) 434),
  (434, ix_zret)]
def bL_8 (L : Nat) (xs : Nat → Int32) : List (Nat × ix_Op) := [
  (435, ix_aload 1 436),
  (436, ix_aload 0 437),
  (437, ix_iload 3 438),
  (438, ix_push (vi 1) 439),
  (439, ix_bin (fun x y => x + y) 440),
  (440, ix_xld L xs 441),
  (441, ix_aload 0 442),
  (442, ix_iload 3 443),
  (443, ix_push (vi 2) 444),
  (444, ix_bin (fun x y => x + y) 445),
  (445, ix_xld L xs 446),
  (446, oc_X10_boat 449),
  (449, ix_aload 2 450),
  (450, ix_aload 0 451),
  (451, ix_iload 3 452),
  (452, ix_push (vi 1) 453),
  (453, ix_bin (fun x y => x + y) 454),
  (454, ix_xld L xs 455),
  (455, ix_aload 0 456),
  (456, ix_iload 3 457),
  (457, ix_push (vi 2) 458),
  (458, ix_bin (fun x y => x + y) 459),
  (459, ix_xld L xs 460),
  (460, oc_X11_boat 463),
  (463, ix_cmp (fun x y => x = y) 1636 466),
  (466, ix_push (vi 0) 467),
  (467, ix_zret)]
def bL_9 (L : Nat) (xs : Nat → Int32) : List (Nat × ix_Op) := [
  (468, ix_aload 1 469),
  (469, ix_aload 0 470),
  (470, ix_iload 3 471),
  (471, ix_push (vi 1) 472),
  (472, ix_bin (fun x y => x + y) 473),
  (473, ix_xld L xs 474),
  (474, ix_aload 0 475),
  (475, ix_iload 3 476),
  (476, ix_push (vi 2) 477),
  (477, ix_bin (fun x y => x + y) 478),
  (478, ix_xld L xs 479),
  (479, oc_X10_ofBoat 482),
  (482, ix_aload 2 483),
  (483, ix_aload 0 484),
  (484, ix_iload 3 485),
  (485, ix_push (vi 1) 486),
  (486, ix_bin (fun x y => x + y) 487),
  (487, ix_xld L xs 488),
  (488, ix_aload 0 489),
  (489, ix_iload 3 490),
  (490, ix_push (vi 2) 491),
  (491, ix_bin (fun x y => x + y) 492),
  (492, ix_xld L xs 493),
  (493, oc_X11_ofBoat 496),
  (496, ix_cmp (fun x y => x = y) 1636 499),
  (499, ix_push (vi 0) 500),
  (500, ix_zret)]
def bL_10 (L : Nat) (xs : Nat → Int32) : List (Nat × ix_Op) := [
  (501, ix_aload 1 502),
  (502, ix_aload 0 503),
  (503, ix_iload 3 504),
  (504, ix_push (vi 1) 505),
  (505, ix_bin (fun x y => x + y) 506),
  (506, ix_xld L xs 507),
  (507, ix_aload 0 508),
  (508, ix_iload 3 509),
  (509, ix_push (vi 2) 510),
  (510, ix_bin (fun x y => x + y) 511),
  (511, ix_xld L xs 512),
  (512, ix_aload 0 513),
  (513, ix_iload 3 514),
  (514, ix_push (vi 3) 515),
  (515, ix_bin (fun x y => x + y) 516),
  (516, ix_xld L xs 517),
  (517, oc_X10_change 520),
  (520, ix_aload 2 521),
  (521, ix_aload 0 522),
  (522, ix_iload 3 523),
  (523, ix_push (vi 1) 524),
  (524, ix_bin (fun x y => x + y) 525),
  (525, ix_xld L xs 526),
  (526, ix_aload 0 527),
  (527, ix_iload 3 528),
  (528, ix_push (vi 2) 529),
  (529, ix_bin (fun x y => x + y) 530),
  (530, ix_xld L xs 531),
  (531, ix_aload 0 532),
  (532, ix_iload 3 533),
  (533, ix_push (vi 3) 534),
  (534, ix_bin (fun x y => x + y) 535),
  (535, ix_xld L xs 536),
  (536, oc_X11_change 539),
  (539, ix_cmp (fun x y => x = y) 1636 542),
  (542, ix_push (vi 0) 543),
  (543, ix_zret)]
def bL_11 (L : Nat) (xs : Nat → Int32) : List (Nat × ix_Op) := [
  (544, ix_aload 1 545),
  (545, ix_aload 0 546),
  (546, ix_iload 3 547),
  (547, ix_push (vi 1) 548),
  (548, ix_bin (fun x y => x + y) 549),
  (549, ix_xld L xs 550),
  (550, ix_aload 0 551),
  (551, ix_iload 3 552),
  (552, ix_push (vi 2) 553),
  (553, ix_bin (fun x y => x + y) 554),
  (554, ix_xld L xs 555),
  (555, oc_X10_become 558),
  (558, ix_aload 2 559),
  (559, ix_aload 0 560),
  (560, ix_iload 3 561),
  (561, ix_push (vi 1) 562),
  (562, ix_bin (fun x y => x + y) 563),
  (563, ix_xld L xs 564),
  (564, ix_aload 0 565),
  (565, ix_iload 3 566),
  (566, ix_push (vi 2) 567),
  (567, ix_bin (fun x y => x + y) 568),
  (568, ix_xld L xs 569),
  (569, oc_X11_become 572),
  (572, ix_cmp (fun x y => x = y) 1636 575),
  (575, ix_push (vi 0) 576),
  (576, ix_zret)]
def bL_12 (L : Nat) (xs : Nat → Int32) : List (Nat × ix_Op) := [
  (577, ix_aload 1 578),
  (578, ix_aload 0 579),
  (579, ix_iload 3 580),
  (580, ix_push (vi 1) 581),
  (581, ix_bin (fun x y => x + y) 582),
  (582, ix_xld L xs 583),
  (583, ix_aload 0 584),
  (584, ix_iload 3 585),
  (585, ix_push (vi 2) 586),
  (586, ix_bin (fun x y => x + y) 587),
  (587, ix_xld L xs 588),
  (588, oc_X10_as 591),
  (591, ix_aload 2 592),
  (592, ix_aload 0 593),
  (593, ix_iload 3 594),
  (594, ix_push (vi 1) 595),
  (595, ix_bin (fun x y => x + y) 596),
  (596, ix_xld L xs 597),
  (597, ix_aload 0 598),
  (598, ix_iload 3 599),
  (599, ix_push (vi 2) 600),
  (600, ix_bin (fun x y => x + y) 601),
  (601, ix_xld L xs 602),
  (602, oc_X11_as 605),
  (605, ix_cmp (fun x y => x = y) 1636 608),
  (608, ix_push (vi 0) 609),
  (609, ix_zret)]
def bL_13 (L : Nat) (xs : Nat → Int32) : List (Nat × ix_Op) := [
  (610, ix_aload 1 611),
  (611, ix_aload 0 612),
  (612, ix_iload 3 613),
  (613, ix_push (vi 1) 614),
  (614, ix_bin (fun x y => x + y) 615),
  (615, ix_xld L xs 616),
  (616, ix_i2l 617),
  (617, ix_push (vi 32) 619),
  (619, ix_lsh (fun x y => x <<< (y.toInt64 &&& 63)) 620),
  (620, ix_aload 0 621),
  (621, ix_iload 3 622),
  (622, ix_push (vi 2) 623),
  (623, ix_bin (fun x y => x + y) 624),
  (624, ix_xld L xs 625),
  (625, ix_i2l 626),
  (626, ix_push (vl 4294967295) 629),
  (629, ix_lbin (fun x y => x &&& y) 630),
  (630, ix_lbin (fun x y => x ||| y) 631),
  (631, ix_aload 0 632),
  (632, ix_iload 3 633),
  (633, ix_push (vi 3) 634),
  (634, ix_bin (fun x y => x + y) 635),
  (635, ix_xld L xs 636),
  (636, oc_X10_feed 639),
  (639, ix_aload 2 640),
  (640, ix_aload 0 641),
  (641, ix_iload 3 642),
  (642, ix_push (vi 1) 643),
  (643, ix_bin (fun x y => x + y) 644),
  (644, ix_xld L xs 645),
  (645, ix_i2l 646),
  (646, ix_push (vi 32) 648),
  (648, ix_lsh (fun x y => x <<< (y.toInt64 &&& 63)) 649),
  (649, ix_aload 0 650),
  (650, ix_iload 3 651),
  (651, ix_push (vi 2) 652),
  (652, ix_bin (fun x y => x + y) 653),
  (653, ix_xld L xs 654),
  (654, ix_i2l 655),
  (655, ix_push (vl 4294967295) 658),
  (658, ix_lbin (fun x y => x &&& y) 659),
  (659, ix_lbin (fun x y => x ||| y) 660),
  (660, ix_aload 0 661),
  (661, ix_iload 3 662),
  (662, ix_push (vi 3) 663),
  (663, ix_bin (fun x y => x + y) 664),
  (664, ix_xld L xs 665),
  (665, oc_X11_feed 668),
  (668, ix_cmp (fun x y => x = y) 1636 671),
  (671, ix_push (vi 0) 672),
  (672, ix_zret)]
def bL_14 (L : Nat) (xs : Nat → Int32) : List (Nat × ix_Op) := [
  (673, ix_aload 1 674),
  (674, ix_aload 0 675),
  (675, ix_iload 3 676),
  (676, ix_push (vi 1) 677),
  (677, ix_bin (fun x y => x + y) 678),
  (678, ix_xld L xs 679),
  (679, oc_X10_text 682),
  (682, ix_aload 2 683),
  (683, ix_aload 0 684),
  (684, ix_iload 3 685),
  (685, ix_push (vi 1) 686),
  (686, ix_bin (fun x y => x + y) 687),
  (687, ix_xld L xs 688),
  (688, oc_X11_text 691),
  (691, ix_cmp (fun x y => x = y) 1636 694),
  (694, ix_push (vi 0) 695),
  (695, ix_zret)]
def bL_15 (L : Nat) (xs : Nat → Int32) : List (Nat × ix_Op) := [
  (696, ix_aload 1 697),
  (697, ix_aload 0 698),
  (698, ix_iload 3 699),
  (699, ix_push (vi 1) 700),
  (700, ix_bin (fun x y => x + y) 701),
  (701, ix_xld L xs 702),
  (702, ix_aload 0 703),
  (703, ix_iload 3 704),
  (704, ix_push (vi 2) 705),
  (705, ix_bin (fun x y => x + y) 706),
  (706, ix_xld L xs 707),
  (707, ix_aload 0 708),
  (708, ix_iload 3 709),
  (709, ix_push (vi 3) 710),
  (710, ix_bin (fun x y => x + y) 711),
  (711, ix_xld L xs 712),
  (712, ix_aload 0 713),
  (713, ix_iload 3 714),
  (714, ix_push (vi 4) 715),
  (715, ix_bin (fun x y => x + y) 716),
  (716, ix_xld L xs 717),
  (717, oc_X10_law 720),
  (720, ix_aload 2 721),
  (721, ix_aload 0 722),
  (722, ix_iload 3 723),
  (723, ix_push (vi 1) 724),
  (724, ix_bin (fun x y => x + y) 725),
  (725, ix_xld L xs 726),
  (726, ix_aload 0 727),
  (727, ix_iload 3 728),
  (728, ix_push (vi 2) 729),
  (729, ix_bin (fun x y => x + y) 730),
  (730, ix_xld L xs 731),
  (731, ix_aload 0 732),
  (732, ix_iload 3 733),
  (733, ix_push (vi 3) 734),
  (734, ix_bin (fun x y => x + y) 735),
  (735, ix_xld L xs 736),
  (736, ix_aload 0 737),
  (737, ix_iload 3 738),
  (738, ix_push (vi 4) 739),
  (739, ix_bin (fun x y => x + y) 740),
  (740, ix_xld L xs 741),
  (741, oc_X11_law 744),
  (744, ix_cmp (fun x y => x = y) 1636 747),
  (747, ix_push (vi 0) 748),
  (748, ix_zret)]
def bL_16 (L : Nat) (xs : Nat → Int32) : List (Nat × ix_Op) := [
  (749, ix_aload 1 750),
  (750, ix_aload 0 751),
  (751, ix_iload 3 752),
  (752, ix_push (vi 1) 753),
  (753, ix_bin (fun x y => x + y) 754),
  (754, ix_xld L xs 755),
  (755, oc_X10_minutes 758),
  (758, ix_aload 2 759),
  (759, ix_aload 0 760),
  (760, ix_iload 3 761),
  (761, ix_push (vi 1) 762),
  (762, ix_bin (fun x y => x + y) 763),
  (763, ix_xld L xs 764),
  (764, oc_X11_minutes 767),
  (767, ix_cmp (fun x y => x = y) 1636 770),
  (770, ix_push (vi 0) 771),
  (771, ix_zret)]
def bL_17 (L : Nat) (xs : Nat → Int32) : List (Nat × ix_Op) := [
  (772, ix_aload 1 773),
  (773, ix_aload 0 774),
  (774, ix_iload 3 775),
  (775, ix_push (vi 1) 776),
  (776, ix_bin (fun x y => x + y) 777),
  (777, ix_xld L xs 778),
  (778, oc_X10_loose 781),
  (781, ix_aload 2 782),
  (782, ix_aload 0 783),
  (783, ix_iload 3 784),
  (784, ix_push (vi 1) 785),
  (785, ix_bin (fun x y => x + y) 786),
  (786, ix_xld L xs 787),
  (787, oc_X11_loose 790),
  (790, ix_cmp (fun x y => x = y) 1636 793),
  (793, ix_push (vi 0) 794),
  (794, ix_zret)]
def bL_18 (L : Nat) (xs : Nat → Int32) : List (Nat × ix_Op) := [
  (795, ix_aload 1 796),
  (796, ix_aload 0 797),
  (797, ix_iload 3 798),
  (798, ix_push (vi 1) 799),
  (799, ix_bin (fun x y => x + y) 800),
  (800, ix_xld L xs 801),
  (801, ix_aload 0 802),
  (802, ix_iload 3 803),
  (803, ix_push (vi 2) 804),
  (804, ix_bin (fun x y => x + y) 805),
  (805, ix_xld L xs 806),
  (806, oc_X10_then 809),
  (809, ix_aload 2 810),
  (810, ix_aload 0 811),
  (811, ix_iload 3 812),
  (812, ix_push (vi 1) 813),
  (813, ix_bin (fun x y => x + y) 814),
  (814, ix_xld L xs 815),
  (815, ix_aload 0 816),
  (816, ix_iload 3 817),
  (817, ix_push (vi 2) 818),
  (818, ix_bin (fun x y => x + y) 819),
  (819, ix_xld L xs 820),
  (820, oc_X11_then 823),
  (823, ix_cmp (fun x y => x = y) 1636 826),
  (826, ix_push (vi 0) 827),
  (827, ix_zret)]
def bL_19 (L : Nat) (xs : Nat → Int32) : List (Nat × ix_Op) := [
  (828, ix_aload 1 829),
  (829, ix_aload 0 830),
  (830, ix_iload 3 831),
  (831, ix_push (vi 1) 832),
  (832, ix_bin (fun x y => x + y) 833),
  (833, ix_xld L xs 834),
  (834, ix_aload 0 835),
  (835, ix_iload 3 836),
  (836, ix_push (vi 2) 837),
  (837, ix_bin (fun x y => x + y) 838),
  (838, ix_xld L xs 839),
  (839, ix_aload 0 840),
  (840, ix_iload 3 841),
  (841, ix_push (vi 3) 842),
  (842, ix_bin (fun x y => x + y) 843),
  (843, ix_xld L xs 844),
  (844, oc_X10_on 847),
  (847, ix_aload 2 848),
  (848, ix_aload 0 849),
  (849, ix_iload 3 850),
  (850, ix_push (vi 1) 851),
  (851, ix_bin (fun x y => x + y) 852),
  (852, ix_xld L xs 853),
  (853, ix_aload 0 854),
  (854, ix_iload 3 855),
  (855, ix_push (vi 2) 856),
  (856, ix_bin (fun x y => x + y) 857),
  (857, ix_xld L xs 858),
  (858, ix_aload 0 859),
  (859, ix_iload 3 860),
  (860, ix_push (vi 3) 861),
  (861, ix_bin (fun x y => x + y) 862),
  (862, ix_xld L xs 863),
  (863, oc_X11_on 866),
  (866, ix_cmp (fun x y => x = y) 1636 869),
  (869, ix_push (vi 0) 870),
  (870, ix_zret)]
def bL_20 (L : Nat) (xs : Nat → Int32) : List (Nat × ix_Op) := [
  (871, ix_aload 1 872),
  (872, ix_aload 0 873),
  (873, ix_iload 3 874),
  (874, ix_push (vi 1) 875),
  (875, ix_bin (fun x y => x + y) 876),
  (876, ix_xld L xs 877),
  (877, ix_aload 0 878),
  (878, ix_iload 3 879),
  (879, ix_push (vi 2) 880),
  (880, ix_bin (fun x y => x + y) 881),
  (881, ix_xld L xs 882),
  (882, oc_X10_full 885),
  (885, ix_aload 2 886),
  (886, ix_aload 0 887),
  (887, ix_iload 3 888),
  (888, ix_push (vi 1) 889),
  (889, ix_bin (fun x y => x + y) 890),
  (890, ix_xld L xs 891),
  (891, ix_aload 0 892),
  (892, ix_iload 3 893),
  (893, ix_push (vi 2) 894),
  (894, ix_bin (fun x y => x + y) 895),
  (895, ix_xld L xs 896),
  (896, oc_X11_full 899),
  (899, ix_cmp (fun x y => x = y) 1636 902),
  (902, ix_push (vi 0) 903),
  (903, ix_zret)]
def bL_21 (L : Nat) (xs : Nat → Int32) : List (Nat × ix_Op) := [
  (904, ix_aload 1 905),
  (905, ix_aload 0 906),
  (906, ix_iload 3 907),
  (907, ix_push (vi 1) 908),
  (908, ix_bin (fun x y => x + y) 909),
  (909, ix_xld L xs 910),
  (910, ix_aload 0 911),
  (911, ix_iload 3 912),
  (912, ix_push (vi 2) 913),
  (913, ix_bin (fun x y => x + y) 914),
  (914, ix_xld L xs 915),
  (915, oc_X10_wayFor 918),
  (918, ix_aload 2 919),
  (919, ix_aload 0 920),
  (920, ix_iload 3 921),
  (921, ix_push (vi 1) 922),
  (922, ix_bin (fun x y => x + y) 923),
  (923, ix_xld L xs 924),
  (924, ix_aload 0 925),
  (925, ix_iload 3 926),
  (926, ix_push (vi 2) 927),
  (927, ix_bin (fun x y => x + y) 928),
  (928, ix_xld L xs 929),
  (929, oc_X11_wayFor 932),
  (932, ix_cmp (fun x y => x = y) 1636 935),
  (935, ix_push (vi 0) 936),
  (936, ix_zret)]
def bL_22 (L : Nat) (xs : Nat → Int32) : List (Nat × ix_Op) := [
  (937, ix_aload 1 938),
  (938, ix_aload 0 939),
  (939, ix_iload 3 940),
  (940, ix_push (vi 1) 941),
  (941, ix_bin (fun x y => x + y) 942),
  (942, ix_xld L xs 943),
  (943, ix_aload 0 944),
  (944, ix_iload 3 945),
  (945, ix_push (vi 2) 946),
  (946, ix_bin (fun x y => x + y) 947),
  (947, ix_xld L xs 948),
  (948, oc_X10_cellFor 951),
  (951, ix_aload 2 952),
  (952, ix_aload 0 953),
  (953, ix_iload 3 954),
  (954, ix_push (vi 1) 955),
  (955, ix_bin (fun x y => x + y) 956),
  (956, ix_xld L xs 957),
  (957, ix_aload 0 958),
  (958, ix_iload 3 959),
  (959, ix_push (vi 2) 960),
  (960, ix_bin (fun x y => x + y) 961),
  (961, ix_xld L xs 962),
  (962, oc_X11_cellFor 965),
  (965, ix_cmp (fun x y => x = y) 1636 968),
  (968, ix_push (vi 0) 969),
  (969, ix_zret)]
def bL_23 (L : Nat) (xs : Nat → Int32) : List (Nat × ix_Op) := [
  (970, ix_aload 1 971),
  (971, ix_aload 0 972),
  (972, ix_iload 3 973),
  (973, ix_push (vi 1) 974),
  (974, ix_bin (fun x y => x + y) 975),
  (975, ix_xld L xs 976),
  (976, ix_aload 0 977),
  (977, ix_iload 3 978),
  (978, ix_push (vi 2) 979),
  (979, ix_bin (fun x y => x + y) 980),
  (980, ix_xld L xs 981),
  (981, oc_X10_kindFor 984),
  (984, ix_aload 2 985),
  (985, ix_aload 0 986),
  (986, ix_iload 3 987),
  (987, ix_push (vi 1) 988),
  (988, ix_bin (fun x y => x + y) 989),
  (989, ix_xld L xs 990),
  (990, ix_aload 0 991),
  (991, ix_iload 3 992),
  (992, ix_push (vi 2) 993),
  (993, ix_bin (fun x y => x + y) 994),
  (994, ix_xld L xs 995),
  (995, oc_X11_kindFor 998),
  (998, ix_cmp (fun x y => x = y) 1636 1001),
  (1001, ix_push (vi 0) 1002),
  (1002, ix_zret)]
def bL_24 (L : Nat) (xs : Nat → Int32) : List (Nat × ix_Op) := [
  (1003, ix_aload 1 1004),
  (1004, ix_aload 0 1005),
  (1005, ix_iload 3 1006),
  (1006, ix_push (vi 1) 1007),
  (1007, ix_bin (fun x y => x + y) 1008),
  (1008, ix_xld L xs 1009),
  (1009, ix_aload 0 1010),
  (1010, ix_iload 3 1011),
  (1011, ix_push (vi 2) 1012),
  (1012, ix_bin (fun x y => x + y) 1013),
  (1013, ix_xld L xs 1014),
  (1014, ix_aload 0 1015),
  (1015, ix_iload 3 1016),
  (1016, ix_push (vi 3) 1017),
  (1017, ix_bin (fun x y => x + y) 1018),
  (1018, ix_xld L xs 1019),
  (1019, oc_X10_route 1022),
  (1022, ix_aload 2 1023),
  (1023, ix_aload 0 1024),
  (1024, ix_iload 3 1025),
  (1025, ix_push (vi 1) 1026),
  (1026, ix_bin (fun x y => x + y) 1027),
  (1027, ix_xld L xs 1028),
  (1028, ix_aload 0 1029),
  (1029, ix_iload 3 1030),
  (1030, ix_push (vi 2) 1031),
  (1031, ix_bin (fun x y => x + y) 1032),
  (1032, ix_xld L xs 1033),
  (1033, ix_aload 0 1034),
  (1034, ix_iload 3 1035),
  (1035, ix_push (vi 3) 1036),
  (1036, ix_bin (fun x y => x + y) 1037),
  (1037, ix_xld L xs 1038),
  (1038, oc_X11_route 1041),
  (1041, ix_cmp (fun x y => x = y) 1636 1044),
  (1044, ix_push (vi 0) 1045),
  (1045, ix_zret)]
def bL_25 (L : Nat) (xs : Nat → Int32) : List (Nat × ix_Op) := [
  (1046, ix_aload 1 1047),
  (1047, ix_aload 0 1048),
  (1048, ix_iload 3 1049),
  (1049, ix_push (vi 1) 1050),
  (1050, ix_bin (fun x y => x + y) 1051),
  (1051, ix_xld L xs 1052),
  (1052, ix_aload 0 1053),
  (1053, ix_iload 3 1054),
  (1054, ix_push (vi 2) 1055),
  (1055, ix_bin (fun x y => x + y) 1056),
  (1056, ix_xld L xs 1057),
  (1057, oc_X10_darkFor 1060),
  (1060, ix_aload 2 1061),
  (1061, ix_aload 0 1062),
  (1062, ix_iload 3 1063),
  (1063, ix_push (vi 1) 1064),
  (1064, ix_bin (fun x y => x + y) 1065),
  (1065, ix_xld L xs 1066),
  (1066, ix_aload 0 1067),
  (1067, ix_iload 3 1068),
  (1068, ix_push (vi 2) 1069),
  (1069, ix_bin (fun x y => x + y) 1070),
  (1070, ix_xld L xs 1071),
  (1071, oc_X11_darkFor 1074),
  (1074, ix_cmp (fun x y => x = y) 1636 1077),
  (1077, ix_push (vi 0) 1078),
  (1078, ix_zret)]
def bL_26 (L : Nat) (xs : Nat → Int32) : List (Nat × ix_Op) := [
  (1079, ix_aload 1 1080),
  (1080, ix_aload 0 1081),
  (1081, ix_iload 3 1082),
  (1082, ix_push (vi 1) 1083),
  (1083, ix_bin (fun x y => x + y) 1084),
  (1084, ix_xld L xs 1085),
  (1085, oc_X10_match 1088),
  (1088, ix_aload 2 1089),
  (1089, ix_aload 0 1090),
  (1090, ix_iload 3 1091),
  (1091, ix_push (vi 1) 1092),
  (1092, ix_bin (fun x y => x + y) 1093),
  (1093, ix_xld L xs 1094),
  (1094, oc_X11_match 1097),
  (1097, ix_cmp (fun x y => x = y) 1636 1100),
  (1100, ix_push (vi 0) 1101),
  (1101, ix_zret)]
def bL_27 (L : Nat) (xs : Nat → Int32) : List (Nat × ix_Op) := [
  (1102, ix_aload 1 1103),
  (1103, ix_aload 0 1104),
  (1104, ix_iload 3 1105),
  (1105, ix_push (vi 1) 1106),
  (1106, ix_bin (fun x y => x + y) 1107),
  (1107, ix_xld L xs 1108),
  (1108, oc_X10_blend 1111),
  (1111, ix_aload 2 1112),
  (1112, ix_aload 0 1113),
  (1113, ix_iload 3 1114),
  (1114, ix_push (vi 1) 1115),
  (1115, ix_bin (fun x y => x + y) 1116),
  (1116, ix_xld L xs 1117),
  (1117, oc_X11_blend 1120),
  (1120, ix_cmp (fun x y => x = y) 1636 1123),
  (1123, ix_push (vi 0) 1124),
  (1124, ix_zret)]
def bL_28 (L : Nat) (xs : Nat → Int32) : List (Nat × ix_Op) := [
  (1125, ix_aload 1 1126),
  (1126, ix_aload 0 1127),
  (1127, ix_iload 3 1128),
  (1128, ix_push (vi 1) 1129),
  (1129, ix_bin (fun x y => x + y) 1130),
  (1130, ix_xld L xs 1131),
  (1131, ix_aload 0 1132),
  (1132, ix_iload 3 1133),
  (1133, ix_push (vi 2) 1134),
  (1134, ix_bin (fun x y => x + y) 1135),
  (1135, ix_xld L xs 1136),
  (1136, oc_X10_which 1139),
  (1139, ix_aload 2 1140),
  (1140, ix_aload 0 1141),
  (1141, ix_iload 3 1142),
  (1142, ix_push (vi 1) 1143),
  (1143, ix_bin (fun x y => x + y) 1144),
  (1144, ix_xld L xs 1145),
  (1145, ix_aload 0 1146),
  (1146, ix_iload 3 1147),
  (1147, ix_push (vi 2) 1148),
  (1148, ix_bin (fun x y => x + y) 1149),
  (1149, ix_xld L xs 1150),
  (1150, oc_X11_which 1153),
  (1153, ix_cmp (fun x y => x = y) 1636 1156),
  (1156, ix_push (vi 0) 1157),
  (1157, ix_zret)]
def bL_29 (L : Nat) (xs : Nat → Int32) : List (Nat × ix_Op) := [
  (1158, ix_aload 1 1159),
  (1159, ix_aload 0 1160),
  (1160, ix_iload 3 1161),
  (1161, ix_push (vi 1) 1162),
  (1162, ix_bin (fun x y => x + y) 1163),
  (1163, ix_xld L xs 1164),
  (1164, ix_aload 0 1165),
  (1165, ix_iload 3 1166),
  (1166, ix_push (vi 2) 1167),
  (1167, ix_bin (fun x y => x + y) 1168),
  (1168, ix_xld L xs 1169),
  (1169, ix_aload 0 1170),
  (1170, ix_iload 3 1171),
  (1171, ix_push (vi 3) 1172),
  (1172, ix_bin (fun x y => x + y) 1173),
  (1173, ix_xld L xs 1174),
  (1174, oc_X10_lay 1177),
  (1177, ix_aload 2 1178),
  (1178, ix_aload 0 1179),
  (1179, ix_iload 3 1180),
  (1180, ix_push (vi 1) 1181),
  (1181, ix_bin (fun x y => x + y) 1182),
  (1182, ix_xld L xs 1183),
  (1183, ix_aload 0 1184),
  (1184, ix_iload 3 1185),
  (1185, ix_push (vi 2) 1186),
  (1186, ix_bin (fun x y => x + y) 1187),
  (1187, ix_xld L xs 1188),
  (1188, ix_aload 0 1189),
  (1189, ix_iload 3 1190),
  (1190, ix_push (vi 3) 1191),
  (1191, ix_bin (fun x y => x + y) 1192),
  (1192, ix_xld L xs 1193),
  (1193, oc_X11_lay 1196),
  (1196, ix_cmp (fun x y => x = y) 1636 1199),
  (1199, ix_push (vi 0) 1200),
  (1200, ix_zret)]
def bL_30 (L : Nat) (xs : Nat → Int32) : List (Nat × ix_Op) := [
  (1201, ix_aload 1 1202),
  (1202, ix_aload 0 1203),
  (1203, ix_iload 3 1204),
  (1204, ix_push (vi 1) 1205),
  (1205, ix_bin (fun x y => x + y) 1206),
  (1206, ix_xld L xs 1207),
  (1207, ix_aload 0 1208),
  (1208, ix_iload 3 1209),
  (1209, ix_push (vi 2) 1210),
  (1210, ix_bin (fun x y => x + y) 1211),
  (1211, ix_xld L xs 1212),
  (1212, ix_aload 0 1213),
  (1213, ix_iload 3 1214),
  (1214, ix_push (vi 3) 1215),
  (1215, ix_bin (fun x y => x + y) 1216),
  (1216, ix_xld L xs 1217),
  (1217, oc_X10_odds 1220),
  (1220, ix_aload 2 1221),
  (1221, ix_aload 0 1222),
  (1222, ix_iload 3 1223),
  (1223, ix_push (vi 1) 1224),
  (1224, ix_bin (fun x y => x + y) 1225),
  (1225, ix_xld L xs 1226),
  (1226, ix_aload 0 1227),
  (1227, ix_iload 3 1228),
  (1228, ix_push (vi 2) 1229),
  (1229, ix_bin (fun x y => x + y) 1230),
  (1230, ix_xld L xs 1231),
  (1231, ix_aload 0 1232),
  (1232, ix_iload 3 1233),
  (1233, ix_push (vi 3) 1234),
  (1234, ix_bin (fun x y => x + y) 1235),
  (1235, ix_xld L xs 1236),
  (1236, oc_X11_odds 1239),
  (1239, ix_cmp (fun x y => x = y) 1636 1242),
  (1242, ix_push (vi 0) 1243),
  (1243, ix_zret)]
def bL_31 (L : Nat) (xs : Nat → Int32) : List (Nat × ix_Op) := [
  (1244, ix_aload 1 1245),
  (1245, ix_aload 0 1246),
  (1246, ix_iload 3 1247),
  (1247, ix_push (vi 1) 1248),
  (1248, ix_bin (fun x y => x + y) 1249),
  (1249, ix_xld L xs 1250),
  (1250, oc_X10_seed 1253),
  (1253, ix_aload 2 1254),
  (1254, ix_aload 0 1255),
  (1255, ix_iload 3 1256),
  (1256, ix_push (vi 1) 1257),
  (1257, ix_bin (fun x y => x + y) 1258),
  (1258, ix_xld L xs 1259),
  (1259, oc_X11_seed 1262),
  (1262, ix_cmp (fun x y => x = y) 1636 1265),
  (1265, ix_push (vi 0) 1266),
  (1266, ix_zret)]
def bL_32 (L : Nat) (xs : Nat → Int32) : List (Nat × ix_Op) := [
  (1267, ix_aload 1 1268),
  (1268, ix_aload 0 1269),
  (1269, ix_iload 3 1270),
  (1270, ix_push (vi 1) 1271),
  (1271, ix_bin (fun x y => x + y) 1272),
  (1272, ix_xld L xs 1273),
  (1273, ix_aload 0 1274),
  (1274, ix_iload 3 1275),
  (1275, ix_push (vi 2) 1276),
  (1276, ix_bin (fun x y => x + y) 1277),
  (1277, ix_xld L xs 1278),
  (1278, ix_aload 0 1279),
  (1279, ix_iload 3 1280),
  (1280, ix_push (vi 3) 1281),
  (1281, ix_bin (fun x y => x + y) 1282),
  (1282, ix_xld L xs 1283),
  (1283, oc_X10_voice 1286),
  (1286, ix_aload 2 1287),
  (1287, ix_aload 0 1288),
  (1288, ix_iload 3 1289),
  (1289, ix_push (vi 1) 1290),
  (1290, ix_bin (fun x y => x + y) 1291),
  (1291, ix_xld L xs 1292),
  (1292, ix_aload 0 1293),
  (1293, ix_iload 3 1294),
  (1294, ix_push (vi 2) 1295),
  (1295, ix_bin (fun x y => x + y) 1296),
  (1296, ix_xld L xs 1297),
  (1297, ix_aload 0 1298),
  (1298, ix_iload 3 1299),
  (1299, ix_push (vi 3) 1300),
  (1300, ix_bin (fun x y => x + y) 1301),
  (1301, ix_xld L xs 1302),
  (1302, oc_X11_voice 1305),
  (1305, ix_cmp (fun x y => x = y) 1636 1308),
  (1308, ix_push (vi 0) 1309),
  (1309, ix_zret)]
def bL_33 (L : Nat) (xs : Nat → Int32) : List (Nat × ix_Op) := [
  (1310, ix_aload 1 1311),
  (1311, ix_aload 0 1312),
  (1312, ix_iload 3 1313),
  (1313, ix_push (vi 1) 1314),
  (1314, ix_bin (fun x y => x + y) 1315),
  (1315, ix_xld L xs 1316),
  (1316, oc_X10_trace 1319),
  (1319, ix_aload 2 1320),
  (1320, ix_aload 0 1321),
  (1321, ix_iload 3 1322),
  (1322, ix_push (vi 1) 1323),
  (1323, ix_bin (fun x y => x + y) 1324),
  (1324, ix_xld L xs 1325),
  (1325, oc_X11_trace 1328),
  (1328, ix_cmp (fun x y => x = y) 1636 1331),
  (1331, ix_push (vi 0) 1332),
  (1332, ix_zret)]
def bL_34 (L : Nat) (xs : Nat → Int32) : List (Nat × ix_Op) := [
  (1333, ix_aload 1 1334),
  (1334, ix_aload 0 1335),
  (1335, ix_iload 3 1336),
  (1336, ix_push (vi 1) 1337),
  (1337, ix_bin (fun x y => x + y) 1338),
  (1338, ix_xld L xs 1339),
  (1339, ix_aload 0 1340),
  (1340, ix_iload 3 1341),
  (1341, ix_push (vi 2) 1342),
  (1342, ix_bin (fun x y => x + y) 1343),
  (1343, ix_xld L xs 1344),
  (1344, ix_aload 0 1345),
  (1345, ix_iload 3 1346),
  (1346, ix_push (vi 3) 1347),
  (1347, ix_bin (fun x y => x + y) 1348),
  (1348, ix_xld L xs 1349),
  (1349, oc_X10_sheet 1352),
  (1352, ix_aload 2 1353),
  (1353, ix_aload 0 1354),
  (1354, ix_iload 3 1355),
  (1355, ix_push (vi 1) 1356),
  (1356, ix_bin (fun x y => x + y) 1357),
  (1357, ix_xld L xs 1358),
  (1358, ix_aload 0 1359),
  (1359, ix_iload 3 1360),
  (1360, ix_push (vi 2) 1361),
  (1361, ix_bin (fun x y => x + y) 1362),
  (1362, ix_xld L xs 1363),
  (1363, ix_aload 0 1364),
  (1364, ix_iload 3 1365),
  (1365, ix_push (vi 3) 1366),
  (1366, ix_bin (fun x y => x + y) 1367),
  (1367, ix_xld L xs 1368),
  (1368, oc_X11_sheet 1371),
  (1371, ix_cmp (fun x y => x = y) 1636 1374),
  (1374, ix_push (vi 0) 1375),
  (1375, ix_zret)]
def bL_35 (L : Nat) (xs : Nat → Int32) : List (Nat × ix_Op) := [
  (1376, ix_aload 1 1377),
  (1377, ix_aload 0 1378),
  (1378, ix_iload 3 1379),
  (1379, ix_push (vi 1) 1380),
  (1380, ix_bin (fun x y => x + y) 1381),
  (1381, ix_xld L xs 1382),
  (1382, ix_aload 0 1383),
  (1383, ix_iload 3 1384),
  (1384, ix_push (vi 2) 1385),
  (1385, ix_bin (fun x y => x + y) 1386),
  (1386, ix_xld L xs 1387),
  (1387, ix_aload 0 1388),
  (1388, ix_iload 3 1389),
  (1389, ix_push (vi 3) 1390),
  (1390, ix_bin (fun x y => x + y) 1391),
  (1391, ix_xld L xs 1392),
  (1392, oc_X10_put 1395),
  (1395, ix_aload 2 1396),
  (1396, ix_aload 0 1397),
  (1397, ix_iload 3 1398),
  (1398, ix_push (vi 1) 1399),
  (1399, ix_bin (fun x y => x + y) 1400),
  (1400, ix_xld L xs 1401),
  (1401, ix_aload 0 1402),
  (1402, ix_iload 3 1403),
  (1403, ix_push (vi 2) 1404),
  (1404, ix_bin (fun x y => x + y) 1405),
  (1405, ix_xld L xs 1406),
  (1406, ix_aload 0 1407),
  (1407, ix_iload 3 1408),
  (1408, ix_push (vi 3) 1409),
  (1409, ix_bin (fun x y => x + y) 1410),
  (1410, ix_xld L xs 1411),
  (1411, oc_X11_put 1414),
  (1414, ix_cmp (fun x y => x = y) 1636 1417),
  (1417, ix_push (vi 0) 1418),
  (1418, ix_zret)]
def bL_36 (L : Nat) (xs : Nat → Int32) : List (Nat × ix_Op) := [
  (1419, ix_aload 1 1420),
  (1420, ix_aload 0 1421),
  (1421, ix_iload 3 1422),
  (1422, ix_push (vi 1) 1423),
  (1423, ix_bin (fun x y => x + y) 1424),
  (1424, ix_xld L xs 1425),
  (1425, ix_aload 0 1426),
  (1426, ix_iload 3 1427),
  (1427, ix_push (vi 2) 1428),
  (1428, ix_bin (fun x y => x + y) 1429),
  (1429, ix_xld L xs 1430),
  (1430, ix_aload 0 1431),
  (1431, ix_iload 3 1432),
  (1432, ix_push (vi 3) 1433),
  (1433, ix_bin (fun x y => x + y) 1434),
  (1434, ix_xld L xs 1435),
  (1435, ix_aload 0 1436),
  (1436, ix_iload 3 1437),
  (1437, ix_push (vi 4) 1438),
  (1438, ix_bin (fun x y => x + y) 1439),
  (1439, ix_xld L xs 1440),
  (1440, ix_aload 0 1441),
  (1441, ix_iload 3 1442),
  (1442, ix_push (vi 5) 1443),
  (1443, ix_bin (fun x y => x + y) 1444),
  (1444, ix_xld L xs 1445),
  (1445, oc_X10_move 1448),
  (1448, ix_aload 2 1449),
  (1449, ix_aload 0 1450),
  (1450, ix_iload 3 1451),
  (1451, ix_push (vi 1) 1452),
  (1452, ix_bin (fun x y => x + y) 1453),
  (1453, ix_xld L xs 1454),
  (1454, ix_aload 0 1455),
  (1455, ix_iload 3 1456),
  (1456, ix_push (vi 2) 1457),
  (1457, ix_bin (fun x y => x + y) 1458),
  (1458, ix_xld L xs 1459),
  (1459, ix_aload 0 1460),
  (1460, ix_iload 3 1461),
  (1461, ix_push (vi 3) 1462),
  (1462, ix_bin (fun x y => x + y) 1463),
  (1463, ix_xld L xs 1464),
  (1464, ix_aload 0 1465),
  (1465, ix_iload 3 1466),
  (1466, ix_push (vi 4) 1467),
  (1467, ix_bin (fun x y => x + y) 1468),
  (1468, ix_xld L xs 1469),
  (1469, ix_aload 0 1470),
  (1470, ix_iload 3 1471),
  (1471, ix_push (vi 5) 1472),
  (1472, ix_bin (fun x y => x + y) 1473),
  (1473, ix_xld L xs 1474),
  (1474, oc_X11_move 1477),
  (1477, ix_cmp (fun x y => x = y) 1636 1480),
  (1480, ix_push (vi 0) 1481),
  (1481, ix_zret)]
def bL_37 (L : Nat) (xs : Nat → Int32) : List (Nat × ix_Op) := [
  (1482, ix_aload 1 1483),
  (1483, ix_aload 0 1484),
  (1484, ix_iload 3 1485),
  (1485, ix_push (vi 1) 1486),
  (1486, ix_bin (fun x y => x + y) 1487),
  (1487, ix_xld L xs 1488),
  (1488, oc_X10_lies 1491),
  (1491, ix_aload 2 1492),
  (1492, ix_aload 0 1493),
  (1493, ix_iload 3 1494),
  (1494, ix_push (vi 1) 1495),
  (1495, ix_bin (fun x y => x + y) 1496),
  (1496, ix_xld L xs 1497),
  (1497, oc_X11_lies 1500),
  (1500, ix_cmp (fun x y => x = y) 1636 1503),
  (1503, ix_push (vi 0) 1504),
  (1504, ix_zret)]
def bL_38 (L : Nat) (xs : Nat → Int32) : List (Nat × ix_Op) := [
  (1505, ix_aload 1 1506),
  (1506, ix_aload 0 1507),
  (1507, ix_iload 3 1508),
  (1508, ix_push (vi 1) 1509),
  (1509, ix_bin (fun x y => x + y) 1510),
  (1510, ix_xld L xs 1511),
  (1511, oc_X10_judge 1514),
  (1514, ix_aload 2 1515),
  (1515, ix_aload 0 1516),
  (1516, ix_iload 3 1517),
  (1517, ix_push (vi 1) 1518),
  (1518, ix_bin (fun x y => x + y) 1519),
  (1519, ix_xld L xs 1520),
  (1520, oc_X11_judge 1523),
  (1523, ix_cmp (fun x y => x = y) 1636 1526),
  (1526, ix_push (vi 0) 1527),
  (1527, ix_zret)]
def bL_39 (L : Nat) (xs : Nat → Int32) : List (Nat × ix_Op) := [
  (1528, ix_aload 1 1529),
  (1529, oc_X10_image 1532),
  (1532, ix_aload 2 1533),
  (1533, oc_X11_image 1536),
  (1536, ix_cmp (fun x y => x = y) 1636 1539),
  (1539, ix_push (vi 0) 1540),
  (1540, ix_zret)]
def bL_40 (L : Nat) (xs : Nat → Int32) : List (Nat × ix_Op) := [
  (1541, ix_aload 1 1542),
  (1542, oc_X10_restore 1545),
  (1545, ix_aload 2 1546),
  (1546, oc_X11_restore 1549),
  (1549, ix_cmp (fun x y => x = y) 1636 1552),
  (1552, ix_push (vi 0) 1553),
  (1553, ix_zret)]
def bL_41 (L : Nat) (xs : Nat → Int32) : List (Nat × ix_Op) := [
  (1554, ix_aload 1 1555),
  (1555, ix_aload 0 1556),
  (1556, ix_iload 3 1557),
  (1557, ix_push (vi 1) 1558),
  (1558, ix_bin (fun x y => x + y) 1559),
  (1559, ix_xld L xs 1560),
  (1560, oc_X10_tell 1563),
  (1563, ix_aload 2 1564),
  (1564, ix_aload 0 1565),
  (1565, ix_iload 3 1566),
  (1566, ix_push (vi 1) 1567),
  (1567, ix_bin (fun x y => x + y) 1568),
  (1568, ix_xld L xs 1569),
  (1569, oc_X11_tell 1572),
  (1572, ix_cmp (fun x y => x = y) 1636 1575),
  (1575, ix_push (vi 0) 1576),
  (1576, ix_zret)]
def bL_42 (L : Nat) (xs : Nat → Int32) : List (Nat × ix_Op) := [
  (1577, ix_aload 1 1578),
  (1578, oc_X10_check 1581),
  (1581, ix_aload 2 1582),
  (1582, oc_X11_check 1585),
  (1585, ix_cmp (fun x y => x = y) 1636 1588),
  (1588, ix_push (vi 0) 1589),
  (1589, ix_zret)]
def bL_43 (L : Nat) (xs : Nat → Int32) : List (Nat × ix_Op) := [
  (1590, ix_aload 1 1591),
  (1591, ix_aload 0 1592),
  (1592, ix_iload 3 1593),
  (1593, ix_push (vi 1) 1594),
  (1594, ix_bin (fun x y => x + y) 1595),
  (1595, ix_xld L xs 1596),
  (1596, oc_X10_count 1599),
  (1599, ix_aload 2 1600),
  (1600, ix_aload 0 1601),
  (1601, ix_iload 3 1602),
  (1602, ix_push (vi 1) 1603),
  (1603, ix_bin (fun x y => x + y) 1604),
  (1604, ix_xld L xs 1605),
  (1605, oc_X11_count 1608),
  (1608, ix_cmp (fun x y => x = y) 1636 1611),
  (1611, ix_push (vi 0) 1612),
  (1612, ix_zret)]
def bL_44 (L : Nat) (xs : Nat → Int32) : List (Nat × ix_Op) := [
  (1613, ix_aload 1 1614),
  (1614, ix_aload 0 1615),
  (1615, ix_iload 3 1616),
  (1616, ix_push (vi 1) 1617),
  (1617, ix_bin (fun x y => x + y) 1618),
  (1618, ix_xld L xs 1619),
  (1619, oc_X10_told 1622),
  (1622, ix_aload 2 1623),
  (1623, ix_aload 0 1624),
  (1624, ix_iload 3 1625),
  (1625, ix_push (vi 1) 1626),
  (1626, ix_bin (fun x y => x + y) 1627),
  (1627, ix_xld L xs 1628),
  (1628, oc_X11_told 1631),
  (1631, ix_cmp (fun x y => x = y) 1636 1634),
  (1634, ix_push (vi 0) 1635),
  (1635, ix_zret)]
def bL_45 (L : Nat) (xs : Nat → Int32) : List (Nat × ix_Op) := [
  (1636, ix_iinc 3 6 1639),
  (1639, ix_goto 18),
  (1642, ix_push (vi 1) 1643),
  (1643, ix_zret)]
def tL_45 (L : Nat) (xs : Nat → Int32) : List (Nat × ix_Op) := bL_45 L xs
def tL_44 (L : Nat) (xs : Nat → Int32) : List (Nat × ix_Op) := bL_44 L xs ++ tL_45 L xs
def tL_43 (L : Nat) (xs : Nat → Int32) : List (Nat × ix_Op) := bL_43 L xs ++ tL_44 L xs
def tL_42 (L : Nat) (xs : Nat → Int32) : List (Nat × ix_Op) := bL_42 L xs ++ tL_43 L xs
def tL_41 (L : Nat) (xs : Nat → Int32) : List (Nat × ix_Op) := bL_41 L xs ++ tL_42 L xs
def tL_40 (L : Nat) (xs : Nat → Int32) : List (Nat × ix_Op) := bL_40 L xs ++ tL_41 L xs
def tL_39 (L : Nat) (xs : Nat → Int32) : List (Nat × ix_Op) := bL_39 L xs ++ tL_40 L xs
def tL_38 (L : Nat) (xs : Nat → Int32) : List (Nat × ix_Op) := bL_38 L xs ++ tL_39 L xs
def tL_37 (L : Nat) (xs : Nat → Int32) : List (Nat × ix_Op) := bL_37 L xs ++ tL_38 L xs
def tL_36 (L : Nat) (xs : Nat → Int32) : List (Nat × ix_Op) := bL_36 L xs ++ tL_37 L xs
def tL_35 (L : Nat) (xs : Nat → Int32) : List (Nat × ix_Op) := bL_35 L xs ++ tL_36 L xs
def tL_34 (L : Nat) (xs : Nat → Int32) : List (Nat × ix_Op) := bL_34 L xs ++ tL_35 L xs
def tL_33 (L : Nat) (xs : Nat → Int32) : List (Nat × ix_Op) := bL_33 L xs ++ tL_34 L xs
def tL_32 (L : Nat) (xs : Nat → Int32) : List (Nat × ix_Op) := bL_32 L xs ++ tL_33 L xs
def tL_31 (L : Nat) (xs : Nat → Int32) : List (Nat × ix_Op) := bL_31 L xs ++ tL_32 L xs
def tL_30 (L : Nat) (xs : Nat → Int32) : List (Nat × ix_Op) := bL_30 L xs ++ tL_31 L xs
def tL_29 (L : Nat) (xs : Nat → Int32) : List (Nat × ix_Op) := bL_29 L xs ++ tL_30 L xs
def tL_28 (L : Nat) (xs : Nat → Int32) : List (Nat × ix_Op) := bL_28 L xs ++ tL_29 L xs
def tL_27 (L : Nat) (xs : Nat → Int32) : List (Nat × ix_Op) := bL_27 L xs ++ tL_28 L xs
def tL_26 (L : Nat) (xs : Nat → Int32) : List (Nat × ix_Op) := bL_26 L xs ++ tL_27 L xs
def tL_25 (L : Nat) (xs : Nat → Int32) : List (Nat × ix_Op) := bL_25 L xs ++ tL_26 L xs
def tL_24 (L : Nat) (xs : Nat → Int32) : List (Nat × ix_Op) := bL_24 L xs ++ tL_25 L xs
def tL_23 (L : Nat) (xs : Nat → Int32) : List (Nat × ix_Op) := bL_23 L xs ++ tL_24 L xs
def tL_22 (L : Nat) (xs : Nat → Int32) : List (Nat × ix_Op) := bL_22 L xs ++ tL_23 L xs
def tL_21 (L : Nat) (xs : Nat → Int32) : List (Nat × ix_Op) := bL_21 L xs ++ tL_22 L xs
def tL_20 (L : Nat) (xs : Nat → Int32) : List (Nat × ix_Op) := bL_20 L xs ++ tL_21 L xs
def tL_19 (L : Nat) (xs : Nat → Int32) : List (Nat × ix_Op) := bL_19 L xs ++ tL_20 L xs
def tL_18 (L : Nat) (xs : Nat → Int32) : List (Nat × ix_Op) := bL_18 L xs ++ tL_19 L xs
def tL_17 (L : Nat) (xs : Nat → Int32) : List (Nat × ix_Op) := bL_17 L xs ++ tL_18 L xs
def tL_16 (L : Nat) (xs : Nat → Int32) : List (Nat × ix_Op) := bL_16 L xs ++ tL_17 L xs
def tL_15 (L : Nat) (xs : Nat → Int32) : List (Nat × ix_Op) := bL_15 L xs ++ tL_16 L xs
def tL_14 (L : Nat) (xs : Nat → Int32) : List (Nat × ix_Op) := bL_14 L xs ++ tL_15 L xs
def tL_13 (L : Nat) (xs : Nat → Int32) : List (Nat × ix_Op) := bL_13 L xs ++ tL_14 L xs
def tL_12 (L : Nat) (xs : Nat → Int32) : List (Nat × ix_Op) := bL_12 L xs ++ tL_13 L xs
def tL_11 (L : Nat) (xs : Nat → Int32) : List (Nat × ix_Op) := bL_11 L xs ++ tL_12 L xs
def tL_10 (L : Nat) (xs : Nat → Int32) : List (Nat × ix_Op) := bL_10 L xs ++ tL_11 L xs
def tL_9 (L : Nat) (xs : Nat → Int32) : List (Nat × ix_Op) := bL_9 L xs ++ tL_10 L xs
def tL_8 (L : Nat) (xs : Nat → Int32) : List (Nat × ix_Op) := bL_8 L xs ++ tL_9 L xs
def tL_7 (L : Nat) (xs : Nat → Int32) : List (Nat × ix_Op) := bL_7 L xs ++ tL_8 L xs
def tL_6 (L : Nat) (xs : Nat → Int32) : List (Nat × ix_Op) := bL_6 L xs ++ tL_7 L xs
def tL_5 (L : Nat) (xs : Nat → Int32) : List (Nat × ix_Op) := bL_5 L xs ++ tL_6 L xs
def tL_4 (L : Nat) (xs : Nat → Int32) : List (Nat × ix_Op) := bL_4 L xs ++ tL_5 L xs
def tL_3 (L : Nat) (xs : Nat → Int32) : List (Nat × ix_Op) := bL_3 L xs ++ tL_4 L xs
def tL_2 (L : Nat) (xs : Nat → Int32) : List (Nat × ix_Op) := bL_2 L xs ++ tL_3 L xs
def tL_1 (L : Nat) (xs : Nat → Int32) : List (Nat × ix_Op) := bL_1 L xs ++ tL_2 L xs
def tL_0 (L : Nat) (xs : Nat → Int32) : List (Nat × ix_Op) := bL_0 L xs ++ tL_1 L xs
theorem keyL_0 (L : Nat) (xs : Nat → Int32) : (bL_0 L xs).map Prod.fst = [18, 19, 20, 21, 23, 24, 27, 28, 29, 30, 32, 33] := rfl
theorem sL_0 (l : Launch) (b : Nat) (L : Nat) (xs : Nat → Int32) : ix_AllX (b, L, xs) l cL_law 4 RL 61 (some .boolean) (bL_0 L xs) :=
  .cons ((ix_s_iload_n dL_law_18 rfl).toX) <|
  .cons ((ix_s_aload_n dL_law_19 rfl).toX) <|
  .cons (ix_s_xln dL_law_20) <|
  .cons ((ix_s_bipush dL_law_21 (by decide +kernel)).toX) <|
  .cons ((ix_s_isub dL_law_23).toX) <|
  .cons ((ix_s_cmp_gt dL_law_24 (by decide)).toX) <|
  .cons ((ix_s_aload_n dL_law_27 rfl).toX) <|
  .cons ((ix_s_iload_n dL_law_28 rfl).toX) <|
  .cons (ix_s_xld dL_law_29) <|
  .cons ((ix_s_bipush dL_law_30 (by decide +kernel)).toX) <|
  .cons ((ix_s_iand dL_law_32).toX) <|
  .cons ((ix_s_tab dL_law_33 (by decide) (by decide +kernel) (by decide +kernel)).toX) <| .nil
theorem keyL_1 (L : Nat) (xs : Nat → Int32) : (bL_1 L xs).map Prod.fst = [224, 225, 226, 227, 228, 229, 230, 231, 232, 233, 234, 235, 236, 237, 238, 239, 240, 243, 244, 245, 246, 247, 248, 249, 250, 251, 252, 253, 254, 255, 256, 257, 258, 259, 262, 265, 266] := rfl
theorem sL_1 (l : Launch) (b : Nat) (L : Nat) (xs : Nat → Int32) : ix_AllX (b, L, xs) l cL_law 4 RL 61 (some .boolean) (bL_1 L xs) :=
  .cons ((ix_s_aload_n dL_law_224 rfl).toX) <|
  .cons ((ix_s_aload_n dL_law_225 rfl).toX) <|
  .cons ((ix_s_iload_n dL_law_226 rfl).toX) <|
  .cons ((ix_s_iconst dL_law_227 (by decide +kernel)).toX) <|
  .cons ((ix_s_iadd dL_law_228).toX) <|
  .cons (ix_s_xld dL_law_229) <|
  .cons ((ix_s_aload_n dL_law_230 rfl).toX) <|
  .cons ((ix_s_iload_n dL_law_231 rfl).toX) <|
  .cons ((ix_s_iconst dL_law_232 (by decide +kernel)).toX) <|
  .cons ((ix_s_iadd dL_law_233).toX) <|
  .cons (ix_s_xld dL_law_234) <|
  .cons ((ix_s_aload_n dL_law_235 rfl).toX) <|
  .cons ((ix_s_iload_n dL_law_236 rfl).toX) <|
  .cons ((ix_s_iconst dL_law_237 (by decide +kernel)).toX) <|
  .cons ((ix_s_iadd dL_law_238).toX) <|
  .cons (ix_s_xld dL_law_239) <|
  .cons ((oc_X10_cell_s (ix_s_callv (t := 9) (k_X10_cell l) (by decide) (by decide) tw_288 tw_1 tw_285 tw_286 tw_287 ⟨by decide, by decide, by decide +kernel⟩ (by decide) rfl rfl (fun _ => ⟨_, _, rfl, rfl⟩) dL_law_240)).toX) <|
  .cons ((ix_s_aload_n dL_law_243 rfl).toX) <|
  .cons ((ix_s_aload_n dL_law_244 rfl).toX) <|
  .cons ((ix_s_iload_n dL_law_245 rfl).toX) <|
  .cons ((ix_s_iconst dL_law_246 (by decide +kernel)).toX) <|
  .cons ((ix_s_iadd dL_law_247).toX) <|
  .cons (ix_s_xld dL_law_248) <|
  .cons ((ix_s_aload_n dL_law_249 rfl).toX) <|
  .cons ((ix_s_iload_n dL_law_250 rfl).toX) <|
  .cons ((ix_s_iconst dL_law_251 (by decide +kernel)).toX) <|
  .cons ((ix_s_iadd dL_law_252).toX) <|
  .cons (ix_s_xld dL_law_253) <|
  .cons ((ix_s_aload_n dL_law_254 rfl).toX) <|
  .cons ((ix_s_iload_n dL_law_255 rfl).toX) <|
  .cons ((ix_s_iconst dL_law_256 (by decide +kernel)).toX) <|
  .cons ((ix_s_iadd dL_law_257).toX) <|
  .cons (ix_s_xld dL_law_258) <|
  .cons ((oc_X11_cell_s (ix_s_callv (t := 10) (k_X11_cell l) (by decide) (by decide) tw_1061 tw_12 tw_1058 tw_1059 tw_1060 ⟨by decide, by decide, by decide +kernel⟩ (by decide) rfl rfl (fun _ => ⟨_, _, rfl, rfl⟩) dL_law_259)).toX) <|
  .cons ((ix_s_cmp_eq dL_law_262 (by decide)).toX) <|
  .cons ((ix_s_iconst dL_law_265 (by decide +kernel)).toX) <|
  .cons ((ix_s_zret dL_law_266 rfl).toX) <| .nil
theorem keyL_2 (L : Nat) (xs : Nat → Int32) : (bL_2 L xs).map Prod.fst = [267, 268, 269, 270, 271, 272, 273, 274, 275, 276, 277, 278, 281, 282, 283, 284, 285, 286, 287, 288, 289, 290, 291, 292, 295, 298, 299] := rfl
theorem sL_2 (l : Launch) (b : Nat) (L : Nat) (xs : Nat → Int32) : ix_AllX (b, L, xs) l cL_law 4 RL 61 (some .boolean) (bL_2 L xs) :=
  .cons ((ix_s_aload_n dL_law_267 rfl).toX) <|
  .cons ((ix_s_aload_n dL_law_268 rfl).toX) <|
  .cons ((ix_s_iload_n dL_law_269 rfl).toX) <|
  .cons ((ix_s_iconst dL_law_270 (by decide +kernel)).toX) <|
  .cons ((ix_s_iadd dL_law_271).toX) <|
  .cons (ix_s_xld dL_law_272) <|
  .cons ((ix_s_aload_n dL_law_273 rfl).toX) <|
  .cons ((ix_s_iload_n dL_law_274 rfl).toX) <|
  .cons ((ix_s_iconst dL_law_275 (by decide +kernel)).toX) <|
  .cons ((ix_s_iadd dL_law_276).toX) <|
  .cons (ix_s_xld dL_law_277) <|
  .cons ((oc_X10_ofCell_s (ix_s_callv (t := 9) (k_X10_ofCell l) (by decide) (by decide) tw_303 tw_1 tw_300 tw_301 tw_302 ⟨by decide, by decide, by decide +kernel⟩ (by decide) rfl rfl (fun _ => ⟨_, _, rfl, rfl⟩) dL_law_278)).toX) <|
  .cons ((ix_s_aload_n dL_law_281 rfl).toX) <|
  .cons ((ix_s_aload_n dL_law_282 rfl).toX) <|
  .cons ((ix_s_iload_n dL_law_283 rfl).toX) <|
  .cons ((ix_s_iconst dL_law_284 (by decide +kernel)).toX) <|
  .cons ((ix_s_iadd dL_law_285).toX) <|
  .cons (ix_s_xld dL_law_286) <|
  .cons ((ix_s_aload_n dL_law_287 rfl).toX) <|
  .cons ((ix_s_iload_n dL_law_288 rfl).toX) <|
  .cons ((ix_s_iconst dL_law_289 (by decide +kernel)).toX) <|
  .cons ((ix_s_iadd dL_law_290).toX) <|
  .cons (ix_s_xld dL_law_291) <|
  .cons ((oc_X11_ofCell_s (ix_s_callv (t := 10) (k_X11_ofCell l) (by decide) (by decide) tw_1075 tw_12 tw_1072 tw_1073 tw_1074 ⟨by decide, by decide, by decide +kernel⟩ (by decide) rfl rfl (fun _ => ⟨_, _, rfl, rfl⟩) dL_law_292)).toX) <|
  .cons ((ix_s_cmp_eq dL_law_295 (by decide)).toX) <|
  .cons ((ix_s_iconst dL_law_298 (by decide +kernel)).toX) <|
  .cons ((ix_s_zret dL_law_299 rfl).toX) <| .nil
theorem keyL_3 (L : Nat) (xs : Nat → Int32) : (bL_3 L xs).map Prod.fst = [300, 301, 302, 303, 304, 305, 306, 307, 308, 309, 310, 311, 314, 315, 316, 317, 318, 319, 320, 321, 322, 323, 324, 325, 328, 331, 332] := rfl
theorem sL_3 (l : Launch) (b : Nat) (L : Nat) (xs : Nat → Int32) : ix_AllX (b, L, xs) l cL_law 4 RL 61 (some .boolean) (bL_3 L xs) :=
  .cons ((ix_s_aload_n dL_law_300 rfl).toX) <|
  .cons ((ix_s_aload_n dL_law_301 rfl).toX) <|
  .cons ((ix_s_iload_n dL_law_302 rfl).toX) <|
  .cons ((ix_s_iconst dL_law_303 (by decide +kernel)).toX) <|
  .cons ((ix_s_iadd dL_law_304).toX) <|
  .cons (ix_s_xld dL_law_305) <|
  .cons ((ix_s_aload_n dL_law_306 rfl).toX) <|
  .cons ((ix_s_iload_n dL_law_307 rfl).toX) <|
  .cons ((ix_s_iconst dL_law_308 (by decide +kernel)).toX) <|
  .cons ((ix_s_iadd dL_law_309).toX) <|
  .cons (ix_s_xld dL_law_310) <|
  .cons ((oc_X10_list_s (ix_s_callv (t := 9) (k_X10_list l) (by decide) (by decide) tw_334 tw_1 tw_331 tw_332 tw_333 ⟨by decide, by decide, by decide +kernel⟩ (by decide) rfl rfl (fun _ => ⟨_, _, rfl, rfl⟩) dL_law_311)).toX) <|
  .cons ((ix_s_aload_n dL_law_314 rfl).toX) <|
  .cons ((ix_s_aload_n dL_law_315 rfl).toX) <|
  .cons ((ix_s_iload_n dL_law_316 rfl).toX) <|
  .cons ((ix_s_iconst dL_law_317 (by decide +kernel)).toX) <|
  .cons ((ix_s_iadd dL_law_318).toX) <|
  .cons (ix_s_xld dL_law_319) <|
  .cons ((ix_s_aload_n dL_law_320 rfl).toX) <|
  .cons ((ix_s_iload_n dL_law_321 rfl).toX) <|
  .cons ((ix_s_iconst dL_law_322 (by decide +kernel)).toX) <|
  .cons ((ix_s_iadd dL_law_323).toX) <|
  .cons (ix_s_xld dL_law_324) <|
  .cons ((oc_X11_list_s (ix_s_callv (t := 10) (k_X11_list l) (by decide) (by decide) tw_1094 tw_12 tw_1091 tw_1092 tw_1093 ⟨by decide, by decide, by decide +kernel⟩ (by decide) rfl rfl (fun _ => ⟨_, _, rfl, rfl⟩) dL_law_325)).toX) <|
  .cons ((ix_s_cmp_eq dL_law_328 (by decide)).toX) <|
  .cons ((ix_s_iconst dL_law_331 (by decide +kernel)).toX) <|
  .cons ((ix_s_zret dL_law_332 rfl).toX) <| .nil
theorem keyL_4 (L : Nat) (xs : Nat → Int32) : (bL_4 L xs).map Prod.fst = [333, 334, 335, 336, 337, 338, 339, 342, 343, 344, 345, 346, 347, 348, 351, 354, 355] := rfl
theorem sL_4 (l : Launch) (b : Nat) (L : Nat) (xs : Nat → Int32) : ix_AllX (b, L, xs) l cL_law 4 RL 61 (some .boolean) (bL_4 L xs) :=
  .cons ((ix_s_aload_n dL_law_333 rfl).toX) <|
  .cons ((ix_s_aload_n dL_law_334 rfl).toX) <|
  .cons ((ix_s_iload_n dL_law_335 rfl).toX) <|
  .cons ((ix_s_iconst dL_law_336 (by decide +kernel)).toX) <|
  .cons ((ix_s_iadd dL_law_337).toX) <|
  .cons (ix_s_xld dL_law_338) <|
  .cons ((oc_X10_ofList_s (ix_s_callv (t := 9) (k_X10_ofList l) (by decide) (by decide) tw_338 tw_1 tw_335 tw_336 tw_337 ⟨by decide, by decide, by decide +kernel⟩ (by decide) rfl rfl (fun _ => ⟨_, _, rfl, rfl⟩) dL_law_339)).toX) <|
  .cons ((ix_s_aload_n dL_law_342 rfl).toX) <|
  .cons ((ix_s_aload_n dL_law_343 rfl).toX) <|
  .cons ((ix_s_iload_n dL_law_344 rfl).toX) <|
  .cons ((ix_s_iconst dL_law_345 (by decide +kernel)).toX) <|
  .cons ((ix_s_iadd dL_law_346).toX) <|
  .cons (ix_s_xld dL_law_347) <|
  .cons ((oc_X11_ofList_s (ix_s_callv (t := 10) (k_X11_ofList l) (by decide) (by decide) tw_1101 tw_12 tw_1098 tw_1099 tw_1100 ⟨by decide, by decide, by decide +kernel⟩ (by decide) rfl rfl (fun _ => ⟨_, _, rfl, rfl⟩) dL_law_348)).toX) <|
  .cons ((ix_s_cmp_eq dL_law_351 (by decide)).toX) <|
  .cons ((ix_s_iconst dL_law_354 (by decide +kernel)).toX) <|
  .cons ((ix_s_zret dL_law_355 rfl).toX) <| .nil
theorem keyL_5 (L : Nat) (xs : Nat → Int32) : (bL_5 L xs).map Prod.fst = [356, 357, 358, 359, 360, 361, 362, 365, 366, 367, 368, 369, 370, 371, 374, 377, 378] := rfl
theorem sL_5 (l : Launch) (b : Nat) (L : Nat) (xs : Nat → Int32) : ix_AllX (b, L, xs) l cL_law 4 RL 61 (some .boolean) (bL_5 L xs) :=
  .cons ((ix_s_aload_n dL_law_356 rfl).toX) <|
  .cons ((ix_s_aload_n dL_law_357 rfl).toX) <|
  .cons ((ix_s_iload_n dL_law_358 rfl).toX) <|
  .cons ((ix_s_iconst dL_law_359 (by decide +kernel)).toX) <|
  .cons ((ix_s_iadd dL_law_360).toX) <|
  .cons (ix_s_xld dL_law_361) <|
  .cons ((oc_X10_dark_s (ix_s_callv (t := 9) (k_X10_dark l) (by decide) (by decide) tw_342 tw_1 tw_339 tw_340 tw_341 ⟨by decide, by decide, by decide +kernel⟩ (by decide) rfl rfl (fun _ => ⟨_, _, rfl, rfl⟩) dL_law_362)).toX) <|
  .cons ((ix_s_aload_n dL_law_365 rfl).toX) <|
  .cons ((ix_s_aload_n dL_law_366 rfl).toX) <|
  .cons ((ix_s_iload_n dL_law_367 rfl).toX) <|
  .cons ((ix_s_iconst dL_law_368 (by decide +kernel)).toX) <|
  .cons ((ix_s_iadd dL_law_369).toX) <|
  .cons (ix_s_xld dL_law_370) <|
  .cons ((oc_X11_dark_s (ix_s_callv (t := 10) (k_X11_dark l) (by decide) (by decide) tw_1105 tw_12 tw_1102 tw_1103 tw_1104 ⟨by decide, by decide, by decide +kernel⟩ (by decide) rfl rfl (fun _ => ⟨_, _, rfl, rfl⟩) dL_law_371)).toX) <|
  .cons ((ix_s_cmp_eq dL_law_374 (by decide)).toX) <|
  .cons ((ix_s_iconst dL_law_377 (by decide +kernel)).toX) <|
  .cons ((ix_s_zret dL_law_378 rfl).toX) <| .nil
theorem keyL_6 (L : Nat) (xs : Nat → Int32) : (bL_6 L xs).map Prod.fst = [379, 380, 381, 382, 383, 384, 385, 386, 387, 388, 389, 390, 393, 394, 395, 396, 397, 398, 399, 400, 401, 402, 403, 404, 407, 410, 411] := rfl
theorem sL_6 (l : Launch) (b : Nat) (L : Nat) (xs : Nat → Int32) : ix_AllX (b, L, xs) l cL_law 4 RL 61 (some .boolean) (bL_6 L xs) :=
  .cons ((ix_s_aload_n dL_law_379 rfl).toX) <|
  .cons ((ix_s_aload_n dL_law_380 rfl).toX) <|
  .cons ((ix_s_iload_n dL_law_381 rfl).toX) <|
  .cons ((ix_s_iconst dL_law_382 (by decide +kernel)).toX) <|
  .cons ((ix_s_iadd dL_law_383).toX) <|
  .cons (ix_s_xld dL_law_384) <|
  .cons ((ix_s_aload_n dL_law_385 rfl).toX) <|
  .cons ((ix_s_iload_n dL_law_386 rfl).toX) <|
  .cons ((ix_s_iconst dL_law_387 (by decide +kernel)).toX) <|
  .cons ((ix_s_iadd dL_law_388).toX) <|
  .cons (ix_s_xld dL_law_389) <|
  .cons ((oc_X10_wants_s (ix_s_callv (t := 9) (k_X10_wants l) (by decide) (by decide) tw_346 tw_1 tw_343 tw_344 tw_345 ⟨by decide, by decide, by decide +kernel⟩ (by decide) rfl rfl (fun _ => ⟨_, _, rfl, rfl⟩) dL_law_390)).toX) <|
  .cons ((ix_s_aload_n dL_law_393 rfl).toX) <|
  .cons ((ix_s_aload_n dL_law_394 rfl).toX) <|
  .cons ((ix_s_iload_n dL_law_395 rfl).toX) <|
  .cons ((ix_s_iconst dL_law_396 (by decide +kernel)).toX) <|
  .cons ((ix_s_iadd dL_law_397).toX) <|
  .cons (ix_s_xld dL_law_398) <|
  .cons ((ix_s_aload_n dL_law_399 rfl).toX) <|
  .cons ((ix_s_iload_n dL_law_400 rfl).toX) <|
  .cons ((ix_s_iconst dL_law_401 (by decide +kernel)).toX) <|
  .cons ((ix_s_iadd dL_law_402).toX) <|
  .cons (ix_s_xld dL_law_403) <|
  .cons ((oc_X11_wants_s (ix_s_callv (t := 10) (k_X11_wants l) (by decide) (by decide) tw_1109 tw_12 tw_1106 tw_1107 tw_1108 ⟨by decide, by decide, by decide +kernel⟩ (by decide) rfl rfl (fun _ => ⟨_, _, rfl, rfl⟩) dL_law_404)).toX) <|
  .cons ((ix_s_cmp_eq dL_law_407 (by decide)).toX) <|
  .cons ((ix_s_iconst dL_law_410 (by decide +kernel)).toX) <|
  .cons ((ix_s_zret dL_law_411 rfl).toX) <| .nil
theorem keyL_7 (L : Nat) (xs : Nat → Int32) : (bL_7 L xs).map Prod.fst = [412, 413, 414, 415, 416, 417, 418, 421, 422, 423, 424, 425, 426, 427, 430, 433, 434] := rfl
theorem sL_7 (l : Launch) (b : Nat) (L : Nat) (xs : Nat → Int32) : ix_AllX (b, L, xs) l cL_law 4 RL 61 (some .boolean) (bL_7 L xs) :=
  .cons ((ix_s_aload_n dL_law_412 rfl).toX) <|
  .cons ((ix_s_aload_n dL_law_413 rfl).toX) <|
  .cons ((ix_s_iload_n dL_law_414 rfl).toX) <|
  .cons ((ix_s_iconst dL_law_415 (by decide +kernel)).toX) <|
  .cons ((ix_s_iadd dL_law_416).toX) <|
  .cons (ix_s_xld dL_law_417) <|
  .cons ((oc_X10_ofWearer_s (ix_s_callv (t := 9) (k_X10_ofWearer l) (by decide) (by decide) tw_350 tw_1 tw_347 tw_348 tw_349 ⟨by decide, by decide, by decide +kernel⟩ (by decide) rfl rfl (fun _ => ⟨_, _, rfl, rfl⟩) dL_law_418)).toX) <|
  .cons ((ix_s_aload_n dL_law_421 rfl).toX) <|
  .cons ((ix_s_aload_n dL_law_422 rfl).toX) <|
  .cons ((ix_s_iload_n dL_law_423 rfl).toX) <|
  .cons ((ix_s_iconst dL_law_424 (by decide +kernel)).toX) <|
  .cons ((ix_s_iadd dL_law_425).toX) <|
  .cons (ix_s_xld dL_law_426) <|
  .cons ((oc_X11_ofWearer_s (ix_s_callv (t := 10) (k_X11_ofWearer l) (by decide) (by decide) tw_1116 tw_12 tw_1113 tw_1114 tw_1115 ⟨by decide, by decide, by decide +kernel⟩ (by decide) rfl rfl (fun _ => ⟨_, _, rfl, rfl⟩) dL_law_427)).toX) <|
  .cons ((ix_s_cmp_eq dL_law_430 (by decide)).toX) <|
  .cons ((ix_s_iconst dL_law_433 (by decide +kernel)).toX) <|
  .cons ((ix_s_zret dL_law_434 rfl).toX) <| .nil
theorem keyL_8 (L : Nat) (xs : Nat → Int32) : (bL_8 L xs).map Prod.fst = [435, 436, 437, 438, 439, 440, 441, 442, 443, 444, 445, 446, 449, 450, 451, 452, 453, 454, 455, 456, 457, 458, 459, 460, 463, 466, 467] := rfl
theorem sL_8 (l : Launch) (b : Nat) (L : Nat) (xs : Nat → Int32) : ix_AllX (b, L, xs) l cL_law 4 RL 61 (some .boolean) (bL_8 L xs) :=
  .cons ((ix_s_aload_n dL_law_435 rfl).toX) <|
  .cons ((ix_s_aload_n dL_law_436 rfl).toX) <|
  .cons ((ix_s_iload_n dL_law_437 rfl).toX) <|
  .cons ((ix_s_iconst dL_law_438 (by decide +kernel)).toX) <|
  .cons ((ix_s_iadd dL_law_439).toX) <|
  .cons (ix_s_xld dL_law_440) <|
  .cons ((ix_s_aload_n dL_law_441 rfl).toX) <|
  .cons ((ix_s_iload_n dL_law_442 rfl).toX) <|
  .cons ((ix_s_iconst dL_law_443 (by decide +kernel)).toX) <|
  .cons ((ix_s_iadd dL_law_444).toX) <|
  .cons (ix_s_xld dL_law_445) <|
  .cons ((oc_X10_boat_s (ix_s_callv (t := 9) (k_X10_boat l) (by decide) (by decide) tw_354 tw_1 tw_351 tw_352 tw_353 ⟨by decide, by decide, by decide +kernel⟩ (by decide) rfl rfl (fun _ => ⟨_, _, rfl, rfl⟩) dL_law_446)).toX) <|
  .cons ((ix_s_aload_n dL_law_449 rfl).toX) <|
  .cons ((ix_s_aload_n dL_law_450 rfl).toX) <|
  .cons ((ix_s_iload_n dL_law_451 rfl).toX) <|
  .cons ((ix_s_iconst dL_law_452 (by decide +kernel)).toX) <|
  .cons ((ix_s_iadd dL_law_453).toX) <|
  .cons (ix_s_xld dL_law_454) <|
  .cons ((ix_s_aload_n dL_law_455 rfl).toX) <|
  .cons ((ix_s_iload_n dL_law_456 rfl).toX) <|
  .cons ((ix_s_iconst dL_law_457 (by decide +kernel)).toX) <|
  .cons ((ix_s_iadd dL_law_458).toX) <|
  .cons (ix_s_xld dL_law_459) <|
  .cons ((oc_X11_boat_s (ix_s_callv (t := 10) (k_X11_boat l) (by decide) (by decide) tw_1120 tw_12 tw_1117 tw_1118 tw_1119 ⟨by decide, by decide, by decide +kernel⟩ (by decide) rfl rfl (fun _ => ⟨_, _, rfl, rfl⟩) dL_law_460)).toX) <|
  .cons ((ix_s_cmp_eq dL_law_463 (by decide)).toX) <|
  .cons ((ix_s_iconst dL_law_466 (by decide +kernel)).toX) <|
  .cons ((ix_s_zret dL_law_467 rfl).toX) <| .nil
theorem keyL_9 (L : Nat) (xs : Nat → Int32) : (bL_9 L xs).map Prod.fst = [468, 469, 470, 471, 472, 473, 474, 475, 476, 477, 478, 479, 482, 483, 484, 485, 486, 487, 488, 489, 490, 491, 492, 493, 496, 499, 500] := rfl
theorem sL_9 (l : Launch) (b : Nat) (L : Nat) (xs : Nat → Int32) : ix_AllX (b, L, xs) l cL_law 4 RL 61 (some .boolean) (bL_9 L xs) :=
  .cons ((ix_s_aload_n dL_law_468 rfl).toX) <|
  .cons ((ix_s_aload_n dL_law_469 rfl).toX) <|
  .cons ((ix_s_iload_n dL_law_470 rfl).toX) <|
  .cons ((ix_s_iconst dL_law_471 (by decide +kernel)).toX) <|
  .cons ((ix_s_iadd dL_law_472).toX) <|
  .cons (ix_s_xld dL_law_473) <|
  .cons ((ix_s_aload_n dL_law_474 rfl).toX) <|
  .cons ((ix_s_iload_n dL_law_475 rfl).toX) <|
  .cons ((ix_s_iconst dL_law_476 (by decide +kernel)).toX) <|
  .cons ((ix_s_iadd dL_law_477).toX) <|
  .cons (ix_s_xld dL_law_478) <|
  .cons ((oc_X10_ofBoat_s (ix_s_callv (t := 9) (k_X10_ofBoat l) (by decide) (by decide) tw_365 tw_1 tw_362 tw_363 tw_364 ⟨by decide, by decide, by decide +kernel⟩ (by decide) rfl rfl (fun _ => ⟨_, _, rfl, rfl⟩) dL_law_479)).toX) <|
  .cons ((ix_s_aload_n dL_law_482 rfl).toX) <|
  .cons ((ix_s_aload_n dL_law_483 rfl).toX) <|
  .cons ((ix_s_iload_n dL_law_484 rfl).toX) <|
  .cons ((ix_s_iconst dL_law_485 (by decide +kernel)).toX) <|
  .cons ((ix_s_iadd dL_law_486).toX) <|
  .cons (ix_s_xld dL_law_487) <|
  .cons ((ix_s_aload_n dL_law_488 rfl).toX) <|
  .cons ((ix_s_iload_n dL_law_489 rfl).toX) <|
  .cons ((ix_s_iconst dL_law_490 (by decide +kernel)).toX) <|
  .cons ((ix_s_iadd dL_law_491).toX) <|
  .cons (ix_s_xld dL_law_492) <|
  .cons ((oc_X11_ofBoat_s (ix_s_callv (t := 10) (k_X11_ofBoat l) (by decide) (by decide) tw_1131 tw_12 tw_1128 tw_1129 tw_1130 ⟨by decide, by decide, by decide +kernel⟩ (by decide) rfl rfl (fun _ => ⟨_, _, rfl, rfl⟩) dL_law_493)).toX) <|
  .cons ((ix_s_cmp_eq dL_law_496 (by decide)).toX) <|
  .cons ((ix_s_iconst dL_law_499 (by decide +kernel)).toX) <|
  .cons ((ix_s_zret dL_law_500 rfl).toX) <| .nil
theorem keyL_10 (L : Nat) (xs : Nat → Int32) : (bL_10 L xs).map Prod.fst = [501, 502, 503, 504, 505, 506, 507, 508, 509, 510, 511, 512, 513, 514, 515, 516, 517, 520, 521, 522, 523, 524, 525, 526, 527, 528, 529, 530, 531, 532, 533, 534, 535, 536, 539, 542, 543] := rfl
theorem sL_10 (l : Launch) (b : Nat) (L : Nat) (xs : Nat → Int32) : ix_AllX (b, L, xs) l cL_law 4 RL 61 (some .boolean) (bL_10 L xs) :=
  .cons ((ix_s_aload_n dL_law_501 rfl).toX) <|
  .cons ((ix_s_aload_n dL_law_502 rfl).toX) <|
  .cons ((ix_s_iload_n dL_law_503 rfl).toX) <|
  .cons ((ix_s_iconst dL_law_504 (by decide +kernel)).toX) <|
  .cons ((ix_s_iadd dL_law_505).toX) <|
  .cons (ix_s_xld dL_law_506) <|
  .cons ((ix_s_aload_n dL_law_507 rfl).toX) <|
  .cons ((ix_s_iload_n dL_law_508 rfl).toX) <|
  .cons ((ix_s_iconst dL_law_509 (by decide +kernel)).toX) <|
  .cons ((ix_s_iadd dL_law_510).toX) <|
  .cons (ix_s_xld dL_law_511) <|
  .cons ((ix_s_aload_n dL_law_512 rfl).toX) <|
  .cons ((ix_s_iload_n dL_law_513 rfl).toX) <|
  .cons ((ix_s_iconst dL_law_514 (by decide +kernel)).toX) <|
  .cons ((ix_s_iadd dL_law_515).toX) <|
  .cons (ix_s_xld dL_law_516) <|
  .cons ((oc_X10_change_s (ix_s_callv (t := 9) (k_X10_change l) (by decide) (by decide) tw_414 tw_1 tw_411 tw_412 tw_413 ⟨by decide, by decide, by decide +kernel⟩ (by decide) rfl rfl (fun _ => ⟨_, _, rfl, rfl⟩) dL_law_517)).toX) <|
  .cons ((ix_s_aload_n dL_law_520 rfl).toX) <|
  .cons ((ix_s_aload_n dL_law_521 rfl).toX) <|
  .cons ((ix_s_iload_n dL_law_522 rfl).toX) <|
  .cons ((ix_s_iconst dL_law_523 (by decide +kernel)).toX) <|
  .cons ((ix_s_iadd dL_law_524).toX) <|
  .cons (ix_s_xld dL_law_525) <|
  .cons ((ix_s_aload_n dL_law_526 rfl).toX) <|
  .cons ((ix_s_iload_n dL_law_527 rfl).toX) <|
  .cons ((ix_s_iconst dL_law_528 (by decide +kernel)).toX) <|
  .cons ((ix_s_iadd dL_law_529).toX) <|
  .cons (ix_s_xld dL_law_530) <|
  .cons ((ix_s_aload_n dL_law_531 rfl).toX) <|
  .cons ((ix_s_iload_n dL_law_532 rfl).toX) <|
  .cons ((ix_s_iconst dL_law_533 (by decide +kernel)).toX) <|
  .cons ((ix_s_iadd dL_law_534).toX) <|
  .cons (ix_s_xld dL_law_535) <|
  .cons ((oc_X11_change_s (ix_s_callv (t := 10) (k_X11_change l) (by decide) (by decide) tw_1163 tw_12 tw_1160 tw_1161 tw_1162 ⟨by decide, by decide, by decide +kernel⟩ (by decide) rfl rfl (fun _ => ⟨_, _, rfl, rfl⟩) dL_law_536)).toX) <|
  .cons ((ix_s_cmp_eq dL_law_539 (by decide)).toX) <|
  .cons ((ix_s_iconst dL_law_542 (by decide +kernel)).toX) <|
  .cons ((ix_s_zret dL_law_543 rfl).toX) <| .nil
theorem keyL_11 (L : Nat) (xs : Nat → Int32) : (bL_11 L xs).map Prod.fst = [544, 545, 546, 547, 548, 549, 550, 551, 552, 553, 554, 555, 558, 559, 560, 561, 562, 563, 564, 565, 566, 567, 568, 569, 572, 575, 576] := rfl
theorem sL_11 (l : Launch) (b : Nat) (L : Nat) (xs : Nat → Int32) : ix_AllX (b, L, xs) l cL_law 4 RL 61 (some .boolean) (bL_11 L xs) :=
  .cons ((ix_s_aload_n dL_law_544 rfl).toX) <|
  .cons ((ix_s_aload_n dL_law_545 rfl).toX) <|
  .cons ((ix_s_iload_n dL_law_546 rfl).toX) <|
  .cons ((ix_s_iconst dL_law_547 (by decide +kernel)).toX) <|
  .cons ((ix_s_iadd dL_law_548).toX) <|
  .cons (ix_s_xld dL_law_549) <|
  .cons ((ix_s_aload_n dL_law_550 rfl).toX) <|
  .cons ((ix_s_iload_n dL_law_551 rfl).toX) <|
  .cons ((ix_s_iconst dL_law_552 (by decide +kernel)).toX) <|
  .cons ((ix_s_iadd dL_law_553).toX) <|
  .cons (ix_s_xld dL_law_554) <|
  .cons ((oc_X10_become_s (ix_s_callv (t := 9) (k_X10_become l) (by decide) (by decide) tw_418 tw_1 tw_415 tw_416 tw_417 ⟨by decide, by decide, by decide +kernel⟩ (by decide) rfl rfl (fun _ => ⟨_, _, rfl, rfl⟩) dL_law_555)).toX) <|
  .cons ((ix_s_aload_n dL_law_558 rfl).toX) <|
  .cons ((ix_s_aload_n dL_law_559 rfl).toX) <|
  .cons ((ix_s_iload_n dL_law_560 rfl).toX) <|
  .cons ((ix_s_iconst dL_law_561 (by decide +kernel)).toX) <|
  .cons ((ix_s_iadd dL_law_562).toX) <|
  .cons (ix_s_xld dL_law_563) <|
  .cons ((ix_s_aload_n dL_law_564 rfl).toX) <|
  .cons ((ix_s_iload_n dL_law_565 rfl).toX) <|
  .cons ((ix_s_iconst dL_law_566 (by decide +kernel)).toX) <|
  .cons ((ix_s_iadd dL_law_567).toX) <|
  .cons (ix_s_xld dL_law_568) <|
  .cons ((oc_X11_become_s (ix_s_callv (t := 10) (k_X11_become l) (by decide) (by decide) tw_1167 tw_12 tw_1164 tw_1165 tw_1166 ⟨by decide, by decide, by decide +kernel⟩ (by decide) rfl rfl (fun _ => ⟨_, _, rfl, rfl⟩) dL_law_569)).toX) <|
  .cons ((ix_s_cmp_eq dL_law_572 (by decide)).toX) <|
  .cons ((ix_s_iconst dL_law_575 (by decide +kernel)).toX) <|
  .cons ((ix_s_zret dL_law_576 rfl).toX) <| .nil
theorem keyL_12 (L : Nat) (xs : Nat → Int32) : (bL_12 L xs).map Prod.fst = [577, 578, 579, 580, 581, 582, 583, 584, 585, 586, 587, 588, 591, 592, 593, 594, 595, 596, 597, 598, 599, 600, 601, 602, 605, 608, 609] := rfl
theorem sL_12 (l : Launch) (b : Nat) (L : Nat) (xs : Nat → Int32) : ix_AllX (b, L, xs) l cL_law 4 RL 61 (some .boolean) (bL_12 L xs) :=
  .cons ((ix_s_aload_n dL_law_577 rfl).toX) <|
  .cons ((ix_s_aload_n dL_law_578 rfl).toX) <|
  .cons ((ix_s_iload_n dL_law_579 rfl).toX) <|
  .cons ((ix_s_iconst dL_law_580 (by decide +kernel)).toX) <|
  .cons ((ix_s_iadd dL_law_581).toX) <|
  .cons (ix_s_xld dL_law_582) <|
  .cons ((ix_s_aload_n dL_law_583 rfl).toX) <|
  .cons ((ix_s_iload_n dL_law_584 rfl).toX) <|
  .cons ((ix_s_iconst dL_law_585 (by decide +kernel)).toX) <|
  .cons ((ix_s_iadd dL_law_586).toX) <|
  .cons (ix_s_xld dL_law_587) <|
  .cons ((oc_X10_as_s (ix_s_callv (t := 9) (k_X10_as l) (by decide) (by decide) tw_422 tw_1 tw_419 tw_420 tw_421 ⟨by decide, by decide, by decide +kernel⟩ (by decide) rfl rfl (fun _ => ⟨_, _, rfl, rfl⟩) dL_law_588)).toX) <|
  .cons ((ix_s_aload_n dL_law_591 rfl).toX) <|
  .cons ((ix_s_aload_n dL_law_592 rfl).toX) <|
  .cons ((ix_s_iload_n dL_law_593 rfl).toX) <|
  .cons ((ix_s_iconst dL_law_594 (by decide +kernel)).toX) <|
  .cons ((ix_s_iadd dL_law_595).toX) <|
  .cons (ix_s_xld dL_law_596) <|
  .cons ((ix_s_aload_n dL_law_597 rfl).toX) <|
  .cons ((ix_s_iload_n dL_law_598 rfl).toX) <|
  .cons ((ix_s_iconst dL_law_599 (by decide +kernel)).toX) <|
  .cons ((ix_s_iadd dL_law_600).toX) <|
  .cons (ix_s_xld dL_law_601) <|
  .cons ((oc_X11_as_s (ix_s_callv (t := 10) (k_X11_as l) (by decide) (by decide) tw_1171 tw_12 tw_1168 tw_1169 tw_1170 ⟨by decide, by decide, by decide +kernel⟩ (by decide) rfl rfl (fun _ => ⟨_, _, rfl, rfl⟩) dL_law_602)).toX) <|
  .cons ((ix_s_cmp_eq dL_law_605 (by decide)).toX) <|
  .cons ((ix_s_iconst dL_law_608 (by decide +kernel)).toX) <|
  .cons ((ix_s_zret dL_law_609 rfl).toX) <| .nil
theorem keyL_13 (L : Nat) (xs : Nat → Int32) : (bL_13 L xs).map Prod.fst = [610, 611, 612, 613, 614, 615, 616, 617, 619, 620, 621, 622, 623, 624, 625, 626, 629, 630, 631, 632, 633, 634, 635, 636, 639, 640, 641, 642, 643, 644, 645, 646, 648, 649, 650, 651, 652, 653, 654, 655, 658, 659, 660, 661, 662, 663, 664, 665, 668, 671, 672] := rfl
theorem sL_13 (l : Launch) (b : Nat) (L : Nat) (xs : Nat → Int32) : ix_AllX (b, L, xs) l cL_law 4 RL 61 (some .boolean) (bL_13 L xs) :=
  .cons ((ix_s_aload_n dL_law_610 rfl).toX) <|
  .cons ((ix_s_aload_n dL_law_611 rfl).toX) <|
  .cons ((ix_s_iload_n dL_law_612 rfl).toX) <|
  .cons ((ix_s_iconst dL_law_613 (by decide +kernel)).toX) <|
  .cons ((ix_s_iadd dL_law_614).toX) <|
  .cons (ix_s_xld dL_law_615) <|
  .cons ((ix_s_i2l dL_law_616).toX) <|
  .cons ((ix_s_bipush dL_law_617 (by decide +kernel)).toX) <|
  .cons ((ix_s_lshl dL_law_619).toX) <|
  .cons ((ix_s_aload_n dL_law_620 rfl).toX) <|
  .cons ((ix_s_iload_n dL_law_621 rfl).toX) <|
  .cons ((ix_s_iconst dL_law_622 (by decide +kernel)).toX) <|
  .cons ((ix_s_iadd dL_law_623).toX) <|
  .cons (ix_s_xld dL_law_624) <|
  .cons ((ix_s_i2l dL_law_625).toX) <|
  .cons ((ix_s_ldc2 tw_1402 dL_law_626).toX) <|
  .cons ((ix_s_land dL_law_629).toX) <|
  .cons ((ix_s_lor dL_law_630).toX) <|
  .cons ((ix_s_aload_n dL_law_631 rfl).toX) <|
  .cons ((ix_s_iload_n dL_law_632 rfl).toX) <|
  .cons ((ix_s_iconst dL_law_633 (by decide +kernel)).toX) <|
  .cons ((ix_s_iadd dL_law_634).toX) <|
  .cons (ix_s_xld dL_law_635) <|
  .cons ((oc_X10_feed_s (ix_s_callv (t := 9) (k_X10_feed l) (by decide) (by decide) tw_432 tw_1 tw_429 tw_430 tw_431 ⟨by decide, by decide, by decide +kernel⟩ (by decide) rfl rfl (fun _ => ⟨_, _, rfl, rfl⟩) dL_law_636)).toX) <|
  .cons ((ix_s_aload_n dL_law_639 rfl).toX) <|
  .cons ((ix_s_aload_n dL_law_640 rfl).toX) <|
  .cons ((ix_s_iload_n dL_law_641 rfl).toX) <|
  .cons ((ix_s_iconst dL_law_642 (by decide +kernel)).toX) <|
  .cons ((ix_s_iadd dL_law_643).toX) <|
  .cons (ix_s_xld dL_law_644) <|
  .cons ((ix_s_i2l dL_law_645).toX) <|
  .cons ((ix_s_bipush dL_law_646 (by decide +kernel)).toX) <|
  .cons ((ix_s_lshl dL_law_648).toX) <|
  .cons ((ix_s_aload_n dL_law_649 rfl).toX) <|
  .cons ((ix_s_iload_n dL_law_650 rfl).toX) <|
  .cons ((ix_s_iconst dL_law_651 (by decide +kernel)).toX) <|
  .cons ((ix_s_iadd dL_law_652).toX) <|
  .cons (ix_s_xld dL_law_653) <|
  .cons ((ix_s_i2l dL_law_654).toX) <|
  .cons ((ix_s_ldc2 tw_1402 dL_law_655).toX) <|
  .cons ((ix_s_land dL_law_658).toX) <|
  .cons ((ix_s_lor dL_law_659).toX) <|
  .cons ((ix_s_aload_n dL_law_660 rfl).toX) <|
  .cons ((ix_s_iload_n dL_law_661 rfl).toX) <|
  .cons ((ix_s_iconst dL_law_662 (by decide +kernel)).toX) <|
  .cons ((ix_s_iadd dL_law_663).toX) <|
  .cons (ix_s_xld dL_law_664) <|
  .cons ((oc_X11_feed_s (ix_s_callv (t := 10) (k_X11_feed l) (by decide) (by decide) tw_957 tw_12 tw_954 tw_955 tw_956 ⟨by decide, by decide, by decide +kernel⟩ (by decide) rfl rfl (fun _ => ⟨_, _, rfl, rfl⟩) dL_law_665)).toX) <|
  .cons ((ix_s_cmp_eq dL_law_668 (by decide)).toX) <|
  .cons ((ix_s_iconst dL_law_671 (by decide +kernel)).toX) <|
  .cons ((ix_s_zret dL_law_672 rfl).toX) <| .nil
theorem keyL_14 (L : Nat) (xs : Nat → Int32) : (bL_14 L xs).map Prod.fst = [673, 674, 675, 676, 677, 678, 679, 682, 683, 684, 685, 686, 687, 688, 691, 694, 695] := rfl
theorem sL_14 (l : Launch) (b : Nat) (L : Nat) (xs : Nat → Int32) : ix_AllX (b, L, xs) l cL_law 4 RL 61 (some .boolean) (bL_14 L xs) :=
  .cons ((ix_s_aload_n dL_law_673 rfl).toX) <|
  .cons ((ix_s_aload_n dL_law_674 rfl).toX) <|
  .cons ((ix_s_iload_n dL_law_675 rfl).toX) <|
  .cons ((ix_s_iconst dL_law_676 (by decide +kernel)).toX) <|
  .cons ((ix_s_iadd dL_law_677).toX) <|
  .cons (ix_s_xld dL_law_678) <|
  .cons ((oc_X10_text_s (ix_s_callv (t := 9) (k_X10_text l) (by decide) (by decide) tw_440 tw_1 tw_437 tw_438 tw_439 ⟨by decide, by decide, by decide +kernel⟩ (by decide) rfl rfl (fun _ => ⟨_, _, rfl, rfl⟩) dL_law_679)).toX) <|
  .cons ((ix_s_aload_n dL_law_682 rfl).toX) <|
  .cons ((ix_s_aload_n dL_law_683 rfl).toX) <|
  .cons ((ix_s_iload_n dL_law_684 rfl).toX) <|
  .cons ((ix_s_iconst dL_law_685 (by decide +kernel)).toX) <|
  .cons ((ix_s_iadd dL_law_686).toX) <|
  .cons (ix_s_xld dL_law_687) <|
  .cons ((oc_X11_text_s (ix_s_callv (t := 10) (k_X11_text l) (by decide) (by decide) tw_972 tw_12 tw_969 tw_970 tw_971 ⟨by decide, by decide, by decide +kernel⟩ (by decide) rfl rfl (fun _ => ⟨_, _, rfl, rfl⟩) dL_law_688)).toX) <|
  .cons ((ix_s_cmp_eq dL_law_691 (by decide)).toX) <|
  .cons ((ix_s_iconst dL_law_694 (by decide +kernel)).toX) <|
  .cons ((ix_s_zret dL_law_695 rfl).toX) <| .nil
theorem keyL_15 (L : Nat) (xs : Nat → Int32) : (bL_15 L xs).map Prod.fst = [696, 697, 698, 699, 700, 701, 702, 703, 704, 705, 706, 707, 708, 709, 710, 711, 712, 713, 714, 715, 716, 717, 720, 721, 722, 723, 724, 725, 726, 727, 728, 729, 730, 731, 732, 733, 734, 735, 736, 737, 738, 739, 740, 741, 744, 747, 748] := rfl
theorem sL_15 (l : Launch) (b : Nat) (L : Nat) (xs : Nat → Int32) : ix_AllX (b, L, xs) l cL_law 4 RL 61 (some .boolean) (bL_15 L xs) :=
  .cons ((ix_s_aload_n dL_law_696 rfl).toX) <|
  .cons ((ix_s_aload_n dL_law_697 rfl).toX) <|
  .cons ((ix_s_iload_n dL_law_698 rfl).toX) <|
  .cons ((ix_s_iconst dL_law_699 (by decide +kernel)).toX) <|
  .cons ((ix_s_iadd dL_law_700).toX) <|
  .cons (ix_s_xld dL_law_701) <|
  .cons ((ix_s_aload_n dL_law_702 rfl).toX) <|
  .cons ((ix_s_iload_n dL_law_703 rfl).toX) <|
  .cons ((ix_s_iconst dL_law_704 (by decide +kernel)).toX) <|
  .cons ((ix_s_iadd dL_law_705).toX) <|
  .cons (ix_s_xld dL_law_706) <|
  .cons ((ix_s_aload_n dL_law_707 rfl).toX) <|
  .cons ((ix_s_iload_n dL_law_708 rfl).toX) <|
  .cons ((ix_s_iconst dL_law_709 (by decide +kernel)).toX) <|
  .cons ((ix_s_iadd dL_law_710).toX) <|
  .cons (ix_s_xld dL_law_711) <|
  .cons ((ix_s_aload_n dL_law_712 rfl).toX) <|
  .cons ((ix_s_iload_n dL_law_713 rfl).toX) <|
  .cons ((ix_s_iconst dL_law_714 (by decide +kernel)).toX) <|
  .cons ((ix_s_iadd dL_law_715).toX) <|
  .cons (ix_s_xld dL_law_716) <|
  .cons ((oc_X10_law_s (ix_s_callv (t := 9) (k_X10_law l) (by decide) (by decide) tw_585 tw_1 tw_582 tw_583 tw_584 ⟨by decide, by decide, by decide +kernel⟩ (by decide) rfl rfl (fun _ => ⟨_, _, rfl, rfl⟩) dL_law_717)).toX) <|
  .cons ((ix_s_aload_n dL_law_720 rfl).toX) <|
  .cons ((ix_s_aload_n dL_law_721 rfl).toX) <|
  .cons ((ix_s_iload_n dL_law_722 rfl).toX) <|
  .cons ((ix_s_iconst dL_law_723 (by decide +kernel)).toX) <|
  .cons ((ix_s_iadd dL_law_724).toX) <|
  .cons (ix_s_xld dL_law_725) <|
  .cons ((ix_s_aload_n dL_law_726 rfl).toX) <|
  .cons ((ix_s_iload_n dL_law_727 rfl).toX) <|
  .cons ((ix_s_iconst dL_law_728 (by decide +kernel)).toX) <|
  .cons ((ix_s_iadd dL_law_729).toX) <|
  .cons (ix_s_xld dL_law_730) <|
  .cons ((ix_s_aload_n dL_law_731 rfl).toX) <|
  .cons ((ix_s_iload_n dL_law_732 rfl).toX) <|
  .cons ((ix_s_iconst dL_law_733 (by decide +kernel)).toX) <|
  .cons ((ix_s_iadd dL_law_734).toX) <|
  .cons (ix_s_xld dL_law_735) <|
  .cons ((ix_s_aload_n dL_law_736 rfl).toX) <|
  .cons ((ix_s_iload_n dL_law_737 rfl).toX) <|
  .cons ((ix_s_iconst dL_law_738 (by decide +kernel)).toX) <|
  .cons ((ix_s_iadd dL_law_739).toX) <|
  .cons (ix_s_xld dL_law_740) <|
  .cons ((oc_X11_law_s (ix_s_callv (t := 10) (k_X11_law l) (by decide) (by decide) tw_1037 tw_12 tw_1034 tw_1035 tw_1036 ⟨by decide, by decide, by decide +kernel⟩ (by decide) rfl rfl (fun _ => ⟨_, _, rfl, rfl⟩) dL_law_741)).toX) <|
  .cons ((ix_s_cmp_eq dL_law_744 (by decide)).toX) <|
  .cons ((ix_s_iconst dL_law_747 (by decide +kernel)).toX) <|
  .cons ((ix_s_zret dL_law_748 rfl).toX) <| .nil
theorem keyL_16 (L : Nat) (xs : Nat → Int32) : (bL_16 L xs).map Prod.fst = [749, 750, 751, 752, 753, 754, 755, 758, 759, 760, 761, 762, 763, 764, 767, 770, 771] := rfl
theorem sL_16 (l : Launch) (b : Nat) (L : Nat) (xs : Nat → Int32) : ix_AllX (b, L, xs) l cL_law 4 RL 61 (some .boolean) (bL_16 L xs) :=
  .cons ((ix_s_aload_n dL_law_749 rfl).toX) <|
  .cons ((ix_s_aload_n dL_law_750 rfl).toX) <|
  .cons ((ix_s_iload_n dL_law_751 rfl).toX) <|
  .cons ((ix_s_iconst dL_law_752 (by decide +kernel)).toX) <|
  .cons ((ix_s_iadd dL_law_753).toX) <|
  .cons (ix_s_xld dL_law_754) <|
  .cons ((oc_X10_minutes_s (ix_s_callv (t := 9) (k_X10_minutes l) (by decide) (by decide) tw_591 tw_1 tw_588 tw_589 tw_590 ⟨by decide, by decide, by decide +kernel⟩ (by decide) rfl rfl (fun _ => ⟨_, _, rfl, rfl⟩) dL_law_755)).toX) <|
  .cons ((ix_s_aload_n dL_law_758 rfl).toX) <|
  .cons ((ix_s_aload_n dL_law_759 rfl).toX) <|
  .cons ((ix_s_iload_n dL_law_760 rfl).toX) <|
  .cons ((ix_s_iconst dL_law_761 (by decide +kernel)).toX) <|
  .cons ((ix_s_iadd dL_law_762).toX) <|
  .cons (ix_s_xld dL_law_763) <|
  .cons ((oc_X11_minutes_s (ix_s_callv (t := 10) (k_X11_minutes l) (by decide) (by decide) tw_1182 tw_12 tw_1179 tw_1180 tw_1181 ⟨by decide, by decide, by decide +kernel⟩ (by decide) rfl rfl (fun _ => ⟨_, _, rfl, rfl⟩) dL_law_764)).toX) <|
  .cons ((ix_s_cmp_eq dL_law_767 (by decide)).toX) <|
  .cons ((ix_s_iconst dL_law_770 (by decide +kernel)).toX) <|
  .cons ((ix_s_zret dL_law_771 rfl).toX) <| .nil
theorem keyL_17 (L : Nat) (xs : Nat → Int32) : (bL_17 L xs).map Prod.fst = [772, 773, 774, 775, 776, 777, 778, 781, 782, 783, 784, 785, 786, 787, 790, 793, 794] := rfl
theorem sL_17 (l : Launch) (b : Nat) (L : Nat) (xs : Nat → Int32) : ix_AllX (b, L, xs) l cL_law 4 RL 61 (some .boolean) (bL_17 L xs) :=
  .cons ((ix_s_aload_n dL_law_772 rfl).toX) <|
  .cons ((ix_s_aload_n dL_law_773 rfl).toX) <|
  .cons ((ix_s_iload_n dL_law_774 rfl).toX) <|
  .cons ((ix_s_iconst dL_law_775 (by decide +kernel)).toX) <|
  .cons ((ix_s_iadd dL_law_776).toX) <|
  .cons (ix_s_xld dL_law_777) <|
  .cons ((oc_X10_loose_s (ix_s_callv (t := 9) (k_X10_loose l) (by decide) (by decide) tw_624 tw_1 tw_621 tw_622 tw_623 ⟨by decide, by decide, by decide +kernel⟩ (by decide) rfl rfl (fun _ => ⟨_, _, rfl, rfl⟩) dL_law_778)).toX) <|
  .cons ((ix_s_aload_n dL_law_781 rfl).toX) <|
  .cons ((ix_s_aload_n dL_law_782 rfl).toX) <|
  .cons ((ix_s_iload_n dL_law_783 rfl).toX) <|
  .cons ((ix_s_iconst dL_law_784 (by decide +kernel)).toX) <|
  .cons ((ix_s_iadd dL_law_785).toX) <|
  .cons (ix_s_xld dL_law_786) <|
  .cons ((oc_X11_loose_s (ix_s_callv (t := 10) (k_X11_loose l) (by decide) (by decide) tw_1206 tw_12 tw_1203 tw_1204 tw_1205 ⟨by decide, by decide, by decide +kernel⟩ (by decide) rfl rfl (fun _ => ⟨_, _, rfl, rfl⟩) dL_law_787)).toX) <|
  .cons ((ix_s_cmp_eq dL_law_790 (by decide)).toX) <|
  .cons ((ix_s_iconst dL_law_793 (by decide +kernel)).toX) <|
  .cons ((ix_s_zret dL_law_794 rfl).toX) <| .nil
theorem keyL_18 (L : Nat) (xs : Nat → Int32) : (bL_18 L xs).map Prod.fst = [795, 796, 797, 798, 799, 800, 801, 802, 803, 804, 805, 806, 809, 810, 811, 812, 813, 814, 815, 816, 817, 818, 819, 820, 823, 826, 827] := rfl
theorem sL_18 (l : Launch) (b : Nat) (L : Nat) (xs : Nat → Int32) : ix_AllX (b, L, xs) l cL_law 4 RL 61 (some .boolean) (bL_18 L xs) :=
  .cons ((ix_s_aload_n dL_law_795 rfl).toX) <|
  .cons ((ix_s_aload_n dL_law_796 rfl).toX) <|
  .cons ((ix_s_iload_n dL_law_797 rfl).toX) <|
  .cons ((ix_s_iconst dL_law_798 (by decide +kernel)).toX) <|
  .cons ((ix_s_iadd dL_law_799).toX) <|
  .cons (ix_s_xld dL_law_800) <|
  .cons ((ix_s_aload_n dL_law_801 rfl).toX) <|
  .cons ((ix_s_iload_n dL_law_802 rfl).toX) <|
  .cons ((ix_s_iconst dL_law_803 (by decide +kernel)).toX) <|
  .cons ((ix_s_iadd dL_law_804).toX) <|
  .cons (ix_s_xld dL_law_805) <|
  .cons ((oc_X10_then_s (ix_s_callv (t := 9) (k_X10_then l) (by decide) (by decide) tw_634 tw_1 tw_631 tw_632 tw_633 ⟨by decide, by decide, by decide +kernel⟩ (by decide) rfl rfl (fun _ => ⟨_, _, rfl, rfl⟩) dL_law_806)).toX) <|
  .cons ((ix_s_aload_n dL_law_809 rfl).toX) <|
  .cons ((ix_s_aload_n dL_law_810 rfl).toX) <|
  .cons ((ix_s_iload_n dL_law_811 rfl).toX) <|
  .cons ((ix_s_iconst dL_law_812 (by decide +kernel)).toX) <|
  .cons ((ix_s_iadd dL_law_813).toX) <|
  .cons (ix_s_xld dL_law_814) <|
  .cons ((ix_s_aload_n dL_law_815 rfl).toX) <|
  .cons ((ix_s_iload_n dL_law_816 rfl).toX) <|
  .cons ((ix_s_iconst dL_law_817 (by decide +kernel)).toX) <|
  .cons ((ix_s_iadd dL_law_818).toX) <|
  .cons (ix_s_xld dL_law_819) <|
  .cons ((oc_X11_then_s (ix_s_callv (t := 10) (k_X11_then l) (by decide) (by decide) tw_1215 tw_12 tw_1212 tw_1213 tw_1214 ⟨by decide, by decide, by decide +kernel⟩ (by decide) rfl rfl (fun _ => ⟨_, _, rfl, rfl⟩) dL_law_820)).toX) <|
  .cons ((ix_s_cmp_eq dL_law_823 (by decide)).toX) <|
  .cons ((ix_s_iconst dL_law_826 (by decide +kernel)).toX) <|
  .cons ((ix_s_zret dL_law_827 rfl).toX) <| .nil
theorem keyL_19 (L : Nat) (xs : Nat → Int32) : (bL_19 L xs).map Prod.fst = [828, 829, 830, 831, 832, 833, 834, 835, 836, 837, 838, 839, 840, 841, 842, 843, 844, 847, 848, 849, 850, 851, 852, 853, 854, 855, 856, 857, 858, 859, 860, 861, 862, 863, 866, 869, 870] := rfl
theorem sL_19 (l : Launch) (b : Nat) (L : Nat) (xs : Nat → Int32) : ix_AllX (b, L, xs) l cL_law 4 RL 61 (some .boolean) (bL_19 L xs) :=
  .cons ((ix_s_aload_n dL_law_828 rfl).toX) <|
  .cons ((ix_s_aload_n dL_law_829 rfl).toX) <|
  .cons ((ix_s_iload_n dL_law_830 rfl).toX) <|
  .cons ((ix_s_iconst dL_law_831 (by decide +kernel)).toX) <|
  .cons ((ix_s_iadd dL_law_832).toX) <|
  .cons (ix_s_xld dL_law_833) <|
  .cons ((ix_s_aload_n dL_law_834 rfl).toX) <|
  .cons ((ix_s_iload_n dL_law_835 rfl).toX) <|
  .cons ((ix_s_iconst dL_law_836 (by decide +kernel)).toX) <|
  .cons ((ix_s_iadd dL_law_837).toX) <|
  .cons (ix_s_xld dL_law_838) <|
  .cons ((ix_s_aload_n dL_law_839 rfl).toX) <|
  .cons ((ix_s_iload_n dL_law_840 rfl).toX) <|
  .cons ((ix_s_iconst dL_law_841 (by decide +kernel)).toX) <|
  .cons ((ix_s_iadd dL_law_842).toX) <|
  .cons (ix_s_xld dL_law_843) <|
  .cons ((oc_X10_on_s (ix_s_callv (t := 9) (k_X10_on l) (by decide) (by decide) tw_651 tw_1 tw_648 tw_649 tw_650 ⟨by decide, by decide, by decide +kernel⟩ (by decide) rfl rfl (fun _ => ⟨_, _, rfl, rfl⟩) dL_law_844)).toX) <|
  .cons ((ix_s_aload_n dL_law_847 rfl).toX) <|
  .cons ((ix_s_aload_n dL_law_848 rfl).toX) <|
  .cons ((ix_s_iload_n dL_law_849 rfl).toX) <|
  .cons ((ix_s_iconst dL_law_850 (by decide +kernel)).toX) <|
  .cons ((ix_s_iadd dL_law_851).toX) <|
  .cons (ix_s_xld dL_law_852) <|
  .cons ((ix_s_aload_n dL_law_853 rfl).toX) <|
  .cons ((ix_s_iload_n dL_law_854 rfl).toX) <|
  .cons ((ix_s_iconst dL_law_855 (by decide +kernel)).toX) <|
  .cons ((ix_s_iadd dL_law_856).toX) <|
  .cons (ix_s_xld dL_law_857) <|
  .cons ((ix_s_aload_n dL_law_858 rfl).toX) <|
  .cons ((ix_s_iload_n dL_law_859 rfl).toX) <|
  .cons ((ix_s_iconst dL_law_860 (by decide +kernel)).toX) <|
  .cons ((ix_s_iadd dL_law_861).toX) <|
  .cons (ix_s_xld dL_law_862) <|
  .cons ((oc_X11_on_s (ix_s_callv (t := 10) (k_X11_on l) (by decide) (by decide) tw_1233 tw_12 tw_1230 tw_1231 tw_1232 ⟨by decide, by decide, by decide +kernel⟩ (by decide) rfl rfl (fun _ => ⟨_, _, rfl, rfl⟩) dL_law_863)).toX) <|
  .cons ((ix_s_cmp_eq dL_law_866 (by decide)).toX) <|
  .cons ((ix_s_iconst dL_law_869 (by decide +kernel)).toX) <|
  .cons ((ix_s_zret dL_law_870 rfl).toX) <| .nil
theorem keyL_20 (L : Nat) (xs : Nat → Int32) : (bL_20 L xs).map Prod.fst = [871, 872, 873, 874, 875, 876, 877, 878, 879, 880, 881, 882, 885, 886, 887, 888, 889, 890, 891, 892, 893, 894, 895, 896, 899, 902, 903] := rfl
theorem sL_20 (l : Launch) (b : Nat) (L : Nat) (xs : Nat → Int32) : ix_AllX (b, L, xs) l cL_law 4 RL 61 (some .boolean) (bL_20 L xs) :=
  .cons ((ix_s_aload_n dL_law_871 rfl).toX) <|
  .cons ((ix_s_aload_n dL_law_872 rfl).toX) <|
  .cons ((ix_s_iload_n dL_law_873 rfl).toX) <|
  .cons ((ix_s_iconst dL_law_874 (by decide +kernel)).toX) <|
  .cons ((ix_s_iadd dL_law_875).toX) <|
  .cons (ix_s_xld dL_law_876) <|
  .cons ((ix_s_aload_n dL_law_877 rfl).toX) <|
  .cons ((ix_s_iload_n dL_law_878 rfl).toX) <|
  .cons ((ix_s_iconst dL_law_879 (by decide +kernel)).toX) <|
  .cons ((ix_s_iadd dL_law_880).toX) <|
  .cons (ix_s_xld dL_law_881) <|
  .cons ((oc_X10_full_s (ix_s_callv (t := 9) (k_X10_full l) (by decide) (by decide) tw_655 tw_1 tw_652 tw_653 tw_654 ⟨by decide, by decide, by decide +kernel⟩ (by decide) rfl rfl (fun _ => ⟨_, _, rfl, rfl⟩) dL_law_882)).toX) <|
  .cons ((ix_s_aload_n dL_law_885 rfl).toX) <|
  .cons ((ix_s_aload_n dL_law_886 rfl).toX) <|
  .cons ((ix_s_iload_n dL_law_887 rfl).toX) <|
  .cons ((ix_s_iconst dL_law_888 (by decide +kernel)).toX) <|
  .cons ((ix_s_iadd dL_law_889).toX) <|
  .cons (ix_s_xld dL_law_890) <|
  .cons ((ix_s_aload_n dL_law_891 rfl).toX) <|
  .cons ((ix_s_iload_n dL_law_892 rfl).toX) <|
  .cons ((ix_s_iconst dL_law_893 (by decide +kernel)).toX) <|
  .cons ((ix_s_iadd dL_law_894).toX) <|
  .cons (ix_s_xld dL_law_895) <|
  .cons ((oc_X11_full_s (ix_s_callv (t := 10) (k_X11_full l) (by decide) (by decide) tw_1237 tw_12 tw_1234 tw_1235 tw_1236 ⟨by decide, by decide, by decide +kernel⟩ (by decide) rfl rfl (fun _ => ⟨_, _, rfl, rfl⟩) dL_law_896)).toX) <|
  .cons ((ix_s_cmp_eq dL_law_899 (by decide)).toX) <|
  .cons ((ix_s_iconst dL_law_902 (by decide +kernel)).toX) <|
  .cons ((ix_s_zret dL_law_903 rfl).toX) <| .nil
theorem keyL_21 (L : Nat) (xs : Nat → Int32) : (bL_21 L xs).map Prod.fst = [904, 905, 906, 907, 908, 909, 910, 911, 912, 913, 914, 915, 918, 919, 920, 921, 922, 923, 924, 925, 926, 927, 928, 929, 932, 935, 936] := rfl
theorem sL_21 (l : Launch) (b : Nat) (L : Nat) (xs : Nat → Int32) : ix_AllX (b, L, xs) l cL_law 4 RL 61 (some .boolean) (bL_21 L xs) :=
  .cons ((ix_s_aload_n dL_law_904 rfl).toX) <|
  .cons ((ix_s_aload_n dL_law_905 rfl).toX) <|
  .cons ((ix_s_iload_n dL_law_906 rfl).toX) <|
  .cons ((ix_s_iconst dL_law_907 (by decide +kernel)).toX) <|
  .cons ((ix_s_iadd dL_law_908).toX) <|
  .cons (ix_s_xld dL_law_909) <|
  .cons ((ix_s_aload_n dL_law_910 rfl).toX) <|
  .cons ((ix_s_iload_n dL_law_911 rfl).toX) <|
  .cons ((ix_s_iconst dL_law_912 (by decide +kernel)).toX) <|
  .cons ((ix_s_iadd dL_law_913).toX) <|
  .cons (ix_s_xld dL_law_914) <|
  .cons ((oc_X10_wayFor_s (ix_s_callv (t := 9) (k_X10_wayFor l) (by decide) (by decide) tw_659 tw_1 tw_656 tw_657 tw_658 ⟨by decide, by decide, by decide +kernel⟩ (by decide) rfl rfl (fun _ => ⟨_, _, rfl, rfl⟩) dL_law_915)).toX) <|
  .cons ((ix_s_aload_n dL_law_918 rfl).toX) <|
  .cons ((ix_s_aload_n dL_law_919 rfl).toX) <|
  .cons ((ix_s_iload_n dL_law_920 rfl).toX) <|
  .cons ((ix_s_iconst dL_law_921 (by decide +kernel)).toX) <|
  .cons ((ix_s_iadd dL_law_922).toX) <|
  .cons (ix_s_xld dL_law_923) <|
  .cons ((ix_s_aload_n dL_law_924 rfl).toX) <|
  .cons ((ix_s_iload_n dL_law_925 rfl).toX) <|
  .cons ((ix_s_iconst dL_law_926 (by decide +kernel)).toX) <|
  .cons ((ix_s_iadd dL_law_927).toX) <|
  .cons (ix_s_xld dL_law_928) <|
  .cons ((oc_X11_wayFor_s (ix_s_callv (t := 10) (k_X11_wayFor l) (by decide) (by decide) tw_1242 tw_12 tw_1239 tw_1240 tw_1241 ⟨by decide, by decide, by decide +kernel⟩ (by decide) rfl rfl (fun _ => ⟨_, _, rfl, rfl⟩) dL_law_929)).toX) <|
  .cons ((ix_s_cmp_eq dL_law_932 (by decide)).toX) <|
  .cons ((ix_s_iconst dL_law_935 (by decide +kernel)).toX) <|
  .cons ((ix_s_zret dL_law_936 rfl).toX) <| .nil
theorem keyL_22 (L : Nat) (xs : Nat → Int32) : (bL_22 L xs).map Prod.fst = [937, 938, 939, 940, 941, 942, 943, 944, 945, 946, 947, 948, 951, 952, 953, 954, 955, 956, 957, 958, 959, 960, 961, 962, 965, 968, 969] := rfl
theorem sL_22 (l : Launch) (b : Nat) (L : Nat) (xs : Nat → Int32) : ix_AllX (b, L, xs) l cL_law 4 RL 61 (some .boolean) (bL_22 L xs) :=
  .cons ((ix_s_aload_n dL_law_937 rfl).toX) <|
  .cons ((ix_s_aload_n dL_law_938 rfl).toX) <|
  .cons ((ix_s_iload_n dL_law_939 rfl).toX) <|
  .cons ((ix_s_iconst dL_law_940 (by decide +kernel)).toX) <|
  .cons ((ix_s_iadd dL_law_941).toX) <|
  .cons (ix_s_xld dL_law_942) <|
  .cons ((ix_s_aload_n dL_law_943 rfl).toX) <|
  .cons ((ix_s_iload_n dL_law_944 rfl).toX) <|
  .cons ((ix_s_iconst dL_law_945 (by decide +kernel)).toX) <|
  .cons ((ix_s_iadd dL_law_946).toX) <|
  .cons (ix_s_xld dL_law_947) <|
  .cons ((oc_X10_cellFor_s (ix_s_callv (t := 9) (k_X10_cellFor l) (by decide) (by decide) tw_671 tw_1 tw_668 tw_669 tw_670 ⟨by decide, by decide, by decide +kernel⟩ (by decide) rfl rfl (fun _ => ⟨_, _, rfl, rfl⟩) dL_law_948)).toX) <|
  .cons ((ix_s_aload_n dL_law_951 rfl).toX) <|
  .cons ((ix_s_aload_n dL_law_952 rfl).toX) <|
  .cons ((ix_s_iload_n dL_law_953 rfl).toX) <|
  .cons ((ix_s_iconst dL_law_954 (by decide +kernel)).toX) <|
  .cons ((ix_s_iadd dL_law_955).toX) <|
  .cons (ix_s_xld dL_law_956) <|
  .cons ((ix_s_aload_n dL_law_957 rfl).toX) <|
  .cons ((ix_s_iload_n dL_law_958 rfl).toX) <|
  .cons ((ix_s_iconst dL_law_959 (by decide +kernel)).toX) <|
  .cons ((ix_s_iadd dL_law_960).toX) <|
  .cons (ix_s_xld dL_law_961) <|
  .cons ((oc_X11_cellFor_s (ix_s_callv (t := 10) (k_X11_cellFor l) (by decide) (by decide) tw_1254 tw_12 tw_1251 tw_1252 tw_1253 ⟨by decide, by decide, by decide +kernel⟩ (by decide) rfl rfl (fun _ => ⟨_, _, rfl, rfl⟩) dL_law_962)).toX) <|
  .cons ((ix_s_cmp_eq dL_law_965 (by decide)).toX) <|
  .cons ((ix_s_iconst dL_law_968 (by decide +kernel)).toX) <|
  .cons ((ix_s_zret dL_law_969 rfl).toX) <| .nil
theorem keyL_23 (L : Nat) (xs : Nat → Int32) : (bL_23 L xs).map Prod.fst = [970, 971, 972, 973, 974, 975, 976, 977, 978, 979, 980, 981, 984, 985, 986, 987, 988, 989, 990, 991, 992, 993, 994, 995, 998, 1001, 1002] := rfl
theorem sL_23 (l : Launch) (b : Nat) (L : Nat) (xs : Nat → Int32) : ix_AllX (b, L, xs) l cL_law 4 RL 61 (some .boolean) (bL_23 L xs) :=
  .cons ((ix_s_aload_n dL_law_970 rfl).toX) <|
  .cons ((ix_s_aload_n dL_law_971 rfl).toX) <|
  .cons ((ix_s_iload_n dL_law_972 rfl).toX) <|
  .cons ((ix_s_iconst dL_law_973 (by decide +kernel)).toX) <|
  .cons ((ix_s_iadd dL_law_974).toX) <|
  .cons (ix_s_xld dL_law_975) <|
  .cons ((ix_s_aload_n dL_law_976 rfl).toX) <|
  .cons ((ix_s_iload_n dL_law_977 rfl).toX) <|
  .cons ((ix_s_iconst dL_law_978 (by decide +kernel)).toX) <|
  .cons ((ix_s_iadd dL_law_979).toX) <|
  .cons (ix_s_xld dL_law_980) <|
  .cons ((oc_X10_kindFor_s (ix_s_callv (t := 9) (k_X10_kindFor l) (by decide) (by decide) tw_675 tw_1 tw_672 tw_673 tw_674 ⟨by decide, by decide, by decide +kernel⟩ (by decide) rfl rfl (fun _ => ⟨_, _, rfl, rfl⟩) dL_law_981)).toX) <|
  .cons ((ix_s_aload_n dL_law_984 rfl).toX) <|
  .cons ((ix_s_aload_n dL_law_985 rfl).toX) <|
  .cons ((ix_s_iload_n dL_law_986 rfl).toX) <|
  .cons ((ix_s_iconst dL_law_987 (by decide +kernel)).toX) <|
  .cons ((ix_s_iadd dL_law_988).toX) <|
  .cons (ix_s_xld dL_law_989) <|
  .cons ((ix_s_aload_n dL_law_990 rfl).toX) <|
  .cons ((ix_s_iload_n dL_law_991 rfl).toX) <|
  .cons ((ix_s_iconst dL_law_992 (by decide +kernel)).toX) <|
  .cons ((ix_s_iadd dL_law_993).toX) <|
  .cons (ix_s_xld dL_law_994) <|
  .cons ((oc_X11_kindFor_s (ix_s_callv (t := 10) (k_X11_kindFor l) (by decide) (by decide) tw_1258 tw_12 tw_1255 tw_1256 tw_1257 ⟨by decide, by decide, by decide +kernel⟩ (by decide) rfl rfl (fun _ => ⟨_, _, rfl, rfl⟩) dL_law_995)).toX) <|
  .cons ((ix_s_cmp_eq dL_law_998 (by decide)).toX) <|
  .cons ((ix_s_iconst dL_law_1001 (by decide +kernel)).toX) <|
  .cons ((ix_s_zret dL_law_1002 rfl).toX) <| .nil
theorem keyL_24 (L : Nat) (xs : Nat → Int32) : (bL_24 L xs).map Prod.fst = [1003, 1004, 1005, 1006, 1007, 1008, 1009, 1010, 1011, 1012, 1013, 1014, 1015, 1016, 1017, 1018, 1019, 1022, 1023, 1024, 1025, 1026, 1027, 1028, 1029, 1030, 1031, 1032, 1033, 1034, 1035, 1036, 1037, 1038, 1041, 1044, 1045] := rfl
theorem sL_24 (l : Launch) (b : Nat) (L : Nat) (xs : Nat → Int32) : ix_AllX (b, L, xs) l cL_law 4 RL 61 (some .boolean) (bL_24 L xs) :=
  .cons ((ix_s_aload_n dL_law_1003 rfl).toX) <|
  .cons ((ix_s_aload_n dL_law_1004 rfl).toX) <|
  .cons ((ix_s_iload_n dL_law_1005 rfl).toX) <|
  .cons ((ix_s_iconst dL_law_1006 (by decide +kernel)).toX) <|
  .cons ((ix_s_iadd dL_law_1007).toX) <|
  .cons (ix_s_xld dL_law_1008) <|
  .cons ((ix_s_aload_n dL_law_1009 rfl).toX) <|
  .cons ((ix_s_iload_n dL_law_1010 rfl).toX) <|
  .cons ((ix_s_iconst dL_law_1011 (by decide +kernel)).toX) <|
  .cons ((ix_s_iadd dL_law_1012).toX) <|
  .cons (ix_s_xld dL_law_1013) <|
  .cons ((ix_s_aload_n dL_law_1014 rfl).toX) <|
  .cons ((ix_s_iload_n dL_law_1015 rfl).toX) <|
  .cons ((ix_s_iconst dL_law_1016 (by decide +kernel)).toX) <|
  .cons ((ix_s_iadd dL_law_1017).toX) <|
  .cons (ix_s_xld dL_law_1018) <|
  .cons ((oc_X10_route_s (ix_s_callv (t := 9) (k_X10_route l) (by decide) (by decide) tw_679 tw_1 tw_676 tw_677 tw_678 ⟨by decide, by decide, by decide +kernel⟩ (by decide) rfl rfl (fun _ => ⟨_, _, rfl, rfl⟩) dL_law_1019)).toX) <|
  .cons ((ix_s_aload_n dL_law_1022 rfl).toX) <|
  .cons ((ix_s_aload_n dL_law_1023 rfl).toX) <|
  .cons ((ix_s_iload_n dL_law_1024 rfl).toX) <|
  .cons ((ix_s_iconst dL_law_1025 (by decide +kernel)).toX) <|
  .cons ((ix_s_iadd dL_law_1026).toX) <|
  .cons (ix_s_xld dL_law_1027) <|
  .cons ((ix_s_aload_n dL_law_1028 rfl).toX) <|
  .cons ((ix_s_iload_n dL_law_1029 rfl).toX) <|
  .cons ((ix_s_iconst dL_law_1030 (by decide +kernel)).toX) <|
  .cons ((ix_s_iadd dL_law_1031).toX) <|
  .cons (ix_s_xld dL_law_1032) <|
  .cons ((ix_s_aload_n dL_law_1033 rfl).toX) <|
  .cons ((ix_s_iload_n dL_law_1034 rfl).toX) <|
  .cons ((ix_s_iconst dL_law_1035 (by decide +kernel)).toX) <|
  .cons ((ix_s_iadd dL_law_1036).toX) <|
  .cons (ix_s_xld dL_law_1037) <|
  .cons ((oc_X11_route_s (ix_s_callv (t := 10) (k_X11_route l) (by decide) (by decide) tw_1262 tw_12 tw_1259 tw_1260 tw_1261 ⟨by decide, by decide, by decide +kernel⟩ (by decide) rfl rfl (fun _ => ⟨_, _, rfl, rfl⟩) dL_law_1038)).toX) <|
  .cons ((ix_s_cmp_eq dL_law_1041 (by decide)).toX) <|
  .cons ((ix_s_iconst dL_law_1044 (by decide +kernel)).toX) <|
  .cons ((ix_s_zret dL_law_1045 rfl).toX) <| .nil
theorem keyL_25 (L : Nat) (xs : Nat → Int32) : (bL_25 L xs).map Prod.fst = [1046, 1047, 1048, 1049, 1050, 1051, 1052, 1053, 1054, 1055, 1056, 1057, 1060, 1061, 1062, 1063, 1064, 1065, 1066, 1067, 1068, 1069, 1070, 1071, 1074, 1077, 1078] := rfl
theorem sL_25 (l : Launch) (b : Nat) (L : Nat) (xs : Nat → Int32) : ix_AllX (b, L, xs) l cL_law 4 RL 61 (some .boolean) (bL_25 L xs) :=
  .cons ((ix_s_aload_n dL_law_1046 rfl).toX) <|
  .cons ((ix_s_aload_n dL_law_1047 rfl).toX) <|
  .cons ((ix_s_iload_n dL_law_1048 rfl).toX) <|
  .cons ((ix_s_iconst dL_law_1049 (by decide +kernel)).toX) <|
  .cons ((ix_s_iadd dL_law_1050).toX) <|
  .cons (ix_s_xld dL_law_1051) <|
  .cons ((ix_s_aload_n dL_law_1052 rfl).toX) <|
  .cons ((ix_s_iload_n dL_law_1053 rfl).toX) <|
  .cons ((ix_s_iconst dL_law_1054 (by decide +kernel)).toX) <|
  .cons ((ix_s_iadd dL_law_1055).toX) <|
  .cons (ix_s_xld dL_law_1056) <|
  .cons ((oc_X10_darkFor_s (ix_s_callv (t := 9) (k_X10_darkFor l) (by decide) (by decide) tw_687 tw_1 tw_684 tw_685 tw_686 ⟨by decide, by decide, by decide +kernel⟩ (by decide) rfl rfl (fun _ => ⟨_, _, rfl, rfl⟩) dL_law_1057)).toX) <|
  .cons ((ix_s_aload_n dL_law_1060 rfl).toX) <|
  .cons ((ix_s_aload_n dL_law_1061 rfl).toX) <|
  .cons ((ix_s_iload_n dL_law_1062 rfl).toX) <|
  .cons ((ix_s_iconst dL_law_1063 (by decide +kernel)).toX) <|
  .cons ((ix_s_iadd dL_law_1064).toX) <|
  .cons (ix_s_xld dL_law_1065) <|
  .cons ((ix_s_aload_n dL_law_1066 rfl).toX) <|
  .cons ((ix_s_iload_n dL_law_1067 rfl).toX) <|
  .cons ((ix_s_iconst dL_law_1068 (by decide +kernel)).toX) <|
  .cons ((ix_s_iadd dL_law_1069).toX) <|
  .cons (ix_s_xld dL_law_1070) <|
  .cons ((oc_X11_darkFor_s (ix_s_callv (t := 10) (k_X11_darkFor l) (by decide) (by decide) tw_1270 tw_12 tw_1267 tw_1268 tw_1269 ⟨by decide, by decide, by decide +kernel⟩ (by decide) rfl rfl (fun _ => ⟨_, _, rfl, rfl⟩) dL_law_1071)).toX) <|
  .cons ((ix_s_cmp_eq dL_law_1074 (by decide)).toX) <|
  .cons ((ix_s_iconst dL_law_1077 (by decide +kernel)).toX) <|
  .cons ((ix_s_zret dL_law_1078 rfl).toX) <| .nil
theorem keyL_26 (L : Nat) (xs : Nat → Int32) : (bL_26 L xs).map Prod.fst = [1079, 1080, 1081, 1082, 1083, 1084, 1085, 1088, 1089, 1090, 1091, 1092, 1093, 1094, 1097, 1100, 1101] := rfl
theorem sL_26 (l : Launch) (b : Nat) (L : Nat) (xs : Nat → Int32) : ix_AllX (b, L, xs) l cL_law 4 RL 61 (some .boolean) (bL_26 L xs) :=
  .cons ((ix_s_aload_n dL_law_1079 rfl).toX) <|
  .cons ((ix_s_aload_n dL_law_1080 rfl).toX) <|
  .cons ((ix_s_iload_n dL_law_1081 rfl).toX) <|
  .cons ((ix_s_iconst dL_law_1082 (by decide +kernel)).toX) <|
  .cons ((ix_s_iadd dL_law_1083).toX) <|
  .cons (ix_s_xld dL_law_1084) <|
  .cons ((oc_X10_match_s (ix_s_callv (t := 9) (k_X10_match l) (by decide) (by decide) tw_691 tw_1 tw_688 tw_689 tw_690 ⟨by decide, by decide, by decide +kernel⟩ (by decide) rfl rfl (fun _ => ⟨_, _, rfl, rfl⟩) dL_law_1085)).toX) <|
  .cons ((ix_s_aload_n dL_law_1088 rfl).toX) <|
  .cons ((ix_s_aload_n dL_law_1089 rfl).toX) <|
  .cons ((ix_s_iload_n dL_law_1090 rfl).toX) <|
  .cons ((ix_s_iconst dL_law_1091 (by decide +kernel)).toX) <|
  .cons ((ix_s_iadd dL_law_1092).toX) <|
  .cons (ix_s_xld dL_law_1093) <|
  .cons ((oc_X11_match_s (ix_s_callv (t := 10) (k_X11_match l) (by decide) (by decide) tw_1277 tw_12 tw_1274 tw_1275 tw_1276 ⟨by decide, by decide, by decide +kernel⟩ (by decide) rfl rfl (fun _ => ⟨_, _, rfl, rfl⟩) dL_law_1094)).toX) <|
  .cons ((ix_s_cmp_eq dL_law_1097 (by decide)).toX) <|
  .cons ((ix_s_iconst dL_law_1100 (by decide +kernel)).toX) <|
  .cons ((ix_s_zret dL_law_1101 rfl).toX) <| .nil
theorem keyL_27 (L : Nat) (xs : Nat → Int32) : (bL_27 L xs).map Prod.fst = [1102, 1103, 1104, 1105, 1106, 1107, 1108, 1111, 1112, 1113, 1114, 1115, 1116, 1117, 1120, 1123, 1124] := rfl
theorem sL_27 (l : Launch) (b : Nat) (L : Nat) (xs : Nat → Int32) : ix_AllX (b, L, xs) l cL_law 4 RL 61 (some .boolean) (bL_27 L xs) :=
  .cons ((ix_s_aload_n dL_law_1102 rfl).toX) <|
  .cons ((ix_s_aload_n dL_law_1103 rfl).toX) <|
  .cons ((ix_s_iload_n dL_law_1104 rfl).toX) <|
  .cons ((ix_s_iconst dL_law_1105 (by decide +kernel)).toX) <|
  .cons ((ix_s_iadd dL_law_1106).toX) <|
  .cons (ix_s_xld dL_law_1107) <|
  .cons ((oc_X10_blend_s (ix_s_callv (t := 9) (k_X10_blend l) (by decide) (by decide) tw_728 tw_1 tw_725 tw_726 tw_727 ⟨by decide, by decide, by decide +kernel⟩ (by decide) rfl rfl (fun _ => ⟨_, _, rfl, rfl⟩) dL_law_1108)).toX) <|
  .cons ((ix_s_aload_n dL_law_1111 rfl).toX) <|
  .cons ((ix_s_aload_n dL_law_1112 rfl).toX) <|
  .cons ((ix_s_iload_n dL_law_1113 rfl).toX) <|
  .cons ((ix_s_iconst dL_law_1114 (by decide +kernel)).toX) <|
  .cons ((ix_s_iadd dL_law_1115).toX) <|
  .cons (ix_s_xld dL_law_1116) <|
  .cons ((oc_X11_blend_s (ix_s_callv (t := 10) (k_X11_blend l) (by decide) (by decide) tw_1297 tw_12 tw_1294 tw_1295 tw_1296 ⟨by decide, by decide, by decide +kernel⟩ (by decide) rfl rfl (fun _ => ⟨_, _, rfl, rfl⟩) dL_law_1117)).toX) <|
  .cons ((ix_s_cmp_eq dL_law_1120 (by decide)).toX) <|
  .cons ((ix_s_iconst dL_law_1123 (by decide +kernel)).toX) <|
  .cons ((ix_s_zret dL_law_1124 rfl).toX) <| .nil
theorem keyL_28 (L : Nat) (xs : Nat → Int32) : (bL_28 L xs).map Prod.fst = [1125, 1126, 1127, 1128, 1129, 1130, 1131, 1132, 1133, 1134, 1135, 1136, 1139, 1140, 1141, 1142, 1143, 1144, 1145, 1146, 1147, 1148, 1149, 1150, 1153, 1156, 1157] := rfl
theorem sL_28 (l : Launch) (b : Nat) (L : Nat) (xs : Nat → Int32) : ix_AllX (b, L, xs) l cL_law 4 RL 61 (some .boolean) (bL_28 L xs) :=
  .cons ((ix_s_aload_n dL_law_1125 rfl).toX) <|
  .cons ((ix_s_aload_n dL_law_1126 rfl).toX) <|
  .cons ((ix_s_iload_n dL_law_1127 rfl).toX) <|
  .cons ((ix_s_iconst dL_law_1128 (by decide +kernel)).toX) <|
  .cons ((ix_s_iadd dL_law_1129).toX) <|
  .cons (ix_s_xld dL_law_1130) <|
  .cons ((ix_s_aload_n dL_law_1131 rfl).toX) <|
  .cons ((ix_s_iload_n dL_law_1132 rfl).toX) <|
  .cons ((ix_s_iconst dL_law_1133 (by decide +kernel)).toX) <|
  .cons ((ix_s_iadd dL_law_1134).toX) <|
  .cons (ix_s_xld dL_law_1135) <|
  .cons ((oc_X10_which_s (ix_s_callv (t := 9) (k_X10_which l) (by decide) (by decide) tw_735 tw_1 tw_732 tw_733 tw_734 ⟨by decide, by decide, by decide +kernel⟩ (by decide) rfl rfl (fun _ => ⟨_, _, rfl, rfl⟩) dL_law_1136)).toX) <|
  .cons ((ix_s_aload_n dL_law_1139 rfl).toX) <|
  .cons ((ix_s_aload_n dL_law_1140 rfl).toX) <|
  .cons ((ix_s_iload_n dL_law_1141 rfl).toX) <|
  .cons ((ix_s_iconst dL_law_1142 (by decide +kernel)).toX) <|
  .cons ((ix_s_iadd dL_law_1143).toX) <|
  .cons (ix_s_xld dL_law_1144) <|
  .cons ((ix_s_aload_n dL_law_1145 rfl).toX) <|
  .cons ((ix_s_iload_n dL_law_1146 rfl).toX) <|
  .cons ((ix_s_iconst dL_law_1147 (by decide +kernel)).toX) <|
  .cons ((ix_s_iadd dL_law_1148).toX) <|
  .cons (ix_s_xld dL_law_1149) <|
  .cons ((oc_X11_which_s (ix_s_callv (t := 10) (k_X11_which l) (by decide) (by decide) tw_1302 tw_12 tw_1299 tw_1300 tw_1301 ⟨by decide, by decide, by decide +kernel⟩ (by decide) rfl rfl (fun _ => ⟨_, _, rfl, rfl⟩) dL_law_1150)).toX) <|
  .cons ((ix_s_cmp_eq dL_law_1153 (by decide)).toX) <|
  .cons ((ix_s_iconst dL_law_1156 (by decide +kernel)).toX) <|
  .cons ((ix_s_zret dL_law_1157 rfl).toX) <| .nil
theorem keyL_29 (L : Nat) (xs : Nat → Int32) : (bL_29 L xs).map Prod.fst = [1158, 1159, 1160, 1161, 1162, 1163, 1164, 1165, 1166, 1167, 1168, 1169, 1170, 1171, 1172, 1173, 1174, 1177, 1178, 1179, 1180, 1181, 1182, 1183, 1184, 1185, 1186, 1187, 1188, 1189, 1190, 1191, 1192, 1193, 1196, 1199, 1200] := rfl
theorem sL_29 (l : Launch) (b : Nat) (L : Nat) (xs : Nat → Int32) : ix_AllX (b, L, xs) l cL_law 4 RL 61 (some .boolean) (bL_29 L xs) :=
  .cons ((ix_s_aload_n dL_law_1158 rfl).toX) <|
  .cons ((ix_s_aload_n dL_law_1159 rfl).toX) <|
  .cons ((ix_s_iload_n dL_law_1160 rfl).toX) <|
  .cons ((ix_s_iconst dL_law_1161 (by decide +kernel)).toX) <|
  .cons ((ix_s_iadd dL_law_1162).toX) <|
  .cons (ix_s_xld dL_law_1163) <|
  .cons ((ix_s_aload_n dL_law_1164 rfl).toX) <|
  .cons ((ix_s_iload_n dL_law_1165 rfl).toX) <|
  .cons ((ix_s_iconst dL_law_1166 (by decide +kernel)).toX) <|
  .cons ((ix_s_iadd dL_law_1167).toX) <|
  .cons (ix_s_xld dL_law_1168) <|
  .cons ((ix_s_aload_n dL_law_1169 rfl).toX) <|
  .cons ((ix_s_iload_n dL_law_1170 rfl).toX) <|
  .cons ((ix_s_iconst dL_law_1171 (by decide +kernel)).toX) <|
  .cons ((ix_s_iadd dL_law_1172).toX) <|
  .cons (ix_s_xld dL_law_1173) <|
  .cons ((oc_X10_lay_s (ix_s_callv (t := 9) (k_X10_lay l) (by decide) (by decide) tw_752 tw_1 tw_749 tw_750 tw_751 ⟨by decide, by decide, by decide +kernel⟩ (by decide) rfl rfl (fun _ => ⟨_, _, rfl, rfl⟩) dL_law_1174)).toX) <|
  .cons ((ix_s_aload_n dL_law_1177 rfl).toX) <|
  .cons ((ix_s_aload_n dL_law_1178 rfl).toX) <|
  .cons ((ix_s_iload_n dL_law_1179 rfl).toX) <|
  .cons ((ix_s_iconst dL_law_1180 (by decide +kernel)).toX) <|
  .cons ((ix_s_iadd dL_law_1181).toX) <|
  .cons (ix_s_xld dL_law_1182) <|
  .cons ((ix_s_aload_n dL_law_1183 rfl).toX) <|
  .cons ((ix_s_iload_n dL_law_1184 rfl).toX) <|
  .cons ((ix_s_iconst dL_law_1185 (by decide +kernel)).toX) <|
  .cons ((ix_s_iadd dL_law_1186).toX) <|
  .cons (ix_s_xld dL_law_1187) <|
  .cons ((ix_s_aload_n dL_law_1188 rfl).toX) <|
  .cons ((ix_s_iload_n dL_law_1189 rfl).toX) <|
  .cons ((ix_s_iconst dL_law_1190 (by decide +kernel)).toX) <|
  .cons ((ix_s_iadd dL_law_1191).toX) <|
  .cons (ix_s_xld dL_law_1192) <|
  .cons ((oc_X11_lay_s (ix_s_callv (t := 10) (k_X11_lay l) (by decide) (by decide) tw_1313 tw_12 tw_1310 tw_1311 tw_1312 ⟨by decide, by decide, by decide +kernel⟩ (by decide) rfl rfl (fun _ => ⟨_, _, rfl, rfl⟩) dL_law_1193)).toX) <|
  .cons ((ix_s_cmp_eq dL_law_1196 (by decide)).toX) <|
  .cons ((ix_s_iconst dL_law_1199 (by decide +kernel)).toX) <|
  .cons ((ix_s_zret dL_law_1200 rfl).toX) <| .nil
theorem keyL_30 (L : Nat) (xs : Nat → Int32) : (bL_30 L xs).map Prod.fst = [1201, 1202, 1203, 1204, 1205, 1206, 1207, 1208, 1209, 1210, 1211, 1212, 1213, 1214, 1215, 1216, 1217, 1220, 1221, 1222, 1223, 1224, 1225, 1226, 1227, 1228, 1229, 1230, 1231, 1232, 1233, 1234, 1235, 1236, 1239, 1242, 1243] := rfl
theorem sL_30 (l : Launch) (b : Nat) (L : Nat) (xs : Nat → Int32) : ix_AllX (b, L, xs) l cL_law 4 RL 61 (some .boolean) (bL_30 L xs) :=
  .cons ((ix_s_aload_n dL_law_1201 rfl).toX) <|
  .cons ((ix_s_aload_n dL_law_1202 rfl).toX) <|
  .cons ((ix_s_iload_n dL_law_1203 rfl).toX) <|
  .cons ((ix_s_iconst dL_law_1204 (by decide +kernel)).toX) <|
  .cons ((ix_s_iadd dL_law_1205).toX) <|
  .cons (ix_s_xld dL_law_1206) <|
  .cons ((ix_s_aload_n dL_law_1207 rfl).toX) <|
  .cons ((ix_s_iload_n dL_law_1208 rfl).toX) <|
  .cons ((ix_s_iconst dL_law_1209 (by decide +kernel)).toX) <|
  .cons ((ix_s_iadd dL_law_1210).toX) <|
  .cons (ix_s_xld dL_law_1211) <|
  .cons ((ix_s_aload_n dL_law_1212 rfl).toX) <|
  .cons ((ix_s_iload_n dL_law_1213 rfl).toX) <|
  .cons ((ix_s_iconst dL_law_1214 (by decide +kernel)).toX) <|
  .cons ((ix_s_iadd dL_law_1215).toX) <|
  .cons (ix_s_xld dL_law_1216) <|
  .cons ((oc_X10_odds_s (ix_s_callv (t := 9) (k_X10_odds l) (by decide) (by decide) tw_756 tw_1 tw_753 tw_754 tw_755 ⟨by decide, by decide, by decide +kernel⟩ (by decide) rfl rfl (fun _ => ⟨_, _, rfl, rfl⟩) dL_law_1217)).toX) <|
  .cons ((ix_s_aload_n dL_law_1220 rfl).toX) <|
  .cons ((ix_s_aload_n dL_law_1221 rfl).toX) <|
  .cons ((ix_s_iload_n dL_law_1222 rfl).toX) <|
  .cons ((ix_s_iconst dL_law_1223 (by decide +kernel)).toX) <|
  .cons ((ix_s_iadd dL_law_1224).toX) <|
  .cons (ix_s_xld dL_law_1225) <|
  .cons ((ix_s_aload_n dL_law_1226 rfl).toX) <|
  .cons ((ix_s_iload_n dL_law_1227 rfl).toX) <|
  .cons ((ix_s_iconst dL_law_1228 (by decide +kernel)).toX) <|
  .cons ((ix_s_iadd dL_law_1229).toX) <|
  .cons (ix_s_xld dL_law_1230) <|
  .cons ((ix_s_aload_n dL_law_1231 rfl).toX) <|
  .cons ((ix_s_iload_n dL_law_1232 rfl).toX) <|
  .cons ((ix_s_iconst dL_law_1233 (by decide +kernel)).toX) <|
  .cons ((ix_s_iadd dL_law_1234).toX) <|
  .cons (ix_s_xld dL_law_1235) <|
  .cons ((oc_X11_odds_s (ix_s_callv (t := 10) (k_X11_odds l) (by decide) (by decide) tw_1317 tw_12 tw_1314 tw_1315 tw_1316 ⟨by decide, by decide, by decide +kernel⟩ (by decide) rfl rfl (fun _ => ⟨_, _, rfl, rfl⟩) dL_law_1236)).toX) <|
  .cons ((ix_s_cmp_eq dL_law_1239 (by decide)).toX) <|
  .cons ((ix_s_iconst dL_law_1242 (by decide +kernel)).toX) <|
  .cons ((ix_s_zret dL_law_1243 rfl).toX) <| .nil
theorem keyL_31 (L : Nat) (xs : Nat → Int32) : (bL_31 L xs).map Prod.fst = [1244, 1245, 1246, 1247, 1248, 1249, 1250, 1253, 1254, 1255, 1256, 1257, 1258, 1259, 1262, 1265, 1266] := rfl
theorem sL_31 (l : Launch) (b : Nat) (L : Nat) (xs : Nat → Int32) : ix_AllX (b, L, xs) l cL_law 4 RL 61 (some .boolean) (bL_31 L xs) :=
  .cons ((ix_s_aload_n dL_law_1244 rfl).toX) <|
  .cons ((ix_s_aload_n dL_law_1245 rfl).toX) <|
  .cons ((ix_s_iload_n dL_law_1246 rfl).toX) <|
  .cons ((ix_s_iconst dL_law_1247 (by decide +kernel)).toX) <|
  .cons ((ix_s_iadd dL_law_1248).toX) <|
  .cons (ix_s_xld dL_law_1249) <|
  .cons ((oc_X10_seed_s (ix_s_callv (t := 9) (k_X10_seed l) (by decide) (by decide) tw_763 tw_1 tw_760 tw_761 tw_762 ⟨by decide, by decide, by decide +kernel⟩ (by decide) rfl rfl (fun _ => ⟨_, _, rfl, rfl⟩) dL_law_1250)).toX) <|
  .cons ((ix_s_aload_n dL_law_1253 rfl).toX) <|
  .cons ((ix_s_aload_n dL_law_1254 rfl).toX) <|
  .cons ((ix_s_iload_n dL_law_1255 rfl).toX) <|
  .cons ((ix_s_iconst dL_law_1256 (by decide +kernel)).toX) <|
  .cons ((ix_s_iadd dL_law_1257).toX) <|
  .cons (ix_s_xld dL_law_1258) <|
  .cons ((oc_X11_seed_s (ix_s_callv (t := 10) (k_X11_seed l) (by decide) (by decide) tw_1321 tw_12 tw_1318 tw_1319 tw_1320 ⟨by decide, by decide, by decide +kernel⟩ (by decide) rfl rfl (fun _ => ⟨_, _, rfl, rfl⟩) dL_law_1259)).toX) <|
  .cons ((ix_s_cmp_eq dL_law_1262 (by decide)).toX) <|
  .cons ((ix_s_iconst dL_law_1265 (by decide +kernel)).toX) <|
  .cons ((ix_s_zret dL_law_1266 rfl).toX) <| .nil
theorem keyL_32 (L : Nat) (xs : Nat → Int32) : (bL_32 L xs).map Prod.fst = [1267, 1268, 1269, 1270, 1271, 1272, 1273, 1274, 1275, 1276, 1277, 1278, 1279, 1280, 1281, 1282, 1283, 1286, 1287, 1288, 1289, 1290, 1291, 1292, 1293, 1294, 1295, 1296, 1297, 1298, 1299, 1300, 1301, 1302, 1305, 1308, 1309] := rfl
theorem sL_32 (l : Launch) (b : Nat) (L : Nat) (xs : Nat → Int32) : ix_AllX (b, L, xs) l cL_law 4 RL 61 (some .boolean) (bL_32 L xs) :=
  .cons ((ix_s_aload_n dL_law_1267 rfl).toX) <|
  .cons ((ix_s_aload_n dL_law_1268 rfl).toX) <|
  .cons ((ix_s_iload_n dL_law_1269 rfl).toX) <|
  .cons ((ix_s_iconst dL_law_1270 (by decide +kernel)).toX) <|
  .cons ((ix_s_iadd dL_law_1271).toX) <|
  .cons (ix_s_xld dL_law_1272) <|
  .cons ((ix_s_aload_n dL_law_1273 rfl).toX) <|
  .cons ((ix_s_iload_n dL_law_1274 rfl).toX) <|
  .cons ((ix_s_iconst dL_law_1275 (by decide +kernel)).toX) <|
  .cons ((ix_s_iadd dL_law_1276).toX) <|
  .cons (ix_s_xld dL_law_1277) <|
  .cons ((ix_s_aload_n dL_law_1278 rfl).toX) <|
  .cons ((ix_s_iload_n dL_law_1279 rfl).toX) <|
  .cons ((ix_s_iconst dL_law_1280 (by decide +kernel)).toX) <|
  .cons ((ix_s_iadd dL_law_1281).toX) <|
  .cons (ix_s_xld dL_law_1282) <|
  .cons ((oc_X10_voice_s (ix_s_callv (t := 9) (k_X10_voice l) (by decide) (by decide) tw_767 tw_1 tw_764 tw_765 tw_766 ⟨by decide, by decide, by decide +kernel⟩ (by decide) rfl rfl (fun _ => ⟨_, _, rfl, rfl⟩) dL_law_1283)).toX) <|
  .cons ((ix_s_aload_n dL_law_1286 rfl).toX) <|
  .cons ((ix_s_aload_n dL_law_1287 rfl).toX) <|
  .cons ((ix_s_iload_n dL_law_1288 rfl).toX) <|
  .cons ((ix_s_iconst dL_law_1289 (by decide +kernel)).toX) <|
  .cons ((ix_s_iadd dL_law_1290).toX) <|
  .cons (ix_s_xld dL_law_1291) <|
  .cons ((ix_s_aload_n dL_law_1292 rfl).toX) <|
  .cons ((ix_s_iload_n dL_law_1293 rfl).toX) <|
  .cons ((ix_s_iconst dL_law_1294 (by decide +kernel)).toX) <|
  .cons ((ix_s_iadd dL_law_1295).toX) <|
  .cons (ix_s_xld dL_law_1296) <|
  .cons ((ix_s_aload_n dL_law_1297 rfl).toX) <|
  .cons ((ix_s_iload_n dL_law_1298 rfl).toX) <|
  .cons ((ix_s_iconst dL_law_1299 (by decide +kernel)).toX) <|
  .cons ((ix_s_iadd dL_law_1300).toX) <|
  .cons (ix_s_xld dL_law_1301) <|
  .cons ((oc_X11_voice_s (ix_s_callv (t := 10) (k_X11_voice l) (by decide) (by decide) tw_1325 tw_12 tw_1322 tw_1323 tw_1324 ⟨by decide, by decide, by decide +kernel⟩ (by decide) rfl rfl (fun _ => ⟨_, _, rfl, rfl⟩) dL_law_1302)).toX) <|
  .cons ((ix_s_cmp_eq dL_law_1305 (by decide)).toX) <|
  .cons ((ix_s_iconst dL_law_1308 (by decide +kernel)).toX) <|
  .cons ((ix_s_zret dL_law_1309 rfl).toX) <| .nil
theorem keyL_33 (L : Nat) (xs : Nat → Int32) : (bL_33 L xs).map Prod.fst = [1310, 1311, 1312, 1313, 1314, 1315, 1316, 1319, 1320, 1321, 1322, 1323, 1324, 1325, 1328, 1331, 1332] := rfl
theorem sL_33 (l : Launch) (b : Nat) (L : Nat) (xs : Nat → Int32) : ix_AllX (b, L, xs) l cL_law 4 RL 61 (some .boolean) (bL_33 L xs) :=
  .cons ((ix_s_aload_n dL_law_1310 rfl).toX) <|
  .cons ((ix_s_aload_n dL_law_1311 rfl).toX) <|
  .cons ((ix_s_iload_n dL_law_1312 rfl).toX) <|
  .cons ((ix_s_iconst dL_law_1313 (by decide +kernel)).toX) <|
  .cons ((ix_s_iadd dL_law_1314).toX) <|
  .cons (ix_s_xld dL_law_1315) <|
  .cons ((oc_X10_trace_s (ix_s_callv (t := 9) (k_X10_trace l) (by decide) (by decide) tw_789 tw_1 tw_786 tw_787 tw_788 ⟨by decide, by decide, by decide +kernel⟩ (by decide) rfl rfl (fun _ => ⟨_, _, rfl, rfl⟩) dL_law_1316)).toX) <|
  .cons ((ix_s_aload_n dL_law_1319 rfl).toX) <|
  .cons ((ix_s_aload_n dL_law_1320 rfl).toX) <|
  .cons ((ix_s_iload_n dL_law_1321 rfl).toX) <|
  .cons ((ix_s_iconst dL_law_1322 (by decide +kernel)).toX) <|
  .cons ((ix_s_iadd dL_law_1323).toX) <|
  .cons (ix_s_xld dL_law_1324) <|
  .cons ((oc_X11_trace_s (ix_s_callv (t := 10) (k_X11_trace l) (by decide) (by decide) tw_1353 tw_12 tw_1350 tw_1351 tw_1352 ⟨by decide, by decide, by decide +kernel⟩ (by decide) rfl rfl (fun _ => ⟨_, _, rfl, rfl⟩) dL_law_1325)).toX) <|
  .cons ((ix_s_cmp_eq dL_law_1328 (by decide)).toX) <|
  .cons ((ix_s_iconst dL_law_1331 (by decide +kernel)).toX) <|
  .cons ((ix_s_zret dL_law_1332 rfl).toX) <| .nil
theorem keyL_34 (L : Nat) (xs : Nat → Int32) : (bL_34 L xs).map Prod.fst = [1333, 1334, 1335, 1336, 1337, 1338, 1339, 1340, 1341, 1342, 1343, 1344, 1345, 1346, 1347, 1348, 1349, 1352, 1353, 1354, 1355, 1356, 1357, 1358, 1359, 1360, 1361, 1362, 1363, 1364, 1365, 1366, 1367, 1368, 1371, 1374, 1375] := rfl
theorem sL_34 (l : Launch) (b : Nat) (L : Nat) (xs : Nat → Int32) : ix_AllX (b, L, xs) l cL_law 4 RL 61 (some .boolean) (bL_34 L xs) :=
  .cons ((ix_s_aload_n dL_law_1333 rfl).toX) <|
  .cons ((ix_s_aload_n dL_law_1334 rfl).toX) <|
  .cons ((ix_s_iload_n dL_law_1335 rfl).toX) <|
  .cons ((ix_s_iconst dL_law_1336 (by decide +kernel)).toX) <|
  .cons ((ix_s_iadd dL_law_1337).toX) <|
  .cons (ix_s_xld dL_law_1338) <|
  .cons ((ix_s_aload_n dL_law_1339 rfl).toX) <|
  .cons ((ix_s_iload_n dL_law_1340 rfl).toX) <|
  .cons ((ix_s_iconst dL_law_1341 (by decide +kernel)).toX) <|
  .cons ((ix_s_iadd dL_law_1342).toX) <|
  .cons (ix_s_xld dL_law_1343) <|
  .cons ((ix_s_aload_n dL_law_1344 rfl).toX) <|
  .cons ((ix_s_iload_n dL_law_1345 rfl).toX) <|
  .cons ((ix_s_iconst dL_law_1346 (by decide +kernel)).toX) <|
  .cons ((ix_s_iadd dL_law_1347).toX) <|
  .cons (ix_s_xld dL_law_1348) <|
  .cons ((oc_X10_sheet_s (ix_s_callv (t := 9) (k_X10_sheet l) (by decide) (by decide) tw_794 tw_1 tw_791 tw_792 tw_793 ⟨by decide, by decide, by decide +kernel⟩ (by decide) rfl rfl (fun _ => ⟨_, _, rfl, rfl⟩) dL_law_1349)).toX) <|
  .cons ((ix_s_aload_n dL_law_1352 rfl).toX) <|
  .cons ((ix_s_aload_n dL_law_1353 rfl).toX) <|
  .cons ((ix_s_iload_n dL_law_1354 rfl).toX) <|
  .cons ((ix_s_iconst dL_law_1355 (by decide +kernel)).toX) <|
  .cons ((ix_s_iadd dL_law_1356).toX) <|
  .cons (ix_s_xld dL_law_1357) <|
  .cons ((ix_s_aload_n dL_law_1358 rfl).toX) <|
  .cons ((ix_s_iload_n dL_law_1359 rfl).toX) <|
  .cons ((ix_s_iconst dL_law_1360 (by decide +kernel)).toX) <|
  .cons ((ix_s_iadd dL_law_1361).toX) <|
  .cons (ix_s_xld dL_law_1362) <|
  .cons ((ix_s_aload_n dL_law_1363 rfl).toX) <|
  .cons ((ix_s_iload_n dL_law_1364 rfl).toX) <|
  .cons ((ix_s_iconst dL_law_1365 (by decide +kernel)).toX) <|
  .cons ((ix_s_iadd dL_law_1366).toX) <|
  .cons (ix_s_xld dL_law_1367) <|
  .cons ((oc_X11_sheet_s (ix_s_callv (t := 10) (k_X11_sheet l) (by decide) (by decide) tw_1357 tw_12 tw_1354 tw_1355 tw_1356 ⟨by decide, by decide, by decide +kernel⟩ (by decide) rfl rfl (fun _ => ⟨_, _, rfl, rfl⟩) dL_law_1368)).toX) <|
  .cons ((ix_s_cmp_eq dL_law_1371 (by decide)).toX) <|
  .cons ((ix_s_iconst dL_law_1374 (by decide +kernel)).toX) <|
  .cons ((ix_s_zret dL_law_1375 rfl).toX) <| .nil
theorem keyL_35 (L : Nat) (xs : Nat → Int32) : (bL_35 L xs).map Prod.fst = [1376, 1377, 1378, 1379, 1380, 1381, 1382, 1383, 1384, 1385, 1386, 1387, 1388, 1389, 1390, 1391, 1392, 1395, 1396, 1397, 1398, 1399, 1400, 1401, 1402, 1403, 1404, 1405, 1406, 1407, 1408, 1409, 1410, 1411, 1414, 1417, 1418] := rfl
theorem sL_35 (l : Launch) (b : Nat) (L : Nat) (xs : Nat → Int32) : ix_AllX (b, L, xs) l cL_law 4 RL 61 (some .boolean) (bL_35 L xs) :=
  .cons ((ix_s_aload_n dL_law_1376 rfl).toX) <|
  .cons ((ix_s_aload_n dL_law_1377 rfl).toX) <|
  .cons ((ix_s_iload_n dL_law_1378 rfl).toX) <|
  .cons ((ix_s_iconst dL_law_1379 (by decide +kernel)).toX) <|
  .cons ((ix_s_iadd dL_law_1380).toX) <|
  .cons (ix_s_xld dL_law_1381) <|
  .cons ((ix_s_aload_n dL_law_1382 rfl).toX) <|
  .cons ((ix_s_iload_n dL_law_1383 rfl).toX) <|
  .cons ((ix_s_iconst dL_law_1384 (by decide +kernel)).toX) <|
  .cons ((ix_s_iadd dL_law_1385).toX) <|
  .cons (ix_s_xld dL_law_1386) <|
  .cons ((ix_s_aload_n dL_law_1387 rfl).toX) <|
  .cons ((ix_s_iload_n dL_law_1388 rfl).toX) <|
  .cons ((ix_s_iconst dL_law_1389 (by decide +kernel)).toX) <|
  .cons ((ix_s_iadd dL_law_1390).toX) <|
  .cons (ix_s_xld dL_law_1391) <|
  .cons ((oc_X10_put_s (ix_s_callv (t := 9) (k_X10_put l) (by decide) (by decide) tw_804 tw_1 tw_801 tw_802 tw_803 ⟨by decide, by decide, by decide +kernel⟩ (by decide) rfl rfl (fun _ => ⟨_, _, rfl, rfl⟩) dL_law_1392)).toX) <|
  .cons ((ix_s_aload_n dL_law_1395 rfl).toX) <|
  .cons ((ix_s_aload_n dL_law_1396 rfl).toX) <|
  .cons ((ix_s_iload_n dL_law_1397 rfl).toX) <|
  .cons ((ix_s_iconst dL_law_1398 (by decide +kernel)).toX) <|
  .cons ((ix_s_iadd dL_law_1399).toX) <|
  .cons (ix_s_xld dL_law_1400) <|
  .cons ((ix_s_aload_n dL_law_1401 rfl).toX) <|
  .cons ((ix_s_iload_n dL_law_1402 rfl).toX) <|
  .cons ((ix_s_iconst dL_law_1403 (by decide +kernel)).toX) <|
  .cons ((ix_s_iadd dL_law_1404).toX) <|
  .cons (ix_s_xld dL_law_1405) <|
  .cons ((ix_s_aload_n dL_law_1406 rfl).toX) <|
  .cons ((ix_s_iload_n dL_law_1407 rfl).toX) <|
  .cons ((ix_s_iconst dL_law_1408 (by decide +kernel)).toX) <|
  .cons ((ix_s_iadd dL_law_1409).toX) <|
  .cons (ix_s_xld dL_law_1410) <|
  .cons ((oc_X11_put_s (ix_s_callv (t := 10) (k_X11_put l) (by decide) (by decide) tw_1361 tw_12 tw_1358 tw_1359 tw_1360 ⟨by decide, by decide, by decide +kernel⟩ (by decide) rfl rfl (fun _ => ⟨_, _, rfl, rfl⟩) dL_law_1411)).toX) <|
  .cons ((ix_s_cmp_eq dL_law_1414 (by decide)).toX) <|
  .cons ((ix_s_iconst dL_law_1417 (by decide +kernel)).toX) <|
  .cons ((ix_s_zret dL_law_1418 rfl).toX) <| .nil
theorem keyL_36 (L : Nat) (xs : Nat → Int32) : (bL_36 L xs).map Prod.fst = [1419, 1420, 1421, 1422, 1423, 1424, 1425, 1426, 1427, 1428, 1429, 1430, 1431, 1432, 1433, 1434, 1435, 1436, 1437, 1438, 1439, 1440, 1441, 1442, 1443, 1444, 1445, 1448, 1449, 1450, 1451, 1452, 1453, 1454, 1455, 1456, 1457, 1458, 1459, 1460, 1461, 1462, 1463, 1464, 1465, 1466, 1467, 1468, 1469, 1470, 1471, 1472, 1473, 1474, 1477, 1480, 1481] := rfl
theorem sL_36 (l : Launch) (b : Nat) (L : Nat) (xs : Nat → Int32) : ix_AllX (b, L, xs) l cL_law 4 RL 61 (some .boolean) (bL_36 L xs) :=
  .cons ((ix_s_aload_n dL_law_1419 rfl).toX) <|
  .cons ((ix_s_aload_n dL_law_1420 rfl).toX) <|
  .cons ((ix_s_iload_n dL_law_1421 rfl).toX) <|
  .cons ((ix_s_iconst dL_law_1422 (by decide +kernel)).toX) <|
  .cons ((ix_s_iadd dL_law_1423).toX) <|
  .cons (ix_s_xld dL_law_1424) <|
  .cons ((ix_s_aload_n dL_law_1425 rfl).toX) <|
  .cons ((ix_s_iload_n dL_law_1426 rfl).toX) <|
  .cons ((ix_s_iconst dL_law_1427 (by decide +kernel)).toX) <|
  .cons ((ix_s_iadd dL_law_1428).toX) <|
  .cons (ix_s_xld dL_law_1429) <|
  .cons ((ix_s_aload_n dL_law_1430 rfl).toX) <|
  .cons ((ix_s_iload_n dL_law_1431 rfl).toX) <|
  .cons ((ix_s_iconst dL_law_1432 (by decide +kernel)).toX) <|
  .cons ((ix_s_iadd dL_law_1433).toX) <|
  .cons (ix_s_xld dL_law_1434) <|
  .cons ((ix_s_aload_n dL_law_1435 rfl).toX) <|
  .cons ((ix_s_iload_n dL_law_1436 rfl).toX) <|
  .cons ((ix_s_iconst dL_law_1437 (by decide +kernel)).toX) <|
  .cons ((ix_s_iadd dL_law_1438).toX) <|
  .cons (ix_s_xld dL_law_1439) <|
  .cons ((ix_s_aload_n dL_law_1440 rfl).toX) <|
  .cons ((ix_s_iload_n dL_law_1441 rfl).toX) <|
  .cons ((ix_s_iconst dL_law_1442 (by decide +kernel)).toX) <|
  .cons ((ix_s_iadd dL_law_1443).toX) <|
  .cons (ix_s_xld dL_law_1444) <|
  .cons ((oc_X10_move_s (ix_s_callv (t := 9) (k_X10_move l) (by decide) (by decide) tw_813 tw_1 tw_810 tw_811 tw_812 ⟨by decide, by decide, by decide +kernel⟩ (by decide) rfl rfl (fun _ => ⟨_, _, rfl, rfl⟩) dL_law_1445)).toX) <|
  .cons ((ix_s_aload_n dL_law_1448 rfl).toX) <|
  .cons ((ix_s_aload_n dL_law_1449 rfl).toX) <|
  .cons ((ix_s_iload_n dL_law_1450 rfl).toX) <|
  .cons ((ix_s_iconst dL_law_1451 (by decide +kernel)).toX) <|
  .cons ((ix_s_iadd dL_law_1452).toX) <|
  .cons (ix_s_xld dL_law_1453) <|
  .cons ((ix_s_aload_n dL_law_1454 rfl).toX) <|
  .cons ((ix_s_iload_n dL_law_1455 rfl).toX) <|
  .cons ((ix_s_iconst dL_law_1456 (by decide +kernel)).toX) <|
  .cons ((ix_s_iadd dL_law_1457).toX) <|
  .cons (ix_s_xld dL_law_1458) <|
  .cons ((ix_s_aload_n dL_law_1459 rfl).toX) <|
  .cons ((ix_s_iload_n dL_law_1460 rfl).toX) <|
  .cons ((ix_s_iconst dL_law_1461 (by decide +kernel)).toX) <|
  .cons ((ix_s_iadd dL_law_1462).toX) <|
  .cons (ix_s_xld dL_law_1463) <|
  .cons ((ix_s_aload_n dL_law_1464 rfl).toX) <|
  .cons ((ix_s_iload_n dL_law_1465 rfl).toX) <|
  .cons ((ix_s_iconst dL_law_1466 (by decide +kernel)).toX) <|
  .cons ((ix_s_iadd dL_law_1467).toX) <|
  .cons (ix_s_xld dL_law_1468) <|
  .cons ((ix_s_aload_n dL_law_1469 rfl).toX) <|
  .cons ((ix_s_iload_n dL_law_1470 rfl).toX) <|
  .cons ((ix_s_iconst dL_law_1471 (by decide +kernel)).toX) <|
  .cons ((ix_s_iadd dL_law_1472).toX) <|
  .cons (ix_s_xld dL_law_1473) <|
  .cons ((oc_X11_move_s (ix_s_callv (t := 10) (k_X11_move l) (by decide) (by decide) tw_1365 tw_12 tw_1362 tw_1363 tw_1364 ⟨by decide, by decide, by decide +kernel⟩ (by decide) rfl rfl (fun _ => ⟨_, _, rfl, rfl⟩) dL_law_1474)).toX) <|
  .cons ((ix_s_cmp_eq dL_law_1477 (by decide)).toX) <|
  .cons ((ix_s_iconst dL_law_1480 (by decide +kernel)).toX) <|
  .cons ((ix_s_zret dL_law_1481 rfl).toX) <| .nil
theorem keyL_37 (L : Nat) (xs : Nat → Int32) : (bL_37 L xs).map Prod.fst = [1482, 1483, 1484, 1485, 1486, 1487, 1488, 1491, 1492, 1493, 1494, 1495, 1496, 1497, 1500, 1503, 1504] := rfl
theorem sL_37 (l : Launch) (b : Nat) (L : Nat) (xs : Nat → Int32) : ix_AllX (b, L, xs) l cL_law 4 RL 61 (some .boolean) (bL_37 L xs) :=
  .cons ((ix_s_aload_n dL_law_1482 rfl).toX) <|
  .cons ((ix_s_aload_n dL_law_1483 rfl).toX) <|
  .cons ((ix_s_iload_n dL_law_1484 rfl).toX) <|
  .cons ((ix_s_iconst dL_law_1485 (by decide +kernel)).toX) <|
  .cons ((ix_s_iadd dL_law_1486).toX) <|
  .cons (ix_s_xld dL_law_1487) <|
  .cons ((oc_X10_lies_s (ix_s_callv (t := 9) (k_X10_lies l) (by decide) (by decide) tw_822 tw_1 tw_819 tw_820 tw_821 ⟨by decide, by decide, by decide +kernel⟩ (by decide) rfl rfl (fun _ => ⟨_, _, rfl, rfl⟩) dL_law_1488)).toX) <|
  .cons ((ix_s_aload_n dL_law_1491 rfl).toX) <|
  .cons ((ix_s_aload_n dL_law_1492 rfl).toX) <|
  .cons ((ix_s_iload_n dL_law_1493 rfl).toX) <|
  .cons ((ix_s_iconst dL_law_1494 (by decide +kernel)).toX) <|
  .cons ((ix_s_iadd dL_law_1495).toX) <|
  .cons (ix_s_xld dL_law_1496) <|
  .cons ((oc_X11_lies_s (ix_s_callv (t := 10) (k_X11_lies l) (by decide) (by decide) tw_1369 tw_12 tw_1366 tw_1367 tw_1368 ⟨by decide, by decide, by decide +kernel⟩ (by decide) rfl rfl (fun _ => ⟨_, _, rfl, rfl⟩) dL_law_1497)).toX) <|
  .cons ((ix_s_cmp_eq dL_law_1500 (by decide)).toX) <|
  .cons ((ix_s_iconst dL_law_1503 (by decide +kernel)).toX) <|
  .cons ((ix_s_zret dL_law_1504 rfl).toX) <| .nil
theorem keyL_38 (L : Nat) (xs : Nat → Int32) : (bL_38 L xs).map Prod.fst = [1505, 1506, 1507, 1508, 1509, 1510, 1511, 1514, 1515, 1516, 1517, 1518, 1519, 1520, 1523, 1526, 1527] := rfl
theorem sL_38 (l : Launch) (b : Nat) (L : Nat) (xs : Nat → Int32) : ix_AllX (b, L, xs) l cL_law 4 RL 61 (some .boolean) (bL_38 L xs) :=
  .cons ((ix_s_aload_n dL_law_1505 rfl).toX) <|
  .cons ((ix_s_aload_n dL_law_1506 rfl).toX) <|
  .cons ((ix_s_iload_n dL_law_1507 rfl).toX) <|
  .cons ((ix_s_iconst dL_law_1508 (by decide +kernel)).toX) <|
  .cons ((ix_s_iadd dL_law_1509).toX) <|
  .cons (ix_s_xld dL_law_1510) <|
  .cons ((oc_X10_judge_s (ix_s_callv (t := 9) (k_X10_judge l) (by decide) (by decide) tw_826 tw_1 tw_823 tw_824 tw_825 ⟨by decide, by decide, by decide +kernel⟩ (by decide) rfl rfl (fun _ => ⟨_, _, rfl, rfl⟩) dL_law_1511)).toX) <|
  .cons ((ix_s_aload_n dL_law_1514 rfl).toX) <|
  .cons ((ix_s_aload_n dL_law_1515 rfl).toX) <|
  .cons ((ix_s_iload_n dL_law_1516 rfl).toX) <|
  .cons ((ix_s_iconst dL_law_1517 (by decide +kernel)).toX) <|
  .cons ((ix_s_iadd dL_law_1518).toX) <|
  .cons (ix_s_xld dL_law_1519) <|
  .cons ((oc_X11_judge_s (ix_s_callv (t := 10) (k_X11_judge l) (by decide) (by decide) tw_1373 tw_12 tw_1370 tw_1371 tw_1372 ⟨by decide, by decide, by decide +kernel⟩ (by decide) rfl rfl (fun _ => ⟨_, _, rfl, rfl⟩) dL_law_1520)).toX) <|
  .cons ((ix_s_cmp_eq dL_law_1523 (by decide)).toX) <|
  .cons ((ix_s_iconst dL_law_1526 (by decide +kernel)).toX) <|
  .cons ((ix_s_zret dL_law_1527 rfl).toX) <| .nil
theorem keyL_39 (L : Nat) (xs : Nat → Int32) : (bL_39 L xs).map Prod.fst = [1528, 1529, 1532, 1533, 1536, 1539, 1540] := rfl
theorem sL_39 (l : Launch) (b : Nat) (L : Nat) (xs : Nat → Int32) : ix_AllX (b, L, xs) l cL_law 4 RL 61 (some .boolean) (bL_39 L xs) :=
  .cons ((ix_s_aload_n dL_law_1528 rfl).toX) <|
  .cons ((oc_X10_image_s (ix_s_callv (t := 9) (k_X10_image l) (by decide) (by decide) tw_830 tw_1 tw_827 tw_828 tw_829 ⟨by decide, by decide, by decide +kernel⟩ (by decide) rfl rfl (fun _ => ⟨_, _, rfl, rfl⟩) dL_law_1529)).toX) <|
  .cons ((ix_s_aload_n dL_law_1532 rfl).toX) <|
  .cons ((oc_X11_image_s (ix_s_callv (t := 10) (k_X11_image l) (by decide) (by decide) tw_1377 tw_12 tw_1374 tw_1375 tw_1376 ⟨by decide, by decide, by decide +kernel⟩ (by decide) rfl rfl (fun _ => ⟨_, _, rfl, rfl⟩) dL_law_1533)).toX) <|
  .cons ((ix_s_cmp_eq dL_law_1536 (by decide)).toX) <|
  .cons ((ix_s_iconst dL_law_1539 (by decide +kernel)).toX) <|
  .cons ((ix_s_zret dL_law_1540 rfl).toX) <| .nil
theorem keyL_40 (L : Nat) (xs : Nat → Int32) : (bL_40 L xs).map Prod.fst = [1541, 1542, 1545, 1546, 1549, 1552, 1553] := rfl
theorem sL_40 (l : Launch) (b : Nat) (L : Nat) (xs : Nat → Int32) : ix_AllX (b, L, xs) l cL_law 4 RL 61 (some .boolean) (bL_40 L xs) :=
  .cons ((ix_s_aload_n dL_law_1541 rfl).toX) <|
  .cons ((oc_X10_restore_s (ix_s_callv (t := 9) (k_X10_restore l) (by decide) (by decide) tw_846 tw_1 tw_843 tw_844 tw_845 ⟨by decide, by decide, by decide +kernel⟩ (by decide) rfl rfl (fun _ => ⟨_, _, rfl, rfl⟩) dL_law_1542)).toX) <|
  .cons ((ix_s_aload_n dL_law_1545 rfl).toX) <|
  .cons ((oc_X11_restore_s (ix_s_callv (t := 10) (k_X11_restore l) (by decide) (by decide) tw_1381 tw_12 tw_1378 tw_1379 tw_1380 ⟨by decide, by decide, by decide +kernel⟩ (by decide) rfl rfl (fun _ => ⟨_, _, rfl, rfl⟩) dL_law_1546)).toX) <|
  .cons ((ix_s_cmp_eq dL_law_1549 (by decide)).toX) <|
  .cons ((ix_s_iconst dL_law_1552 (by decide +kernel)).toX) <|
  .cons ((ix_s_zret dL_law_1553 rfl).toX) <| .nil
theorem keyL_41 (L : Nat) (xs : Nat → Int32) : (bL_41 L xs).map Prod.fst = [1554, 1555, 1556, 1557, 1558, 1559, 1560, 1563, 1564, 1565, 1566, 1567, 1568, 1569, 1572, 1575, 1576] := rfl
theorem sL_41 (l : Launch) (b : Nat) (L : Nat) (xs : Nat → Int32) : ix_AllX (b, L, xs) l cL_law 4 RL 61 (some .boolean) (bL_41 L xs) :=
  .cons ((ix_s_aload_n dL_law_1554 rfl).toX) <|
  .cons ((ix_s_aload_n dL_law_1555 rfl).toX) <|
  .cons ((ix_s_iload_n dL_law_1556 rfl).toX) <|
  .cons ((ix_s_iconst dL_law_1557 (by decide +kernel)).toX) <|
  .cons ((ix_s_iadd dL_law_1558).toX) <|
  .cons (ix_s_xld dL_law_1559) <|
  .cons ((oc_X10_tell_s (ix_s_callv (t := 9) (k_X10_tell l) (by decide) (by decide) tw_850 tw_1 tw_847 tw_848 tw_849 ⟨by decide, by decide, by decide +kernel⟩ (by decide) rfl rfl (fun _ => ⟨_, _, rfl, rfl⟩) dL_law_1560)).toX) <|
  .cons ((ix_s_aload_n dL_law_1563 rfl).toX) <|
  .cons ((ix_s_aload_n dL_law_1564 rfl).toX) <|
  .cons ((ix_s_iload_n dL_law_1565 rfl).toX) <|
  .cons ((ix_s_iconst dL_law_1566 (by decide +kernel)).toX) <|
  .cons ((ix_s_iadd dL_law_1567).toX) <|
  .cons (ix_s_xld dL_law_1568) <|
  .cons ((oc_X11_tell_s (ix_s_callv (t := 10) (k_X11_tell l) (by decide) (by decide) tw_1385 tw_12 tw_1382 tw_1383 tw_1384 ⟨by decide, by decide, by decide +kernel⟩ (by decide) rfl rfl (fun _ => ⟨_, _, rfl, rfl⟩) dL_law_1569)).toX) <|
  .cons ((ix_s_cmp_eq dL_law_1572 (by decide)).toX) <|
  .cons ((ix_s_iconst dL_law_1575 (by decide +kernel)).toX) <|
  .cons ((ix_s_zret dL_law_1576 rfl).toX) <| .nil
theorem keyL_42 (L : Nat) (xs : Nat → Int32) : (bL_42 L xs).map Prod.fst = [1577, 1578, 1581, 1582, 1585, 1588, 1589] := rfl
theorem sL_42 (l : Launch) (b : Nat) (L : Nat) (xs : Nat → Int32) : ix_AllX (b, L, xs) l cL_law 4 RL 61 (some .boolean) (bL_42 L xs) :=
  .cons ((ix_s_aload_n dL_law_1577 rfl).toX) <|
  .cons ((oc_X10_check_s (ix_s_callv (t := 9) (k_X10_check l) (by decide) (by decide) tw_854 tw_1 tw_851 tw_852 tw_853 ⟨by decide, by decide, by decide +kernel⟩ (by decide) rfl rfl (fun _ => ⟨_, _, rfl, rfl⟩) dL_law_1578)).toX) <|
  .cons ((ix_s_aload_n dL_law_1581 rfl).toX) <|
  .cons ((oc_X11_check_s (ix_s_callv (t := 10) (k_X11_check l) (by decide) (by decide) tw_1389 tw_12 tw_1386 tw_1387 tw_1388 ⟨by decide, by decide, by decide +kernel⟩ (by decide) rfl rfl (fun _ => ⟨_, _, rfl, rfl⟩) dL_law_1582)).toX) <|
  .cons ((ix_s_cmp_eq dL_law_1585 (by decide)).toX) <|
  .cons ((ix_s_iconst dL_law_1588 (by decide +kernel)).toX) <|
  .cons ((ix_s_zret dL_law_1589 rfl).toX) <| .nil
theorem keyL_43 (L : Nat) (xs : Nat → Int32) : (bL_43 L xs).map Prod.fst = [1590, 1591, 1592, 1593, 1594, 1595, 1596, 1599, 1600, 1601, 1602, 1603, 1604, 1605, 1608, 1611, 1612] := rfl
theorem sL_43 (l : Launch) (b : Nat) (L : Nat) (xs : Nat → Int32) : ix_AllX (b, L, xs) l cL_law 4 RL 61 (some .boolean) (bL_43 L xs) :=
  .cons ((ix_s_aload_n dL_law_1590 rfl).toX) <|
  .cons ((ix_s_aload_n dL_law_1591 rfl).toX) <|
  .cons ((ix_s_iload_n dL_law_1592 rfl).toX) <|
  .cons ((ix_s_iconst dL_law_1593 (by decide +kernel)).toX) <|
  .cons ((ix_s_iadd dL_law_1594).toX) <|
  .cons (ix_s_xld dL_law_1595) <|
  .cons ((oc_X10_count_s (ix_s_callv (t := 9) (k_X10_count l) (by decide) (by decide) tw_858 tw_1 tw_855 tw_856 tw_857 ⟨by decide, by decide, by decide +kernel⟩ (by decide) rfl rfl (fun _ => ⟨_, _, rfl, rfl⟩) dL_law_1596)).toX) <|
  .cons ((ix_s_aload_n dL_law_1599 rfl).toX) <|
  .cons ((ix_s_aload_n dL_law_1600 rfl).toX) <|
  .cons ((ix_s_iload_n dL_law_1601 rfl).toX) <|
  .cons ((ix_s_iconst dL_law_1602 (by decide +kernel)).toX) <|
  .cons ((ix_s_iadd dL_law_1603).toX) <|
  .cons (ix_s_xld dL_law_1604) <|
  .cons ((oc_X11_count_s (ix_s_callv (t := 10) (k_X11_count l) (by decide) (by decide) tw_1393 tw_12 tw_1390 tw_1391 tw_1392 ⟨by decide, by decide, by decide +kernel⟩ (by decide) rfl rfl (fun _ => ⟨_, _, rfl, rfl⟩) dL_law_1605)).toX) <|
  .cons ((ix_s_cmp_eq dL_law_1608 (by decide)).toX) <|
  .cons ((ix_s_iconst dL_law_1611 (by decide +kernel)).toX) <|
  .cons ((ix_s_zret dL_law_1612 rfl).toX) <| .nil
theorem keyL_44 (L : Nat) (xs : Nat → Int32) : (bL_44 L xs).map Prod.fst = [1613, 1614, 1615, 1616, 1617, 1618, 1619, 1622, 1623, 1624, 1625, 1626, 1627, 1628, 1631, 1634, 1635] := rfl
theorem sL_44 (l : Launch) (b : Nat) (L : Nat) (xs : Nat → Int32) : ix_AllX (b, L, xs) l cL_law 4 RL 61 (some .boolean) (bL_44 L xs) :=
  .cons ((ix_s_aload_n dL_law_1613 rfl).toX) <|
  .cons ((ix_s_aload_n dL_law_1614 rfl).toX) <|
  .cons ((ix_s_iload_n dL_law_1615 rfl).toX) <|
  .cons ((ix_s_iconst dL_law_1616 (by decide +kernel)).toX) <|
  .cons ((ix_s_iadd dL_law_1617).toX) <|
  .cons (ix_s_xld dL_law_1618) <|
  .cons ((oc_X10_told_s (ix_s_callv (t := 9) (k_X10_told l) (by decide) (by decide) tw_864 tw_1 tw_861 tw_862 tw_863 ⟨by decide, by decide, by decide +kernel⟩ (by decide) rfl rfl (fun _ => ⟨_, _, rfl, rfl⟩) dL_law_1619)).toX) <|
  .cons ((ix_s_aload_n dL_law_1622 rfl).toX) <|
  .cons ((ix_s_aload_n dL_law_1623 rfl).toX) <|
  .cons ((ix_s_iload_n dL_law_1624 rfl).toX) <|
  .cons ((ix_s_iconst dL_law_1625 (by decide +kernel)).toX) <|
  .cons ((ix_s_iadd dL_law_1626).toX) <|
  .cons (ix_s_xld dL_law_1627) <|
  .cons ((oc_X11_told_s (ix_s_callv (t := 10) (k_X11_told l) (by decide) (by decide) tw_1401 tw_12 tw_1398 tw_1399 tw_1400 ⟨by decide, by decide, by decide +kernel⟩ (by decide) rfl rfl (fun _ => ⟨_, _, rfl, rfl⟩) dL_law_1628)).toX) <|
  .cons ((ix_s_cmp_eq dL_law_1631 (by decide)).toX) <|
  .cons ((ix_s_iconst dL_law_1634 (by decide +kernel)).toX) <|
  .cons ((ix_s_zret dL_law_1635 rfl).toX) <| .nil
theorem keyL_45 (L : Nat) (xs : Nat → Int32) : (bL_45 L xs).map Prod.fst = [1636, 1639, 1642, 1643] := rfl
theorem sL_45 (l : Launch) (b : Nat) (L : Nat) (xs : Nat → Int32) : ix_AllX (b, L, xs) l cL_law 4 RL 61 (some .boolean) (bL_45 L xs) :=
  .cons ((ix_s_iinc dL_law_1636 (by decide +kernel) (by decide)).toX) <|
  .cons ((ix_s_goto dL_law_1639 (by decide)).toX) <|
  .cons ((ix_s_iconst dL_law_1642 (by decide +kernel)).toX) <|
  .cons ((ix_s_zret dL_law_1643 rfl).toX) <| .nil
theorem stL_0 (L : Nat) (xs : Nat → Int32) : ∀ pc, 18 ≤ pc → ix_lk (tL_0 L xs) pc = ix_lk (tL_0 L xs) pc := fun _ _ => rfl
theorem stL_1 (L : Nat) (xs : Nat → Int32) : ∀ pc, 224 ≤ pc → ix_lk (tL_0 L xs) pc = ix_lk (tL_1 L xs) pc := fun pc h => (stL_0 L xs pc (by omega)).trans (ix_lk_app (ix_lk_none (keyL_0 L xs) (n := 224) (by decide) h))
theorem stL_2 (L : Nat) (xs : Nat → Int32) : ∀ pc, 267 ≤ pc → ix_lk (tL_0 L xs) pc = ix_lk (tL_2 L xs) pc := fun pc h => (stL_1 L xs pc (by omega)).trans (ix_lk_app (ix_lk_none (keyL_1 L xs) (n := 267) (by decide) h))
theorem stL_3 (L : Nat) (xs : Nat → Int32) : ∀ pc, 300 ≤ pc → ix_lk (tL_0 L xs) pc = ix_lk (tL_3 L xs) pc := fun pc h => (stL_2 L xs pc (by omega)).trans (ix_lk_app (ix_lk_none (keyL_2 L xs) (n := 300) (by decide) h))
theorem stL_4 (L : Nat) (xs : Nat → Int32) : ∀ pc, 333 ≤ pc → ix_lk (tL_0 L xs) pc = ix_lk (tL_4 L xs) pc := fun pc h => (stL_3 L xs pc (by omega)).trans (ix_lk_app (ix_lk_none (keyL_3 L xs) (n := 333) (by decide) h))
theorem stL_5 (L : Nat) (xs : Nat → Int32) : ∀ pc, 356 ≤ pc → ix_lk (tL_0 L xs) pc = ix_lk (tL_5 L xs) pc := fun pc h => (stL_4 L xs pc (by omega)).trans (ix_lk_app (ix_lk_none (keyL_4 L xs) (n := 356) (by decide) h))
theorem stL_6 (L : Nat) (xs : Nat → Int32) : ∀ pc, 379 ≤ pc → ix_lk (tL_0 L xs) pc = ix_lk (tL_6 L xs) pc := fun pc h => (stL_5 L xs pc (by omega)).trans (ix_lk_app (ix_lk_none (keyL_5 L xs) (n := 379) (by decide) h))
theorem stL_7 (L : Nat) (xs : Nat → Int32) : ∀ pc, 412 ≤ pc → ix_lk (tL_0 L xs) pc = ix_lk (tL_7 L xs) pc := fun pc h => (stL_6 L xs pc (by omega)).trans (ix_lk_app (ix_lk_none (keyL_6 L xs) (n := 412) (by decide) h))
theorem stL_8 (L : Nat) (xs : Nat → Int32) : ∀ pc, 435 ≤ pc → ix_lk (tL_0 L xs) pc = ix_lk (tL_8 L xs) pc := fun pc h => (stL_7 L xs pc (by omega)).trans (ix_lk_app (ix_lk_none (keyL_7 L xs) (n := 435) (by decide) h))
theorem stL_9 (L : Nat) (xs : Nat → Int32) : ∀ pc, 468 ≤ pc → ix_lk (tL_0 L xs) pc = ix_lk (tL_9 L xs) pc := fun pc h => (stL_8 L xs pc (by omega)).trans (ix_lk_app (ix_lk_none (keyL_8 L xs) (n := 468) (by decide) h))
theorem stL_10 (L : Nat) (xs : Nat → Int32) : ∀ pc, 501 ≤ pc → ix_lk (tL_0 L xs) pc = ix_lk (tL_10 L xs) pc := fun pc h => (stL_9 L xs pc (by omega)).trans (ix_lk_app (ix_lk_none (keyL_9 L xs) (n := 501) (by decide) h))
theorem stL_11 (L : Nat) (xs : Nat → Int32) : ∀ pc, 544 ≤ pc → ix_lk (tL_0 L xs) pc = ix_lk (tL_11 L xs) pc := fun pc h => (stL_10 L xs pc (by omega)).trans (ix_lk_app (ix_lk_none (keyL_10 L xs) (n := 544) (by decide) h))
theorem stL_12 (L : Nat) (xs : Nat → Int32) : ∀ pc, 577 ≤ pc → ix_lk (tL_0 L xs) pc = ix_lk (tL_12 L xs) pc := fun pc h => (stL_11 L xs pc (by omega)).trans (ix_lk_app (ix_lk_none (keyL_11 L xs) (n := 577) (by decide) h))
theorem stL_13 (L : Nat) (xs : Nat → Int32) : ∀ pc, 610 ≤ pc → ix_lk (tL_0 L xs) pc = ix_lk (tL_13 L xs) pc := fun pc h => (stL_12 L xs pc (by omega)).trans (ix_lk_app (ix_lk_none (keyL_12 L xs) (n := 610) (by decide) h))
theorem stL_14 (L : Nat) (xs : Nat → Int32) : ∀ pc, 673 ≤ pc → ix_lk (tL_0 L xs) pc = ix_lk (tL_14 L xs) pc := fun pc h => (stL_13 L xs pc (by omega)).trans (ix_lk_app (ix_lk_none (keyL_13 L xs) (n := 673) (by decide) h))
theorem stL_15 (L : Nat) (xs : Nat → Int32) : ∀ pc, 696 ≤ pc → ix_lk (tL_0 L xs) pc = ix_lk (tL_15 L xs) pc := fun pc h => (stL_14 L xs pc (by omega)).trans (ix_lk_app (ix_lk_none (keyL_14 L xs) (n := 696) (by decide) h))
theorem stL_16 (L : Nat) (xs : Nat → Int32) : ∀ pc, 749 ≤ pc → ix_lk (tL_0 L xs) pc = ix_lk (tL_16 L xs) pc := fun pc h => (stL_15 L xs pc (by omega)).trans (ix_lk_app (ix_lk_none (keyL_15 L xs) (n := 749) (by decide) h))
theorem stL_17 (L : Nat) (xs : Nat → Int32) : ∀ pc, 772 ≤ pc → ix_lk (tL_0 L xs) pc = ix_lk (tL_17 L xs) pc := fun pc h => (stL_16 L xs pc (by omega)).trans (ix_lk_app (ix_lk_none (keyL_16 L xs) (n := 772) (by decide) h))
theorem stL_18 (L : Nat) (xs : Nat → Int32) : ∀ pc, 795 ≤ pc → ix_lk (tL_0 L xs) pc = ix_lk (tL_18 L xs) pc := fun pc h => (stL_17 L xs pc (by omega)).trans (ix_lk_app (ix_lk_none (keyL_17 L xs) (n := 795) (by decide) h))
theorem stL_19 (L : Nat) (xs : Nat → Int32) : ∀ pc, 828 ≤ pc → ix_lk (tL_0 L xs) pc = ix_lk (tL_19 L xs) pc := fun pc h => (stL_18 L xs pc (by omega)).trans (ix_lk_app (ix_lk_none (keyL_18 L xs) (n := 828) (by decide) h))
theorem stL_20 (L : Nat) (xs : Nat → Int32) : ∀ pc, 871 ≤ pc → ix_lk (tL_0 L xs) pc = ix_lk (tL_20 L xs) pc := fun pc h => (stL_19 L xs pc (by omega)).trans (ix_lk_app (ix_lk_none (keyL_19 L xs) (n := 871) (by decide) h))
theorem stL_21 (L : Nat) (xs : Nat → Int32) : ∀ pc, 904 ≤ pc → ix_lk (tL_0 L xs) pc = ix_lk (tL_21 L xs) pc := fun pc h => (stL_20 L xs pc (by omega)).trans (ix_lk_app (ix_lk_none (keyL_20 L xs) (n := 904) (by decide) h))
theorem stL_22 (L : Nat) (xs : Nat → Int32) : ∀ pc, 937 ≤ pc → ix_lk (tL_0 L xs) pc = ix_lk (tL_22 L xs) pc := fun pc h => (stL_21 L xs pc (by omega)).trans (ix_lk_app (ix_lk_none (keyL_21 L xs) (n := 937) (by decide) h))
theorem stL_23 (L : Nat) (xs : Nat → Int32) : ∀ pc, 970 ≤ pc → ix_lk (tL_0 L xs) pc = ix_lk (tL_23 L xs) pc := fun pc h => (stL_22 L xs pc (by omega)).trans (ix_lk_app (ix_lk_none (keyL_22 L xs) (n := 970) (by decide) h))
theorem stL_24 (L : Nat) (xs : Nat → Int32) : ∀ pc, 1003 ≤ pc → ix_lk (tL_0 L xs) pc = ix_lk (tL_24 L xs) pc := fun pc h => (stL_23 L xs pc (by omega)).trans (ix_lk_app (ix_lk_none (keyL_23 L xs) (n := 1003) (by decide) h))
theorem stL_25 (L : Nat) (xs : Nat → Int32) : ∀ pc, 1046 ≤ pc → ix_lk (tL_0 L xs) pc = ix_lk (tL_25 L xs) pc := fun pc h => (stL_24 L xs pc (by omega)).trans (ix_lk_app (ix_lk_none (keyL_24 L xs) (n := 1046) (by decide) h))
theorem stL_26 (L : Nat) (xs : Nat → Int32) : ∀ pc, 1079 ≤ pc → ix_lk (tL_0 L xs) pc = ix_lk (tL_26 L xs) pc := fun pc h => (stL_25 L xs pc (by omega)).trans (ix_lk_app (ix_lk_none (keyL_25 L xs) (n := 1079) (by decide) h))
theorem stL_27 (L : Nat) (xs : Nat → Int32) : ∀ pc, 1102 ≤ pc → ix_lk (tL_0 L xs) pc = ix_lk (tL_27 L xs) pc := fun pc h => (stL_26 L xs pc (by omega)).trans (ix_lk_app (ix_lk_none (keyL_26 L xs) (n := 1102) (by decide) h))
theorem stL_28 (L : Nat) (xs : Nat → Int32) : ∀ pc, 1125 ≤ pc → ix_lk (tL_0 L xs) pc = ix_lk (tL_28 L xs) pc := fun pc h => (stL_27 L xs pc (by omega)).trans (ix_lk_app (ix_lk_none (keyL_27 L xs) (n := 1125) (by decide) h))
theorem stL_29 (L : Nat) (xs : Nat → Int32) : ∀ pc, 1158 ≤ pc → ix_lk (tL_0 L xs) pc = ix_lk (tL_29 L xs) pc := fun pc h => (stL_28 L xs pc (by omega)).trans (ix_lk_app (ix_lk_none (keyL_28 L xs) (n := 1158) (by decide) h))
theorem stL_30 (L : Nat) (xs : Nat → Int32) : ∀ pc, 1201 ≤ pc → ix_lk (tL_0 L xs) pc = ix_lk (tL_30 L xs) pc := fun pc h => (stL_29 L xs pc (by omega)).trans (ix_lk_app (ix_lk_none (keyL_29 L xs) (n := 1201) (by decide) h))
theorem stL_31 (L : Nat) (xs : Nat → Int32) : ∀ pc, 1244 ≤ pc → ix_lk (tL_0 L xs) pc = ix_lk (tL_31 L xs) pc := fun pc h => (stL_30 L xs pc (by omega)).trans (ix_lk_app (ix_lk_none (keyL_30 L xs) (n := 1244) (by decide) h))
theorem stL_32 (L : Nat) (xs : Nat → Int32) : ∀ pc, 1267 ≤ pc → ix_lk (tL_0 L xs) pc = ix_lk (tL_32 L xs) pc := fun pc h => (stL_31 L xs pc (by omega)).trans (ix_lk_app (ix_lk_none (keyL_31 L xs) (n := 1267) (by decide) h))
theorem stL_33 (L : Nat) (xs : Nat → Int32) : ∀ pc, 1310 ≤ pc → ix_lk (tL_0 L xs) pc = ix_lk (tL_33 L xs) pc := fun pc h => (stL_32 L xs pc (by omega)).trans (ix_lk_app (ix_lk_none (keyL_32 L xs) (n := 1310) (by decide) h))
theorem stL_34 (L : Nat) (xs : Nat → Int32) : ∀ pc, 1333 ≤ pc → ix_lk (tL_0 L xs) pc = ix_lk (tL_34 L xs) pc := fun pc h => (stL_33 L xs pc (by omega)).trans (ix_lk_app (ix_lk_none (keyL_33 L xs) (n := 1333) (by decide) h))
theorem stL_35 (L : Nat) (xs : Nat → Int32) : ∀ pc, 1376 ≤ pc → ix_lk (tL_0 L xs) pc = ix_lk (tL_35 L xs) pc := fun pc h => (stL_34 L xs pc (by omega)).trans (ix_lk_app (ix_lk_none (keyL_34 L xs) (n := 1376) (by decide) h))
theorem stL_36 (L : Nat) (xs : Nat → Int32) : ∀ pc, 1419 ≤ pc → ix_lk (tL_0 L xs) pc = ix_lk (tL_36 L xs) pc := fun pc h => (stL_35 L xs pc (by omega)).trans (ix_lk_app (ix_lk_none (keyL_35 L xs) (n := 1419) (by decide) h))
theorem stL_37 (L : Nat) (xs : Nat → Int32) : ∀ pc, 1482 ≤ pc → ix_lk (tL_0 L xs) pc = ix_lk (tL_37 L xs) pc := fun pc h => (stL_36 L xs pc (by omega)).trans (ix_lk_app (ix_lk_none (keyL_36 L xs) (n := 1482) (by decide) h))
theorem stL_38 (L : Nat) (xs : Nat → Int32) : ∀ pc, 1505 ≤ pc → ix_lk (tL_0 L xs) pc = ix_lk (tL_38 L xs) pc := fun pc h => (stL_37 L xs pc (by omega)).trans (ix_lk_app (ix_lk_none (keyL_37 L xs) (n := 1505) (by decide) h))
theorem stL_39 (L : Nat) (xs : Nat → Int32) : ∀ pc, 1528 ≤ pc → ix_lk (tL_0 L xs) pc = ix_lk (tL_39 L xs) pc := fun pc h => (stL_38 L xs pc (by omega)).trans (ix_lk_app (ix_lk_none (keyL_38 L xs) (n := 1528) (by decide) h))
theorem stL_40 (L : Nat) (xs : Nat → Int32) : ∀ pc, 1541 ≤ pc → ix_lk (tL_0 L xs) pc = ix_lk (tL_40 L xs) pc := fun pc h => (stL_39 L xs pc (by omega)).trans (ix_lk_app (ix_lk_none (keyL_39 L xs) (n := 1541) (by decide) h))
theorem stL_41 (L : Nat) (xs : Nat → Int32) : ∀ pc, 1554 ≤ pc → ix_lk (tL_0 L xs) pc = ix_lk (tL_41 L xs) pc := fun pc h => (stL_40 L xs pc (by omega)).trans (ix_lk_app (ix_lk_none (keyL_40 L xs) (n := 1554) (by decide) h))
theorem stL_42 (L : Nat) (xs : Nat → Int32) : ∀ pc, 1577 ≤ pc → ix_lk (tL_0 L xs) pc = ix_lk (tL_42 L xs) pc := fun pc h => (stL_41 L xs pc (by omega)).trans (ix_lk_app (ix_lk_none (keyL_41 L xs) (n := 1577) (by decide) h))
theorem stL_43 (L : Nat) (xs : Nat → Int32) : ∀ pc, 1590 ≤ pc → ix_lk (tL_0 L xs) pc = ix_lk (tL_43 L xs) pc := fun pc h => (stL_42 L xs pc (by omega)).trans (ix_lk_app (ix_lk_none (keyL_42 L xs) (n := 1590) (by decide) h))
theorem stL_44 (L : Nat) (xs : Nat → Int32) : ∀ pc, 1613 ≤ pc → ix_lk (tL_0 L xs) pc = ix_lk (tL_44 L xs) pc := fun pc h => (stL_43 L xs pc (by omega)).trans (ix_lk_app (ix_lk_none (keyL_43 L xs) (n := 1613) (by decide) h))
theorem stL_45 (L : Nat) (xs : Nat → Int32) : ∀ pc, 1636 ≤ pc → ix_lk (tL_0 L xs) pc = ix_lk (tL_45 L xs) pc := fun pc h => (stL_44 L xs pc (by omega)).trans (ix_lk_app (ix_lk_none (keyL_44 L xs) (n := 1636) (by decide) h))
theorem aL (l : Launch) (b : Nat) (L : Nat) (xs : Nat → Int32) : ix_AllX (b, L, xs) l cL_law 4 RL 61 (some .boolean) (tL_0 L xs) := (sL_0 l b L xs).app ((sL_1 l b L xs).app ((sL_2 l b L xs).app ((sL_3 l b L xs).app ((sL_4 l b L xs).app ((sL_5 l b L xs).app ((sL_6 l b L xs).app ((sL_7 l b L xs).app ((sL_8 l b L xs).app ((sL_9 l b L xs).app ((sL_10 l b L xs).app ((sL_11 l b L xs).app ((sL_12 l b L xs).app ((sL_13 l b L xs).app ((sL_14 l b L xs).app ((sL_15 l b L xs).app ((sL_16 l b L xs).app ((sL_17 l b L xs).app ((sL_18 l b L xs).app ((sL_19 l b L xs).app ((sL_20 l b L xs).app ((sL_21 l b L xs).app ((sL_22 l b L xs).app ((sL_23 l b L xs).app ((sL_24 l b L xs).app ((sL_25 l b L xs).app ((sL_26 l b L xs).app ((sL_27 l b L xs).app ((sL_28 l b L xs).app ((sL_29 l b L xs).app ((sL_30 l b L xs).app ((sL_31 l b L xs).app ((sL_32 l b L xs).app ((sL_33 l b L xs).app ((sL_34 l b L xs).app ((sL_35 l b L xs).app ((sL_36 l b L xs).app ((sL_37 l b L xs).app ((sL_38 l b L xs).app ((sL_39 l b L xs).app ((sL_40 l b L xs).app ((sL_41 l b L xs).app ((sL_42 l b L xs).app ((sL_43 l b L xs).app ((sL_44 l b L xs).app (sL_45 l b L xs)))))))))))))))))))))))))))))))))))))))))))))
theorem e_L_18 {L : Nat} {xs : Nat → Int32} (H : ix_Mo (tL_0 L xs)) (Q : ix_R → Prop) (ls : ix_L) (st : List ix_V) (μ : ix_M) : ix_Ev (tL_0 L xs) Q (18, ls, st, μ) = (ix_iload 3 19) (ix_Ev (tL_0 L xs) Q) Q ls st μ := ix_Ev.eqM H ((stL_0 L xs 18 (by decide)).trans (ix_lk_app1 rfl)) ls st μ
theorem e_L_19 {L : Nat} {xs : Nat → Int32} (H : ix_Mo (tL_0 L xs)) (Q : ix_R → Prop) (ls : ix_L) (st : List ix_V) (μ : ix_M) : ix_Ev (tL_0 L xs) Q (19, ls, st, μ) = (ix_aload 0 20) (ix_Ev (tL_0 L xs) Q) Q ls st μ := ix_Ev.eqM H ((stL_0 L xs 19 (by decide)).trans (ix_lk_app1 rfl)) ls st μ
theorem e_L_20 {L : Nat} {xs : Nat → Int32} (H : ix_Mo (tL_0 L xs)) (Q : ix_R → Prop) (ls : ix_L) (st : List ix_V) (μ : ix_M) : ix_Ev (tL_0 L xs) Q (20, ls, st, μ) = (ix_xln L 21) (ix_Ev (tL_0 L xs) Q) Q ls st μ := ix_Ev.eqM H ((stL_0 L xs 20 (by decide)).trans (ix_lk_app1 rfl)) ls st μ
theorem e_L_21 {L : Nat} {xs : Nat → Int32} (H : ix_Mo (tL_0 L xs)) (Q : ix_R → Prop) (ls : ix_L) (st : List ix_V) (μ : ix_M) : ix_Ev (tL_0 L xs) Q (21, ls, st, μ) = (ix_push (vi 6) 23) (ix_Ev (tL_0 L xs) Q) Q ls st μ := ix_Ev.eqM H ((stL_0 L xs 21 (by decide)).trans (ix_lk_app1 rfl)) ls st μ
theorem e_L_23 {L : Nat} {xs : Nat → Int32} (H : ix_Mo (tL_0 L xs)) (Q : ix_R → Prop) (ls : ix_L) (st : List ix_V) (μ : ix_M) : ix_Ev (tL_0 L xs) Q (23, ls, st, μ) = (ix_bin (fun x y => x - y) 24) (ix_Ev (tL_0 L xs) Q) Q ls st μ := ix_Ev.eqM H ((stL_0 L xs 23 (by decide)).trans (ix_lk_app1 rfl)) ls st μ
theorem e_L_24 {L : Nat} {xs : Nat → Int32} (H : ix_Mo (tL_0 L xs)) (Q : ix_R → Prop) (ls : ix_L) (st : List ix_V) (μ : ix_M) : ix_Ev (tL_0 L xs) Q (24, ls, st, μ) = (ix_cmp (fun x y => y < x) 1642 27) (ix_Ev (tL_0 L xs) Q) Q ls st μ := ix_Ev.eqM H ((stL_0 L xs 24 (by decide)).trans (ix_lk_app1 rfl)) ls st μ
theorem e_L_27 {L : Nat} {xs : Nat → Int32} (H : ix_Mo (tL_0 L xs)) (Q : ix_R → Prop) (ls : ix_L) (st : List ix_V) (μ : ix_M) : ix_Ev (tL_0 L xs) Q (27, ls, st, μ) = (ix_aload 0 28) (ix_Ev (tL_0 L xs) Q) Q ls st μ := ix_Ev.eqM H ((stL_0 L xs 27 (by decide)).trans (ix_lk_app1 rfl)) ls st μ
theorem e_L_28 {L : Nat} {xs : Nat → Int32} (H : ix_Mo (tL_0 L xs)) (Q : ix_R → Prop) (ls : ix_L) (st : List ix_V) (μ : ix_M) : ix_Ev (tL_0 L xs) Q (28, ls, st, μ) = (ix_iload 3 29) (ix_Ev (tL_0 L xs) Q) Q ls st μ := ix_Ev.eqM H ((stL_0 L xs 28 (by decide)).trans (ix_lk_app1 rfl)) ls st μ
theorem e_L_29 {L : Nat} {xs : Nat → Int32} (H : ix_Mo (tL_0 L xs)) (Q : ix_R → Prop) (ls : ix_L) (st : List ix_V) (μ : ix_M) : ix_Ev (tL_0 L xs) Q (29, ls, st, μ) = (ix_xld L xs 30) (ix_Ev (tL_0 L xs) Q) Q ls st μ := ix_Ev.eqM H ((stL_0 L xs 29 (by decide)).trans (ix_lk_app1 rfl)) ls st μ
theorem e_L_30 {L : Nat} {xs : Nat → Int32} (H : ix_Mo (tL_0 L xs)) (Q : ix_R → Prop) (ls : ix_L) (st : List ix_V) (μ : ix_M) : ix_Ev (tL_0 L xs) Q (30, ls, st, μ) = (ix_push (vi 63) 32) (ix_Ev (tL_0 L xs) Q) Q ls st μ := ix_Ev.eqM H ((stL_0 L xs 30 (by decide)).trans (ix_lk_app1 rfl)) ls st μ
theorem e_L_32 {L : Nat} {xs : Nat → Int32} (H : ix_Mo (tL_0 L xs)) (Q : ix_R → Prop) (ls : ix_L) (st : List ix_V) (μ : ix_M) : ix_Ev (tL_0 L xs) Q (32, ls, st, μ) = (ix_bin (fun x y => x &&& y) 33) (ix_Ev (tL_0 L xs) Q) Q ls st μ := ix_Ev.eqM H ((stL_0 L xs 32 (by decide)).trans (ix_lk_app1 rfl)) ls st μ
theorem e_L_33 {L : Nat} {xs : Nat → Int32} (H : ix_Mo (tL_0 L xs)) (Q : ix_R → Prop) (ls : ix_L) (st : List ix_V) (μ : ix_M) : ix_Ev (tL_0 L xs) Q (33, ls, st, μ) = (ix_switch [(0, 224), (1, 267), (2, 300), (3, 333), (4, 356), (5, 379), (6, 412), (7, 435), (8, 468), (9, 501), (10, 544), (11, 577), (12, 610), (13, 673), (14, 696), (15, 749), (16, 772), (17, 795), (18, 828), (19, 871), (20, 904), (21, 937), (22, 970), (23, 1003), (24, 1046), (25, 1079), (26, 1102), (27, 1125), (28, 1158), (29, 1201), (30, 1244), (31, 1267), (32, 1310), (33, 1333), (34, 1376), (35, 1419), (36, 1482), (37, 1505), (38, 1528), (39, 1541), (40, 1554), (41, 1577), (42, 1590), (43, 1613)] 1636) (ix_Ev (tL_0 L xs) Q) Q ls st μ := ix_Ev.eqM H ((stL_0 L xs 33 (by decide)).trans (ix_lk_app1 rfl)) ls st μ
theorem e_L_224 {L : Nat} {xs : Nat → Int32} (H : ix_Mo (tL_0 L xs)) (Q : ix_R → Prop) (ls : ix_L) (st : List ix_V) (μ : ix_M) : ix_Ev (tL_0 L xs) Q (224, ls, st, μ) = (ix_aload 1 225) (ix_Ev (tL_0 L xs) Q) Q ls st μ := ix_Ev.eqM H ((stL_1 L xs 224 (by decide)).trans (ix_lk_app1 rfl)) ls st μ
theorem e_L_225 {L : Nat} {xs : Nat → Int32} (H : ix_Mo (tL_0 L xs)) (Q : ix_R → Prop) (ls : ix_L) (st : List ix_V) (μ : ix_M) : ix_Ev (tL_0 L xs) Q (225, ls, st, μ) = (ix_aload 0 226) (ix_Ev (tL_0 L xs) Q) Q ls st μ := ix_Ev.eqM H ((stL_1 L xs 225 (by decide)).trans (ix_lk_app1 rfl)) ls st μ
theorem e_L_226 {L : Nat} {xs : Nat → Int32} (H : ix_Mo (tL_0 L xs)) (Q : ix_R → Prop) (ls : ix_L) (st : List ix_V) (μ : ix_M) : ix_Ev (tL_0 L xs) Q (226, ls, st, μ) = (ix_iload 3 227) (ix_Ev (tL_0 L xs) Q) Q ls st μ := ix_Ev.eqM H ((stL_1 L xs 226 (by decide)).trans (ix_lk_app1 rfl)) ls st μ
theorem e_L_227 {L : Nat} {xs : Nat → Int32} (H : ix_Mo (tL_0 L xs)) (Q : ix_R → Prop) (ls : ix_L) (st : List ix_V) (μ : ix_M) : ix_Ev (tL_0 L xs) Q (227, ls, st, μ) = (ix_push (vi 1) 228) (ix_Ev (tL_0 L xs) Q) Q ls st μ := ix_Ev.eqM H ((stL_1 L xs 227 (by decide)).trans (ix_lk_app1 rfl)) ls st μ
theorem e_L_228 {L : Nat} {xs : Nat → Int32} (H : ix_Mo (tL_0 L xs)) (Q : ix_R → Prop) (ls : ix_L) (st : List ix_V) (μ : ix_M) : ix_Ev (tL_0 L xs) Q (228, ls, st, μ) = (ix_bin (fun x y => x + y) 229) (ix_Ev (tL_0 L xs) Q) Q ls st μ := ix_Ev.eqM H ((stL_1 L xs 228 (by decide)).trans (ix_lk_app1 rfl)) ls st μ
theorem e_L_229 {L : Nat} {xs : Nat → Int32} (H : ix_Mo (tL_0 L xs)) (Q : ix_R → Prop) (ls : ix_L) (st : List ix_V) (μ : ix_M) : ix_Ev (tL_0 L xs) Q (229, ls, st, μ) = (ix_xld L xs 230) (ix_Ev (tL_0 L xs) Q) Q ls st μ := ix_Ev.eqM H ((stL_1 L xs 229 (by decide)).trans (ix_lk_app1 rfl)) ls st μ
theorem e_L_230 {L : Nat} {xs : Nat → Int32} (H : ix_Mo (tL_0 L xs)) (Q : ix_R → Prop) (ls : ix_L) (st : List ix_V) (μ : ix_M) : ix_Ev (tL_0 L xs) Q (230, ls, st, μ) = (ix_aload 0 231) (ix_Ev (tL_0 L xs) Q) Q ls st μ := ix_Ev.eqM H ((stL_1 L xs 230 (by decide)).trans (ix_lk_app1 rfl)) ls st μ
theorem e_L_231 {L : Nat} {xs : Nat → Int32} (H : ix_Mo (tL_0 L xs)) (Q : ix_R → Prop) (ls : ix_L) (st : List ix_V) (μ : ix_M) : ix_Ev (tL_0 L xs) Q (231, ls, st, μ) = (ix_iload 3 232) (ix_Ev (tL_0 L xs) Q) Q ls st μ := ix_Ev.eqM H ((stL_1 L xs 231 (by decide)).trans (ix_lk_app1 rfl)) ls st μ
theorem e_L_232 {L : Nat} {xs : Nat → Int32} (H : ix_Mo (tL_0 L xs)) (Q : ix_R → Prop) (ls : ix_L) (st : List ix_V) (μ : ix_M) : ix_Ev (tL_0 L xs) Q (232, ls, st, μ) = (ix_push (vi 2) 233) (ix_Ev (tL_0 L xs) Q) Q ls st μ := ix_Ev.eqM H ((stL_1 L xs 232 (by decide)).trans (ix_lk_app1 rfl)) ls st μ
theorem e_L_233 {L : Nat} {xs : Nat → Int32} (H : ix_Mo (tL_0 L xs)) (Q : ix_R → Prop) (ls : ix_L) (st : List ix_V) (μ : ix_M) : ix_Ev (tL_0 L xs) Q (233, ls, st, μ) = (ix_bin (fun x y => x + y) 234) (ix_Ev (tL_0 L xs) Q) Q ls st μ := ix_Ev.eqM H ((stL_1 L xs 233 (by decide)).trans (ix_lk_app1 rfl)) ls st μ
theorem e_L_234 {L : Nat} {xs : Nat → Int32} (H : ix_Mo (tL_0 L xs)) (Q : ix_R → Prop) (ls : ix_L) (st : List ix_V) (μ : ix_M) : ix_Ev (tL_0 L xs) Q (234, ls, st, μ) = (ix_xld L xs 235) (ix_Ev (tL_0 L xs) Q) Q ls st μ := ix_Ev.eqM H ((stL_1 L xs 234 (by decide)).trans (ix_lk_app1 rfl)) ls st μ
theorem e_L_235 {L : Nat} {xs : Nat → Int32} (H : ix_Mo (tL_0 L xs)) (Q : ix_R → Prop) (ls : ix_L) (st : List ix_V) (μ : ix_M) : ix_Ev (tL_0 L xs) Q (235, ls, st, μ) = (ix_aload 0 236) (ix_Ev (tL_0 L xs) Q) Q ls st μ := ix_Ev.eqM H ((stL_1 L xs 235 (by decide)).trans (ix_lk_app1 rfl)) ls st μ
theorem e_L_236 {L : Nat} {xs : Nat → Int32} (H : ix_Mo (tL_0 L xs)) (Q : ix_R → Prop) (ls : ix_L) (st : List ix_V) (μ : ix_M) : ix_Ev (tL_0 L xs) Q (236, ls, st, μ) = (ix_iload 3 237) (ix_Ev (tL_0 L xs) Q) Q ls st μ := ix_Ev.eqM H ((stL_1 L xs 236 (by decide)).trans (ix_lk_app1 rfl)) ls st μ
theorem e_L_237 {L : Nat} {xs : Nat → Int32} (H : ix_Mo (tL_0 L xs)) (Q : ix_R → Prop) (ls : ix_L) (st : List ix_V) (μ : ix_M) : ix_Ev (tL_0 L xs) Q (237, ls, st, μ) = (ix_push (vi 3) 238) (ix_Ev (tL_0 L xs) Q) Q ls st μ := ix_Ev.eqM H ((stL_1 L xs 237 (by decide)).trans (ix_lk_app1 rfl)) ls st μ
theorem e_L_238 {L : Nat} {xs : Nat → Int32} (H : ix_Mo (tL_0 L xs)) (Q : ix_R → Prop) (ls : ix_L) (st : List ix_V) (μ : ix_M) : ix_Ev (tL_0 L xs) Q (238, ls, st, μ) = (ix_bin (fun x y => x + y) 239) (ix_Ev (tL_0 L xs) Q) Q ls st μ := ix_Ev.eqM H ((stL_1 L xs 238 (by decide)).trans (ix_lk_app1 rfl)) ls st μ
theorem e_L_239 {L : Nat} {xs : Nat → Int32} (H : ix_Mo (tL_0 L xs)) (Q : ix_R → Prop) (ls : ix_L) (st : List ix_V) (μ : ix_M) : ix_Ev (tL_0 L xs) Q (239, ls, st, μ) = (ix_xld L xs 240) (ix_Ev (tL_0 L xs) Q) Q ls st μ := ix_Ev.eqM H ((stL_1 L xs 239 (by decide)).trans (ix_lk_app1 rfl)) ls st μ
theorem e_L_240 {L : Nat} {xs : Nat → Int32} (H : ix_Mo (tL_0 L xs)) (Q : ix_R → Prop) (ls : ix_L) (st : List ix_V) (μ : ix_M) : ix_Ev (tL_0 L xs) Q (240, ls, st, μ) = (oc_X10_cell 243) (ix_Ev (tL_0 L xs) Q) Q ls st μ := ix_Ev.eqM H ((stL_1 L xs 240 (by decide)).trans (ix_lk_app1 rfl)) ls st μ
theorem e_L_243 {L : Nat} {xs : Nat → Int32} (H : ix_Mo (tL_0 L xs)) (Q : ix_R → Prop) (ls : ix_L) (st : List ix_V) (μ : ix_M) : ix_Ev (tL_0 L xs) Q (243, ls, st, μ) = (ix_aload 2 244) (ix_Ev (tL_0 L xs) Q) Q ls st μ := ix_Ev.eqM H ((stL_1 L xs 243 (by decide)).trans (ix_lk_app1 rfl)) ls st μ
theorem e_L_244 {L : Nat} {xs : Nat → Int32} (H : ix_Mo (tL_0 L xs)) (Q : ix_R → Prop) (ls : ix_L) (st : List ix_V) (μ : ix_M) : ix_Ev (tL_0 L xs) Q (244, ls, st, μ) = (ix_aload 0 245) (ix_Ev (tL_0 L xs) Q) Q ls st μ := ix_Ev.eqM H ((stL_1 L xs 244 (by decide)).trans (ix_lk_app1 rfl)) ls st μ
theorem e_L_245 {L : Nat} {xs : Nat → Int32} (H : ix_Mo (tL_0 L xs)) (Q : ix_R → Prop) (ls : ix_L) (st : List ix_V) (μ : ix_M) : ix_Ev (tL_0 L xs) Q (245, ls, st, μ) = (ix_iload 3 246) (ix_Ev (tL_0 L xs) Q) Q ls st μ := ix_Ev.eqM H ((stL_1 L xs 245 (by decide)).trans (ix_lk_app1 rfl)) ls st μ
theorem e_L_246 {L : Nat} {xs : Nat → Int32} (H : ix_Mo (tL_0 L xs)) (Q : ix_R → Prop) (ls : ix_L) (st : List ix_V) (μ : ix_M) : ix_Ev (tL_0 L xs) Q (246, ls, st, μ) = (ix_push (vi 1) 247) (ix_Ev (tL_0 L xs) Q) Q ls st μ := ix_Ev.eqM H ((stL_1 L xs 246 (by decide)).trans (ix_lk_app1 rfl)) ls st μ
theorem e_L_247 {L : Nat} {xs : Nat → Int32} (H : ix_Mo (tL_0 L xs)) (Q : ix_R → Prop) (ls : ix_L) (st : List ix_V) (μ : ix_M) : ix_Ev (tL_0 L xs) Q (247, ls, st, μ) = (ix_bin (fun x y => x + y) 248) (ix_Ev (tL_0 L xs) Q) Q ls st μ := ix_Ev.eqM H ((stL_1 L xs 247 (by decide)).trans (ix_lk_app1 rfl)) ls st μ
theorem e_L_248 {L : Nat} {xs : Nat → Int32} (H : ix_Mo (tL_0 L xs)) (Q : ix_R → Prop) (ls : ix_L) (st : List ix_V) (μ : ix_M) : ix_Ev (tL_0 L xs) Q (248, ls, st, μ) = (ix_xld L xs 249) (ix_Ev (tL_0 L xs) Q) Q ls st μ := ix_Ev.eqM H ((stL_1 L xs 248 (by decide)).trans (ix_lk_app1 rfl)) ls st μ
theorem e_L_249 {L : Nat} {xs : Nat → Int32} (H : ix_Mo (tL_0 L xs)) (Q : ix_R → Prop) (ls : ix_L) (st : List ix_V) (μ : ix_M) : ix_Ev (tL_0 L xs) Q (249, ls, st, μ) = (ix_aload 0 250) (ix_Ev (tL_0 L xs) Q) Q ls st μ := ix_Ev.eqM H ((stL_1 L xs 249 (by decide)).trans (ix_lk_app1 rfl)) ls st μ
theorem e_L_250 {L : Nat} {xs : Nat → Int32} (H : ix_Mo (tL_0 L xs)) (Q : ix_R → Prop) (ls : ix_L) (st : List ix_V) (μ : ix_M) : ix_Ev (tL_0 L xs) Q (250, ls, st, μ) = (ix_iload 3 251) (ix_Ev (tL_0 L xs) Q) Q ls st μ := ix_Ev.eqM H ((stL_1 L xs 250 (by decide)).trans (ix_lk_app1 rfl)) ls st μ
theorem e_L_251 {L : Nat} {xs : Nat → Int32} (H : ix_Mo (tL_0 L xs)) (Q : ix_R → Prop) (ls : ix_L) (st : List ix_V) (μ : ix_M) : ix_Ev (tL_0 L xs) Q (251, ls, st, μ) = (ix_push (vi 2) 252) (ix_Ev (tL_0 L xs) Q) Q ls st μ := ix_Ev.eqM H ((stL_1 L xs 251 (by decide)).trans (ix_lk_app1 rfl)) ls st μ
theorem e_L_252 {L : Nat} {xs : Nat → Int32} (H : ix_Mo (tL_0 L xs)) (Q : ix_R → Prop) (ls : ix_L) (st : List ix_V) (μ : ix_M) : ix_Ev (tL_0 L xs) Q (252, ls, st, μ) = (ix_bin (fun x y => x + y) 253) (ix_Ev (tL_0 L xs) Q) Q ls st μ := ix_Ev.eqM H ((stL_1 L xs 252 (by decide)).trans (ix_lk_app1 rfl)) ls st μ
theorem e_L_253 {L : Nat} {xs : Nat → Int32} (H : ix_Mo (tL_0 L xs)) (Q : ix_R → Prop) (ls : ix_L) (st : List ix_V) (μ : ix_M) : ix_Ev (tL_0 L xs) Q (253, ls, st, μ) = (ix_xld L xs 254) (ix_Ev (tL_0 L xs) Q) Q ls st μ := ix_Ev.eqM H ((stL_1 L xs 253 (by decide)).trans (ix_lk_app1 rfl)) ls st μ
theorem e_L_254 {L : Nat} {xs : Nat → Int32} (H : ix_Mo (tL_0 L xs)) (Q : ix_R → Prop) (ls : ix_L) (st : List ix_V) (μ : ix_M) : ix_Ev (tL_0 L xs) Q (254, ls, st, μ) = (ix_aload 0 255) (ix_Ev (tL_0 L xs) Q) Q ls st μ := ix_Ev.eqM H ((stL_1 L xs 254 (by decide)).trans (ix_lk_app1 rfl)) ls st μ
theorem e_L_255 {L : Nat} {xs : Nat → Int32} (H : ix_Mo (tL_0 L xs)) (Q : ix_R → Prop) (ls : ix_L) (st : List ix_V) (μ : ix_M) : ix_Ev (tL_0 L xs) Q (255, ls, st, μ) = (ix_iload 3 256) (ix_Ev (tL_0 L xs) Q) Q ls st μ := ix_Ev.eqM H ((stL_1 L xs 255 (by decide)).trans (ix_lk_app1 rfl)) ls st μ
theorem e_L_256 {L : Nat} {xs : Nat → Int32} (H : ix_Mo (tL_0 L xs)) (Q : ix_R → Prop) (ls : ix_L) (st : List ix_V) (μ : ix_M) : ix_Ev (tL_0 L xs) Q (256, ls, st, μ) = (ix_push (vi 3) 257) (ix_Ev (tL_0 L xs) Q) Q ls st μ := ix_Ev.eqM H ((stL_1 L xs 256 (by decide)).trans (ix_lk_app1 rfl)) ls st μ
theorem e_L_257 {L : Nat} {xs : Nat → Int32} (H : ix_Mo (tL_0 L xs)) (Q : ix_R → Prop) (ls : ix_L) (st : List ix_V) (μ : ix_M) : ix_Ev (tL_0 L xs) Q (257, ls, st, μ) = (ix_bin (fun x y => x + y) 258) (ix_Ev (tL_0 L xs) Q) Q ls st μ := ix_Ev.eqM H ((stL_1 L xs 257 (by decide)).trans (ix_lk_app1 rfl)) ls st μ
theorem e_L_258 {L : Nat} {xs : Nat → Int32} (H : ix_Mo (tL_0 L xs)) (Q : ix_R → Prop) (ls : ix_L) (st : List ix_V) (μ : ix_M) : ix_Ev (tL_0 L xs) Q (258, ls, st, μ) = (ix_xld L xs 259) (ix_Ev (tL_0 L xs) Q) Q ls st μ := ix_Ev.eqM H ((stL_1 L xs 258 (by decide)).trans (ix_lk_app1 rfl)) ls st μ
theorem e_L_259 {L : Nat} {xs : Nat → Int32} (H : ix_Mo (tL_0 L xs)) (Q : ix_R → Prop) (ls : ix_L) (st : List ix_V) (μ : ix_M) : ix_Ev (tL_0 L xs) Q (259, ls, st, μ) = (oc_X11_cell 262) (ix_Ev (tL_0 L xs) Q) Q ls st μ := ix_Ev.eqM H ((stL_1 L xs 259 (by decide)).trans (ix_lk_app1 rfl)) ls st μ
theorem e_L_262 {L : Nat} {xs : Nat → Int32} (H : ix_Mo (tL_0 L xs)) (Q : ix_R → Prop) (ls : ix_L) (st : List ix_V) (μ : ix_M) : ix_Ev (tL_0 L xs) Q (262, ls, st, μ) = (ix_cmp (fun x y => x = y) 1636 265) (ix_Ev (tL_0 L xs) Q) Q ls st μ := ix_Ev.eqM H ((stL_1 L xs 262 (by decide)).trans (ix_lk_app1 rfl)) ls st μ
theorem e_L_265 {L : Nat} {xs : Nat → Int32} (H : ix_Mo (tL_0 L xs)) (Q : ix_R → Prop) (ls : ix_L) (st : List ix_V) (μ : ix_M) : ix_Ev (tL_0 L xs) Q (265, ls, st, μ) = (ix_push (vi 0) 266) (ix_Ev (tL_0 L xs) Q) Q ls st μ := ix_Ev.eqM H ((stL_1 L xs 265 (by decide)).trans (ix_lk_app1 rfl)) ls st μ
theorem e_L_266 {L : Nat} {xs : Nat → Int32} (H : ix_Mo (tL_0 L xs)) (Q : ix_R → Prop) (ls : ix_L) (st : List ix_V) (μ : ix_M) : ix_Ev (tL_0 L xs) Q (266, ls, st, μ) = ix_zret (ix_Ev (tL_0 L xs) Q) Q ls st μ := ix_Ev.eqM H ((stL_1 L xs 266 (by decide)).trans (ix_lk_app1 rfl)) ls st μ
theorem e_L_267 {L : Nat} {xs : Nat → Int32} (H : ix_Mo (tL_0 L xs)) (Q : ix_R → Prop) (ls : ix_L) (st : List ix_V) (μ : ix_M) : ix_Ev (tL_0 L xs) Q (267, ls, st, μ) = (ix_aload 1 268) (ix_Ev (tL_0 L xs) Q) Q ls st μ := ix_Ev.eqM H ((stL_2 L xs 267 (by decide)).trans (ix_lk_app1 rfl)) ls st μ
theorem e_L_268 {L : Nat} {xs : Nat → Int32} (H : ix_Mo (tL_0 L xs)) (Q : ix_R → Prop) (ls : ix_L) (st : List ix_V) (μ : ix_M) : ix_Ev (tL_0 L xs) Q (268, ls, st, μ) = (ix_aload 0 269) (ix_Ev (tL_0 L xs) Q) Q ls st μ := ix_Ev.eqM H ((stL_2 L xs 268 (by decide)).trans (ix_lk_app1 rfl)) ls st μ
theorem e_L_269 {L : Nat} {xs : Nat → Int32} (H : ix_Mo (tL_0 L xs)) (Q : ix_R → Prop) (ls : ix_L) (st : List ix_V) (μ : ix_M) : ix_Ev (tL_0 L xs) Q (269, ls, st, μ) = (ix_iload 3 270) (ix_Ev (tL_0 L xs) Q) Q ls st μ := ix_Ev.eqM H ((stL_2 L xs 269 (by decide)).trans (ix_lk_app1 rfl)) ls st μ
theorem e_L_270 {L : Nat} {xs : Nat → Int32} (H : ix_Mo (tL_0 L xs)) (Q : ix_R → Prop) (ls : ix_L) (st : List ix_V) (μ : ix_M) : ix_Ev (tL_0 L xs) Q (270, ls, st, μ) = (ix_push (vi 1) 271) (ix_Ev (tL_0 L xs) Q) Q ls st μ := ix_Ev.eqM H ((stL_2 L xs 270 (by decide)).trans (ix_lk_app1 rfl)) ls st μ
theorem e_L_271 {L : Nat} {xs : Nat → Int32} (H : ix_Mo (tL_0 L xs)) (Q : ix_R → Prop) (ls : ix_L) (st : List ix_V) (μ : ix_M) : ix_Ev (tL_0 L xs) Q (271, ls, st, μ) = (ix_bin (fun x y => x + y) 272) (ix_Ev (tL_0 L xs) Q) Q ls st μ := ix_Ev.eqM H ((stL_2 L xs 271 (by decide)).trans (ix_lk_app1 rfl)) ls st μ
theorem e_L_272 {L : Nat} {xs : Nat → Int32} (H : ix_Mo (tL_0 L xs)) (Q : ix_R → Prop) (ls : ix_L) (st : List ix_V) (μ : ix_M) : ix_Ev (tL_0 L xs) Q (272, ls, st, μ) = (ix_xld L xs 273) (ix_Ev (tL_0 L xs) Q) Q ls st μ := ix_Ev.eqM H ((stL_2 L xs 272 (by decide)).trans (ix_lk_app1 rfl)) ls st μ
theorem e_L_273 {L : Nat} {xs : Nat → Int32} (H : ix_Mo (tL_0 L xs)) (Q : ix_R → Prop) (ls : ix_L) (st : List ix_V) (μ : ix_M) : ix_Ev (tL_0 L xs) Q (273, ls, st, μ) = (ix_aload 0 274) (ix_Ev (tL_0 L xs) Q) Q ls st μ := ix_Ev.eqM H ((stL_2 L xs 273 (by decide)).trans (ix_lk_app1 rfl)) ls st μ
theorem e_L_274 {L : Nat} {xs : Nat → Int32} (H : ix_Mo (tL_0 L xs)) (Q : ix_R → Prop) (ls : ix_L) (st : List ix_V) (μ : ix_M) : ix_Ev (tL_0 L xs) Q (274, ls, st, μ) = (ix_iload 3 275) (ix_Ev (tL_0 L xs) Q) Q ls st μ := ix_Ev.eqM H ((stL_2 L xs 274 (by decide)).trans (ix_lk_app1 rfl)) ls st μ
theorem e_L_275 {L : Nat} {xs : Nat → Int32} (H : ix_Mo (tL_0 L xs)) (Q : ix_R → Prop) (ls : ix_L) (st : List ix_V) (μ : ix_M) : ix_Ev (tL_0 L xs) Q (275, ls, st, μ) = (ix_push (vi 2) 276) (ix_Ev (tL_0 L xs) Q) Q ls st μ := ix_Ev.eqM H ((stL_2 L xs 275 (by decide)).trans (ix_lk_app1 rfl)) ls st μ
theorem e_L_276 {L : Nat} {xs : Nat → Int32} (H : ix_Mo (tL_0 L xs)) (Q : ix_R → Prop) (ls : ix_L) (st : List ix_V) (μ : ix_M) : ix_Ev (tL_0 L xs) Q (276, ls, st, μ) = (ix_bin (fun x y => x + y) 277) (ix_Ev (tL_0 L xs) Q) Q ls st μ := ix_Ev.eqM H ((stL_2 L xs 276 (by decide)).trans (ix_lk_app1 rfl)) ls st μ
theorem e_L_277 {L : Nat} {xs : Nat → Int32} (H : ix_Mo (tL_0 L xs)) (Q : ix_R → Prop) (ls : ix_L) (st : List ix_V) (μ : ix_M) : ix_Ev (tL_0 L xs) Q (277, ls, st, μ) = (ix_xld L xs 278) (ix_Ev (tL_0 L xs) Q) Q ls st μ := ix_Ev.eqM H ((stL_2 L xs 277 (by decide)).trans (ix_lk_app1 rfl)) ls st μ
theorem e_L_278 {L : Nat} {xs : Nat → Int32} (H : ix_Mo (tL_0 L xs)) (Q : ix_R → Prop) (ls : ix_L) (st : List ix_V) (μ : ix_M) : ix_Ev (tL_0 L xs) Q (278, ls, st, μ) = (oc_X10_ofCell 281) (ix_Ev (tL_0 L xs) Q) Q ls st μ := ix_Ev.eqM H ((stL_2 L xs 278 (by decide)).trans (ix_lk_app1 rfl)) ls st μ
theorem e_L_281 {L : Nat} {xs : Nat → Int32} (H : ix_Mo (tL_0 L xs)) (Q : ix_R → Prop) (ls : ix_L) (st : List ix_V) (μ : ix_M) : ix_Ev (tL_0 L xs) Q (281, ls, st, μ) = (ix_aload 2 282) (ix_Ev (tL_0 L xs) Q) Q ls st μ := ix_Ev.eqM H ((stL_2 L xs 281 (by decide)).trans (ix_lk_app1 rfl)) ls st μ
theorem e_L_282 {L : Nat} {xs : Nat → Int32} (H : ix_Mo (tL_0 L xs)) (Q : ix_R → Prop) (ls : ix_L) (st : List ix_V) (μ : ix_M) : ix_Ev (tL_0 L xs) Q (282, ls, st, μ) = (ix_aload 0 283) (ix_Ev (tL_0 L xs) Q) Q ls st μ := ix_Ev.eqM H ((stL_2 L xs 282 (by decide)).trans (ix_lk_app1 rfl)) ls st μ
theorem e_L_283 {L : Nat} {xs : Nat → Int32} (H : ix_Mo (tL_0 L xs)) (Q : ix_R → Prop) (ls : ix_L) (st : List ix_V) (μ : ix_M) : ix_Ev (tL_0 L xs) Q (283, ls, st, μ) = (ix_iload 3 284) (ix_Ev (tL_0 L xs) Q) Q ls st μ := ix_Ev.eqM H ((stL_2 L xs 283 (by decide)).trans (ix_lk_app1 rfl)) ls st μ
theorem e_L_284 {L : Nat} {xs : Nat → Int32} (H : ix_Mo (tL_0 L xs)) (Q : ix_R → Prop) (ls : ix_L) (st : List ix_V) (μ : ix_M) : ix_Ev (tL_0 L xs) Q (284, ls, st, μ) = (ix_push (vi 1) 285) (ix_Ev (tL_0 L xs) Q) Q ls st μ := ix_Ev.eqM H ((stL_2 L xs 284 (by decide)).trans (ix_lk_app1 rfl)) ls st μ
theorem e_L_285 {L : Nat} {xs : Nat → Int32} (H : ix_Mo (tL_0 L xs)) (Q : ix_R → Prop) (ls : ix_L) (st : List ix_V) (μ : ix_M) : ix_Ev (tL_0 L xs) Q (285, ls, st, μ) = (ix_bin (fun x y => x + y) 286) (ix_Ev (tL_0 L xs) Q) Q ls st μ := ix_Ev.eqM H ((stL_2 L xs 285 (by decide)).trans (ix_lk_app1 rfl)) ls st μ
theorem e_L_286 {L : Nat} {xs : Nat → Int32} (H : ix_Mo (tL_0 L xs)) (Q : ix_R → Prop) (ls : ix_L) (st : List ix_V) (μ : ix_M) : ix_Ev (tL_0 L xs) Q (286, ls, st, μ) = (ix_xld L xs 287) (ix_Ev (tL_0 L xs) Q) Q ls st μ := ix_Ev.eqM H ((stL_2 L xs 286 (by decide)).trans (ix_lk_app1 rfl)) ls st μ
theorem e_L_287 {L : Nat} {xs : Nat → Int32} (H : ix_Mo (tL_0 L xs)) (Q : ix_R → Prop) (ls : ix_L) (st : List ix_V) (μ : ix_M) : ix_Ev (tL_0 L xs) Q (287, ls, st, μ) = (ix_aload 0 288) (ix_Ev (tL_0 L xs) Q) Q ls st μ := ix_Ev.eqM H ((stL_2 L xs 287 (by decide)).trans (ix_lk_app1 rfl)) ls st μ
theorem e_L_288 {L : Nat} {xs : Nat → Int32} (H : ix_Mo (tL_0 L xs)) (Q : ix_R → Prop) (ls : ix_L) (st : List ix_V) (μ : ix_M) : ix_Ev (tL_0 L xs) Q (288, ls, st, μ) = (ix_iload 3 289) (ix_Ev (tL_0 L xs) Q) Q ls st μ := ix_Ev.eqM H ((stL_2 L xs 288 (by decide)).trans (ix_lk_app1 rfl)) ls st μ
theorem e_L_289 {L : Nat} {xs : Nat → Int32} (H : ix_Mo (tL_0 L xs)) (Q : ix_R → Prop) (ls : ix_L) (st : List ix_V) (μ : ix_M) : ix_Ev (tL_0 L xs) Q (289, ls, st, μ) = (ix_push (vi 2) 290) (ix_Ev (tL_0 L xs) Q) Q ls st μ := ix_Ev.eqM H ((stL_2 L xs 289 (by decide)).trans (ix_lk_app1 rfl)) ls st μ
theorem e_L_290 {L : Nat} {xs : Nat → Int32} (H : ix_Mo (tL_0 L xs)) (Q : ix_R → Prop) (ls : ix_L) (st : List ix_V) (μ : ix_M) : ix_Ev (tL_0 L xs) Q (290, ls, st, μ) = (ix_bin (fun x y => x + y) 291) (ix_Ev (tL_0 L xs) Q) Q ls st μ := ix_Ev.eqM H ((stL_2 L xs 290 (by decide)).trans (ix_lk_app1 rfl)) ls st μ
theorem e_L_291 {L : Nat} {xs : Nat → Int32} (H : ix_Mo (tL_0 L xs)) (Q : ix_R → Prop) (ls : ix_L) (st : List ix_V) (μ : ix_M) : ix_Ev (tL_0 L xs) Q (291, ls, st, μ) = (ix_xld L xs 292) (ix_Ev (tL_0 L xs) Q) Q ls st μ := ix_Ev.eqM H ((stL_2 L xs 291 (by decide)).trans (ix_lk_app1 rfl)) ls st μ
theorem e_L_292 {L : Nat} {xs : Nat → Int32} (H : ix_Mo (tL_0 L xs)) (Q : ix_R → Prop) (ls : ix_L) (st : List ix_V) (μ : ix_M) : ix_Ev (tL_0 L xs) Q (292, ls, st, μ) = (oc_X11_ofCell 295) (ix_Ev (tL_0 L xs) Q) Q ls st μ := ix_Ev.eqM H ((stL_2 L xs 292 (by decide)).trans (ix_lk_app1 rfl)) ls st μ
theorem e_L_295 {L : Nat} {xs : Nat → Int32} (H : ix_Mo (tL_0 L xs)) (Q : ix_R → Prop) (ls : ix_L) (st : List ix_V) (μ : ix_M) : ix_Ev (tL_0 L xs) Q (295, ls, st, μ) = (ix_cmp (fun x y => x = y) 1636 298) (ix_Ev (tL_0 L xs) Q) Q ls st μ := ix_Ev.eqM H ((stL_2 L xs 295 (by decide)).trans (ix_lk_app1 rfl)) ls st μ
theorem e_L_298 {L : Nat} {xs : Nat → Int32} (H : ix_Mo (tL_0 L xs)) (Q : ix_R → Prop) (ls : ix_L) (st : List ix_V) (μ : ix_M) : ix_Ev (tL_0 L xs) Q (298, ls, st, μ) = (ix_push (vi 0) 299) (ix_Ev (tL_0 L xs) Q) Q ls st μ := ix_Ev.eqM H ((stL_2 L xs 298 (by decide)).trans (ix_lk_app1 rfl)) ls st μ
theorem e_L_299 {L : Nat} {xs : Nat → Int32} (H : ix_Mo (tL_0 L xs)) (Q : ix_R → Prop) (ls : ix_L) (st : List ix_V) (μ : ix_M) : ix_Ev (tL_0 L xs) Q (299, ls, st, μ) = ix_zret (ix_Ev (tL_0 L xs) Q) Q ls st μ := ix_Ev.eqM H ((stL_2 L xs 299 (by decide)).trans (ix_lk_app1 rfl)) ls st μ
theorem e_L_300 {L : Nat} {xs : Nat → Int32} (H : ix_Mo (tL_0 L xs)) (Q : ix_R → Prop) (ls : ix_L) (st : List ix_V) (μ : ix_M) : ix_Ev (tL_0 L xs) Q (300, ls, st, μ) = (ix_aload 1 301) (ix_Ev (tL_0 L xs) Q) Q ls st μ := ix_Ev.eqM H ((stL_3 L xs 300 (by decide)).trans (ix_lk_app1 rfl)) ls st μ
theorem e_L_301 {L : Nat} {xs : Nat → Int32} (H : ix_Mo (tL_0 L xs)) (Q : ix_R → Prop) (ls : ix_L) (st : List ix_V) (μ : ix_M) : ix_Ev (tL_0 L xs) Q (301, ls, st, μ) = (ix_aload 0 302) (ix_Ev (tL_0 L xs) Q) Q ls st μ := ix_Ev.eqM H ((stL_3 L xs 301 (by decide)).trans (ix_lk_app1 rfl)) ls st μ
theorem e_L_302 {L : Nat} {xs : Nat → Int32} (H : ix_Mo (tL_0 L xs)) (Q : ix_R → Prop) (ls : ix_L) (st : List ix_V) (μ : ix_M) : ix_Ev (tL_0 L xs) Q (302, ls, st, μ) = (ix_iload 3 303) (ix_Ev (tL_0 L xs) Q) Q ls st μ := ix_Ev.eqM H ((stL_3 L xs 302 (by decide)).trans (ix_lk_app1 rfl)) ls st μ
theorem e_L_303 {L : Nat} {xs : Nat → Int32} (H : ix_Mo (tL_0 L xs)) (Q : ix_R → Prop) (ls : ix_L) (st : List ix_V) (μ : ix_M) : ix_Ev (tL_0 L xs) Q (303, ls, st, μ) = (ix_push (vi 1) 304) (ix_Ev (tL_0 L xs) Q) Q ls st μ := ix_Ev.eqM H ((stL_3 L xs 303 (by decide)).trans (ix_lk_app1 rfl)) ls st μ
theorem e_L_304 {L : Nat} {xs : Nat → Int32} (H : ix_Mo (tL_0 L xs)) (Q : ix_R → Prop) (ls : ix_L) (st : List ix_V) (μ : ix_M) : ix_Ev (tL_0 L xs) Q (304, ls, st, μ) = (ix_bin (fun x y => x + y) 305) (ix_Ev (tL_0 L xs) Q) Q ls st μ := ix_Ev.eqM H ((stL_3 L xs 304 (by decide)).trans (ix_lk_app1 rfl)) ls st μ
theorem e_L_305 {L : Nat} {xs : Nat → Int32} (H : ix_Mo (tL_0 L xs)) (Q : ix_R → Prop) (ls : ix_L) (st : List ix_V) (μ : ix_M) : ix_Ev (tL_0 L xs) Q (305, ls, st, μ) = (ix_xld L xs 306) (ix_Ev (tL_0 L xs) Q) Q ls st μ := ix_Ev.eqM H ((stL_3 L xs 305 (by decide)).trans (ix_lk_app1 rfl)) ls st μ
theorem e_L_306 {L : Nat} {xs : Nat → Int32} (H : ix_Mo (tL_0 L xs)) (Q : ix_R → Prop) (ls : ix_L) (st : List ix_V) (μ : ix_M) : ix_Ev (tL_0 L xs) Q (306, ls, st, μ) = (ix_aload 0 307) (ix_Ev (tL_0 L xs) Q) Q ls st μ := ix_Ev.eqM H ((stL_3 L xs 306 (by decide)).trans (ix_lk_app1 rfl)) ls st μ
theorem e_L_307 {L : Nat} {xs : Nat → Int32} (H : ix_Mo (tL_0 L xs)) (Q : ix_R → Prop) (ls : ix_L) (st : List ix_V) (μ : ix_M) : ix_Ev (tL_0 L xs) Q (307, ls, st, μ) = (ix_iload 3 308) (ix_Ev (tL_0 L xs) Q) Q ls st μ := ix_Ev.eqM H ((stL_3 L xs 307 (by decide)).trans (ix_lk_app1 rfl)) ls st μ
theorem e_L_308 {L : Nat} {xs : Nat → Int32} (H : ix_Mo (tL_0 L xs)) (Q : ix_R → Prop) (ls : ix_L) (st : List ix_V) (μ : ix_M) : ix_Ev (tL_0 L xs) Q (308, ls, st, μ) = (ix_push (vi 2) 309) (ix_Ev (tL_0 L xs) Q) Q ls st μ := ix_Ev.eqM H ((stL_3 L xs 308 (by decide)).trans (ix_lk_app1 rfl)) ls st μ
theorem e_L_309 {L : Nat} {xs : Nat → Int32} (H : ix_Mo (tL_0 L xs)) (Q : ix_R → Prop) (ls : ix_L) (st : List ix_V) (μ : ix_M) : ix_Ev (tL_0 L xs) Q (309, ls, st, μ) = (ix_bin (fun x y => x + y) 310) (ix_Ev (tL_0 L xs) Q) Q ls st μ := ix_Ev.eqM H ((stL_3 L xs 309 (by decide)).trans (ix_lk_app1 rfl)) ls st μ
theorem e_L_310 {L : Nat} {xs : Nat → Int32} (H : ix_Mo (tL_0 L xs)) (Q : ix_R → Prop) (ls : ix_L) (st : List ix_V) (μ : ix_M) : ix_Ev (tL_0 L xs) Q (310, ls, st, μ) = (ix_xld L xs 311) (ix_Ev (tL_0 L xs) Q) Q ls st μ := ix_Ev.eqM H ((stL_3 L xs 310 (by decide)).trans (ix_lk_app1 rfl)) ls st μ
theorem e_L_311 {L : Nat} {xs : Nat → Int32} (H : ix_Mo (tL_0 L xs)) (Q : ix_R → Prop) (ls : ix_L) (st : List ix_V) (μ : ix_M) : ix_Ev (tL_0 L xs) Q (311, ls, st, μ) = (oc_X10_list 314) (ix_Ev (tL_0 L xs) Q) Q ls st μ := ix_Ev.eqM H ((stL_3 L xs 311 (by decide)).trans (ix_lk_app1 rfl)) ls st μ
theorem e_L_314 {L : Nat} {xs : Nat → Int32} (H : ix_Mo (tL_0 L xs)) (Q : ix_R → Prop) (ls : ix_L) (st : List ix_V) (μ : ix_M) : ix_Ev (tL_0 L xs) Q (314, ls, st, μ) = (ix_aload 2 315) (ix_Ev (tL_0 L xs) Q) Q ls st μ := ix_Ev.eqM H ((stL_3 L xs 314 (by decide)).trans (ix_lk_app1 rfl)) ls st μ
theorem e_L_315 {L : Nat} {xs : Nat → Int32} (H : ix_Mo (tL_0 L xs)) (Q : ix_R → Prop) (ls : ix_L) (st : List ix_V) (μ : ix_M) : ix_Ev (tL_0 L xs) Q (315, ls, st, μ) = (ix_aload 0 316) (ix_Ev (tL_0 L xs) Q) Q ls st μ := ix_Ev.eqM H ((stL_3 L xs 315 (by decide)).trans (ix_lk_app1 rfl)) ls st μ
theorem e_L_316 {L : Nat} {xs : Nat → Int32} (H : ix_Mo (tL_0 L xs)) (Q : ix_R → Prop) (ls : ix_L) (st : List ix_V) (μ : ix_M) : ix_Ev (tL_0 L xs) Q (316, ls, st, μ) = (ix_iload 3 317) (ix_Ev (tL_0 L xs) Q) Q ls st μ := ix_Ev.eqM H ((stL_3 L xs 316 (by decide)).trans (ix_lk_app1 rfl)) ls st μ
theorem e_L_317 {L : Nat} {xs : Nat → Int32} (H : ix_Mo (tL_0 L xs)) (Q : ix_R → Prop) (ls : ix_L) (st : List ix_V) (μ : ix_M) : ix_Ev (tL_0 L xs) Q (317, ls, st, μ) = (ix_push (vi 1) 318) (ix_Ev (tL_0 L xs) Q) Q ls st μ := ix_Ev.eqM H ((stL_3 L xs 317 (by decide)).trans (ix_lk_app1 rfl)) ls st μ
theorem e_L_318 {L : Nat} {xs : Nat → Int32} (H : ix_Mo (tL_0 L xs)) (Q : ix_R → Prop) (ls : ix_L) (st : List ix_V) (μ : ix_M) : ix_Ev (tL_0 L xs) Q (318, ls, st, μ) = (ix_bin (fun x y => x + y) 319) (ix_Ev (tL_0 L xs) Q) Q ls st μ := ix_Ev.eqM H ((stL_3 L xs 318 (by decide)).trans (ix_lk_app1 rfl)) ls st μ
theorem e_L_319 {L : Nat} {xs : Nat → Int32} (H : ix_Mo (tL_0 L xs)) (Q : ix_R → Prop) (ls : ix_L) (st : List ix_V) (μ : ix_M) : ix_Ev (tL_0 L xs) Q (319, ls, st, μ) = (ix_xld L xs 320) (ix_Ev (tL_0 L xs) Q) Q ls st μ := ix_Ev.eqM H ((stL_3 L xs 319 (by decide)).trans (ix_lk_app1 rfl)) ls st μ
theorem e_L_320 {L : Nat} {xs : Nat → Int32} (H : ix_Mo (tL_0 L xs)) (Q : ix_R → Prop) (ls : ix_L) (st : List ix_V) (μ : ix_M) : ix_Ev (tL_0 L xs) Q (320, ls, st, μ) = (ix_aload 0 321) (ix_Ev (tL_0 L xs) Q) Q ls st μ := ix_Ev.eqM H ((stL_3 L xs 320 (by decide)).trans (ix_lk_app1 rfl)) ls st μ
theorem e_L_321 {L : Nat} {xs : Nat → Int32} (H : ix_Mo (tL_0 L xs)) (Q : ix_R → Prop) (ls : ix_L) (st : List ix_V) (μ : ix_M) : ix_Ev (tL_0 L xs) Q (321, ls, st, μ) = (ix_iload 3 322) (ix_Ev (tL_0 L xs) Q) Q ls st μ := ix_Ev.eqM H ((stL_3 L xs 321 (by decide)).trans (ix_lk_app1 rfl)) ls st μ
theorem e_L_322 {L : Nat} {xs : Nat → Int32} (H : ix_Mo (tL_0 L xs)) (Q : ix_R → Prop) (ls : ix_L) (st : List ix_V) (μ : ix_M) : ix_Ev (tL_0 L xs) Q (322, ls, st, μ) = (ix_push (vi 2) 323) (ix_Ev (tL_0 L xs) Q) Q ls st μ := ix_Ev.eqM H ((stL_3 L xs 322 (by decide)).trans (ix_lk_app1 rfl)) ls st μ
theorem e_L_323 {L : Nat} {xs : Nat → Int32} (H : ix_Mo (tL_0 L xs)) (Q : ix_R → Prop) (ls : ix_L) (st : List ix_V) (μ : ix_M) : ix_Ev (tL_0 L xs) Q (323, ls, st, μ) = (ix_bin (fun x y => x + y) 324) (ix_Ev (tL_0 L xs) Q) Q ls st μ := ix_Ev.eqM H ((stL_3 L xs 323 (by decide)).trans (ix_lk_app1 rfl)) ls st μ
theorem e_L_324 {L : Nat} {xs : Nat → Int32} (H : ix_Mo (tL_0 L xs)) (Q : ix_R → Prop) (ls : ix_L) (st : List ix_V) (μ : ix_M) : ix_Ev (tL_0 L xs) Q (324, ls, st, μ) = (ix_xld L xs 325) (ix_Ev (tL_0 L xs) Q) Q ls st μ := ix_Ev.eqM H ((stL_3 L xs 324 (by decide)).trans (ix_lk_app1 rfl)) ls st μ
theorem e_L_325 {L : Nat} {xs : Nat → Int32} (H : ix_Mo (tL_0 L xs)) (Q : ix_R → Prop) (ls : ix_L) (st : List ix_V) (μ : ix_M) : ix_Ev (tL_0 L xs) Q (325, ls, st, μ) = (oc_X11_list 328) (ix_Ev (tL_0 L xs) Q) Q ls st μ := ix_Ev.eqM H ((stL_3 L xs 325 (by decide)).trans (ix_lk_app1 rfl)) ls st μ
theorem e_L_328 {L : Nat} {xs : Nat → Int32} (H : ix_Mo (tL_0 L xs)) (Q : ix_R → Prop) (ls : ix_L) (st : List ix_V) (μ : ix_M) : ix_Ev (tL_0 L xs) Q (328, ls, st, μ) = (ix_cmp (fun x y => x = y) 1636 331) (ix_Ev (tL_0 L xs) Q) Q ls st μ := ix_Ev.eqM H ((stL_3 L xs 328 (by decide)).trans (ix_lk_app1 rfl)) ls st μ
theorem e_L_331 {L : Nat} {xs : Nat → Int32} (H : ix_Mo (tL_0 L xs)) (Q : ix_R → Prop) (ls : ix_L) (st : List ix_V) (μ : ix_M) : ix_Ev (tL_0 L xs) Q (331, ls, st, μ) = (ix_push (vi 0) 332) (ix_Ev (tL_0 L xs) Q) Q ls st μ := ix_Ev.eqM H ((stL_3 L xs 331 (by decide)).trans (ix_lk_app1 rfl)) ls st μ
theorem e_L_332 {L : Nat} {xs : Nat → Int32} (H : ix_Mo (tL_0 L xs)) (Q : ix_R → Prop) (ls : ix_L) (st : List ix_V) (μ : ix_M) : ix_Ev (tL_0 L xs) Q (332, ls, st, μ) = ix_zret (ix_Ev (tL_0 L xs) Q) Q ls st μ := ix_Ev.eqM H ((stL_3 L xs 332 (by decide)).trans (ix_lk_app1 rfl)) ls st μ
theorem e_L_333 {L : Nat} {xs : Nat → Int32} (H : ix_Mo (tL_0 L xs)) (Q : ix_R → Prop) (ls : ix_L) (st : List ix_V) (μ : ix_M) : ix_Ev (tL_0 L xs) Q (333, ls, st, μ) = (ix_aload 1 334) (ix_Ev (tL_0 L xs) Q) Q ls st μ := ix_Ev.eqM H ((stL_4 L xs 333 (by decide)).trans (ix_lk_app1 rfl)) ls st μ
theorem e_L_334 {L : Nat} {xs : Nat → Int32} (H : ix_Mo (tL_0 L xs)) (Q : ix_R → Prop) (ls : ix_L) (st : List ix_V) (μ : ix_M) : ix_Ev (tL_0 L xs) Q (334, ls, st, μ) = (ix_aload 0 335) (ix_Ev (tL_0 L xs) Q) Q ls st μ := ix_Ev.eqM H ((stL_4 L xs 334 (by decide)).trans (ix_lk_app1 rfl)) ls st μ
theorem e_L_335 {L : Nat} {xs : Nat → Int32} (H : ix_Mo (tL_0 L xs)) (Q : ix_R → Prop) (ls : ix_L) (st : List ix_V) (μ : ix_M) : ix_Ev (tL_0 L xs) Q (335, ls, st, μ) = (ix_iload 3 336) (ix_Ev (tL_0 L xs) Q) Q ls st μ := ix_Ev.eqM H ((stL_4 L xs 335 (by decide)).trans (ix_lk_app1 rfl)) ls st μ
theorem e_L_336 {L : Nat} {xs : Nat → Int32} (H : ix_Mo (tL_0 L xs)) (Q : ix_R → Prop) (ls : ix_L) (st : List ix_V) (μ : ix_M) : ix_Ev (tL_0 L xs) Q (336, ls, st, μ) = (ix_push (vi 1) 337) (ix_Ev (tL_0 L xs) Q) Q ls st μ := ix_Ev.eqM H ((stL_4 L xs 336 (by decide)).trans (ix_lk_app1 rfl)) ls st μ
theorem e_L_337 {L : Nat} {xs : Nat → Int32} (H : ix_Mo (tL_0 L xs)) (Q : ix_R → Prop) (ls : ix_L) (st : List ix_V) (μ : ix_M) : ix_Ev (tL_0 L xs) Q (337, ls, st, μ) = (ix_bin (fun x y => x + y) 338) (ix_Ev (tL_0 L xs) Q) Q ls st μ := ix_Ev.eqM H ((stL_4 L xs 337 (by decide)).trans (ix_lk_app1 rfl)) ls st μ
theorem e_L_338 {L : Nat} {xs : Nat → Int32} (H : ix_Mo (tL_0 L xs)) (Q : ix_R → Prop) (ls : ix_L) (st : List ix_V) (μ : ix_M) : ix_Ev (tL_0 L xs) Q (338, ls, st, μ) = (ix_xld L xs 339) (ix_Ev (tL_0 L xs) Q) Q ls st μ := ix_Ev.eqM H ((stL_4 L xs 338 (by decide)).trans (ix_lk_app1 rfl)) ls st μ
theorem e_L_339 {L : Nat} {xs : Nat → Int32} (H : ix_Mo (tL_0 L xs)) (Q : ix_R → Prop) (ls : ix_L) (st : List ix_V) (μ : ix_M) : ix_Ev (tL_0 L xs) Q (339, ls, st, μ) = (oc_X10_ofList 342) (ix_Ev (tL_0 L xs) Q) Q ls st μ := ix_Ev.eqM H ((stL_4 L xs 339 (by decide)).trans (ix_lk_app1 rfl)) ls st μ
theorem e_L_342 {L : Nat} {xs : Nat → Int32} (H : ix_Mo (tL_0 L xs)) (Q : ix_R → Prop) (ls : ix_L) (st : List ix_V) (μ : ix_M) : ix_Ev (tL_0 L xs) Q (342, ls, st, μ) = (ix_aload 2 343) (ix_Ev (tL_0 L xs) Q) Q ls st μ := ix_Ev.eqM H ((stL_4 L xs 342 (by decide)).trans (ix_lk_app1 rfl)) ls st μ
theorem e_L_343 {L : Nat} {xs : Nat → Int32} (H : ix_Mo (tL_0 L xs)) (Q : ix_R → Prop) (ls : ix_L) (st : List ix_V) (μ : ix_M) : ix_Ev (tL_0 L xs) Q (343, ls, st, μ) = (ix_aload 0 344) (ix_Ev (tL_0 L xs) Q) Q ls st μ := ix_Ev.eqM H ((stL_4 L xs 343 (by decide)).trans (ix_lk_app1 rfl)) ls st μ
theorem e_L_344 {L : Nat} {xs : Nat → Int32} (H : ix_Mo (tL_0 L xs)) (Q : ix_R → Prop) (ls : ix_L) (st : List ix_V) (μ : ix_M) : ix_Ev (tL_0 L xs) Q (344, ls, st, μ) = (ix_iload 3 345) (ix_Ev (tL_0 L xs) Q) Q ls st μ := ix_Ev.eqM H ((stL_4 L xs 344 (by decide)).trans (ix_lk_app1 rfl)) ls st μ
theorem e_L_345 {L : Nat} {xs : Nat → Int32} (H : ix_Mo (tL_0 L xs)) (Q : ix_R → Prop) (ls : ix_L) (st : List ix_V) (μ : ix_M) : ix_Ev (tL_0 L xs) Q (345, ls, st, μ) = (ix_push (vi 1) 346) (ix_Ev (tL_0 L xs) Q) Q ls st μ := ix_Ev.eqM H ((stL_4 L xs 345 (by decide)).trans (ix_lk_app1 rfl)) ls st μ
theorem e_L_346 {L : Nat} {xs : Nat → Int32} (H : ix_Mo (tL_0 L xs)) (Q : ix_R → Prop) (ls : ix_L) (st : List ix_V) (μ : ix_M) : ix_Ev (tL_0 L xs) Q (346, ls, st, μ) = (ix_bin (fun x y => x + y) 347) (ix_Ev (tL_0 L xs) Q) Q ls st μ := ix_Ev.eqM H ((stL_4 L xs 346 (by decide)).trans (ix_lk_app1 rfl)) ls st μ
theorem e_L_347 {L : Nat} {xs : Nat → Int32} (H : ix_Mo (tL_0 L xs)) (Q : ix_R → Prop) (ls : ix_L) (st : List ix_V) (μ : ix_M) : ix_Ev (tL_0 L xs) Q (347, ls, st, μ) = (ix_xld L xs 348) (ix_Ev (tL_0 L xs) Q) Q ls st μ := ix_Ev.eqM H ((stL_4 L xs 347 (by decide)).trans (ix_lk_app1 rfl)) ls st μ
theorem e_L_348 {L : Nat} {xs : Nat → Int32} (H : ix_Mo (tL_0 L xs)) (Q : ix_R → Prop) (ls : ix_L) (st : List ix_V) (μ : ix_M) : ix_Ev (tL_0 L xs) Q (348, ls, st, μ) = (oc_X11_ofList 351) (ix_Ev (tL_0 L xs) Q) Q ls st μ := ix_Ev.eqM H ((stL_4 L xs 348 (by decide)).trans (ix_lk_app1 rfl)) ls st μ
theorem e_L_351 {L : Nat} {xs : Nat → Int32} (H : ix_Mo (tL_0 L xs)) (Q : ix_R → Prop) (ls : ix_L) (st : List ix_V) (μ : ix_M) : ix_Ev (tL_0 L xs) Q (351, ls, st, μ) = (ix_cmp (fun x y => x = y) 1636 354) (ix_Ev (tL_0 L xs) Q) Q ls st μ := ix_Ev.eqM H ((stL_4 L xs 351 (by decide)).trans (ix_lk_app1 rfl)) ls st μ
theorem e_L_354 {L : Nat} {xs : Nat → Int32} (H : ix_Mo (tL_0 L xs)) (Q : ix_R → Prop) (ls : ix_L) (st : List ix_V) (μ : ix_M) : ix_Ev (tL_0 L xs) Q (354, ls, st, μ) = (ix_push (vi 0) 355) (ix_Ev (tL_0 L xs) Q) Q ls st μ := ix_Ev.eqM H ((stL_4 L xs 354 (by decide)).trans (ix_lk_app1 rfl)) ls st μ
theorem e_L_355 {L : Nat} {xs : Nat → Int32} (H : ix_Mo (tL_0 L xs)) (Q : ix_R → Prop) (ls : ix_L) (st : List ix_V) (μ : ix_M) : ix_Ev (tL_0 L xs) Q (355, ls, st, μ) = ix_zret (ix_Ev (tL_0 L xs) Q) Q ls st μ := ix_Ev.eqM H ((stL_4 L xs 355 (by decide)).trans (ix_lk_app1 rfl)) ls st μ
theorem e_L_356 {L : Nat} {xs : Nat → Int32} (H : ix_Mo (tL_0 L xs)) (Q : ix_R → Prop) (ls : ix_L) (st : List ix_V) (μ : ix_M) : ix_Ev (tL_0 L xs) Q (356, ls, st, μ) = (ix_aload 1 357) (ix_Ev (tL_0 L xs) Q) Q ls st μ := ix_Ev.eqM H ((stL_5 L xs 356 (by decide)).trans (ix_lk_app1 rfl)) ls st μ
theorem e_L_357 {L : Nat} {xs : Nat → Int32} (H : ix_Mo (tL_0 L xs)) (Q : ix_R → Prop) (ls : ix_L) (st : List ix_V) (μ : ix_M) : ix_Ev (tL_0 L xs) Q (357, ls, st, μ) = (ix_aload 0 358) (ix_Ev (tL_0 L xs) Q) Q ls st μ := ix_Ev.eqM H ((stL_5 L xs 357 (by decide)).trans (ix_lk_app1 rfl)) ls st μ
theorem e_L_358 {L : Nat} {xs : Nat → Int32} (H : ix_Mo (tL_0 L xs)) (Q : ix_R → Prop) (ls : ix_L) (st : List ix_V) (μ : ix_M) : ix_Ev (tL_0 L xs) Q (358, ls, st, μ) = (ix_iload 3 359) (ix_Ev (tL_0 L xs) Q) Q ls st μ := ix_Ev.eqM H ((stL_5 L xs 358 (by decide)).trans (ix_lk_app1 rfl)) ls st μ
theorem e_L_359 {L : Nat} {xs : Nat → Int32} (H : ix_Mo (tL_0 L xs)) (Q : ix_R → Prop) (ls : ix_L) (st : List ix_V) (μ : ix_M) : ix_Ev (tL_0 L xs) Q (359, ls, st, μ) = (ix_push (vi 1) 360) (ix_Ev (tL_0 L xs) Q) Q ls st μ := ix_Ev.eqM H ((stL_5 L xs 359 (by decide)).trans (ix_lk_app1 rfl)) ls st μ
theorem e_L_360 {L : Nat} {xs : Nat → Int32} (H : ix_Mo (tL_0 L xs)) (Q : ix_R → Prop) (ls : ix_L) (st : List ix_V) (μ : ix_M) : ix_Ev (tL_0 L xs) Q (360, ls, st, μ) = (ix_bin (fun x y => x + y) 361) (ix_Ev (tL_0 L xs) Q) Q ls st μ := ix_Ev.eqM H ((stL_5 L xs 360 (by decide)).trans (ix_lk_app1 rfl)) ls st μ
theorem e_L_361 {L : Nat} {xs : Nat → Int32} (H : ix_Mo (tL_0 L xs)) (Q : ix_R → Prop) (ls : ix_L) (st : List ix_V) (μ : ix_M) : ix_Ev (tL_0 L xs) Q (361, ls, st, μ) = (ix_xld L xs 362) (ix_Ev (tL_0 L xs) Q) Q ls st μ := ix_Ev.eqM H ((stL_5 L xs 361 (by decide)).trans (ix_lk_app1 rfl)) ls st μ
theorem e_L_362 {L : Nat} {xs : Nat → Int32} (H : ix_Mo (tL_0 L xs)) (Q : ix_R → Prop) (ls : ix_L) (st : List ix_V) (μ : ix_M) : ix_Ev (tL_0 L xs) Q (362, ls, st, μ) = (oc_X10_dark 365) (ix_Ev (tL_0 L xs) Q) Q ls st μ := ix_Ev.eqM H ((stL_5 L xs 362 (by decide)).trans (ix_lk_app1 rfl)) ls st μ
theorem e_L_365 {L : Nat} {xs : Nat → Int32} (H : ix_Mo (tL_0 L xs)) (Q : ix_R → Prop) (ls : ix_L) (st : List ix_V) (μ : ix_M) : ix_Ev (tL_0 L xs) Q (365, ls, st, μ) = (ix_aload 2 366) (ix_Ev (tL_0 L xs) Q) Q ls st μ := ix_Ev.eqM H ((stL_5 L xs 365 (by decide)).trans (ix_lk_app1 rfl)) ls st μ
theorem e_L_366 {L : Nat} {xs : Nat → Int32} (H : ix_Mo (tL_0 L xs)) (Q : ix_R → Prop) (ls : ix_L) (st : List ix_V) (μ : ix_M) : ix_Ev (tL_0 L xs) Q (366, ls, st, μ) = (ix_aload 0 367) (ix_Ev (tL_0 L xs) Q) Q ls st μ := ix_Ev.eqM H ((stL_5 L xs 366 (by decide)).trans (ix_lk_app1 rfl)) ls st μ
theorem e_L_367 {L : Nat} {xs : Nat → Int32} (H : ix_Mo (tL_0 L xs)) (Q : ix_R → Prop) (ls : ix_L) (st : List ix_V) (μ : ix_M) : ix_Ev (tL_0 L xs) Q (367, ls, st, μ) = (ix_iload 3 368) (ix_Ev (tL_0 L xs) Q) Q ls st μ := ix_Ev.eqM H ((stL_5 L xs 367 (by decide)).trans (ix_lk_app1 rfl)) ls st μ
theorem e_L_368 {L : Nat} {xs : Nat → Int32} (H : ix_Mo (tL_0 L xs)) (Q : ix_R → Prop) (ls : ix_L) (st : List ix_V) (μ : ix_M) : ix_Ev (tL_0 L xs) Q (368, ls, st, μ) = (ix_push (vi 1) 369) (ix_Ev (tL_0 L xs) Q) Q ls st μ := ix_Ev.eqM H ((stL_5 L xs 368 (by decide)).trans (ix_lk_app1 rfl)) ls st μ
theorem e_L_369 {L : Nat} {xs : Nat → Int32} (H : ix_Mo (tL_0 L xs)) (Q : ix_R → Prop) (ls : ix_L) (st : List ix_V) (μ : ix_M) : ix_Ev (tL_0 L xs) Q (369, ls, st, μ) = (ix_bin (fun x y => x + y) 370) (ix_Ev (tL_0 L xs) Q) Q ls st μ := ix_Ev.eqM H ((stL_5 L xs 369 (by decide)).trans (ix_lk_app1 rfl)) ls st μ
theorem e_L_370 {L : Nat} {xs : Nat → Int32} (H : ix_Mo (tL_0 L xs)) (Q : ix_R → Prop) (ls : ix_L) (st : List ix_V) (μ : ix_M) : ix_Ev (tL_0 L xs) Q (370, ls, st, μ) = (ix_xld L xs 371) (ix_Ev (tL_0 L xs) Q) Q ls st μ := ix_Ev.eqM H ((stL_5 L xs 370 (by decide)).trans (ix_lk_app1 rfl)) ls st μ
theorem e_L_371 {L : Nat} {xs : Nat → Int32} (H : ix_Mo (tL_0 L xs)) (Q : ix_R → Prop) (ls : ix_L) (st : List ix_V) (μ : ix_M) : ix_Ev (tL_0 L xs) Q (371, ls, st, μ) = (oc_X11_dark 374) (ix_Ev (tL_0 L xs) Q) Q ls st μ := ix_Ev.eqM H ((stL_5 L xs 371 (by decide)).trans (ix_lk_app1 rfl)) ls st μ
theorem e_L_374 {L : Nat} {xs : Nat → Int32} (H : ix_Mo (tL_0 L xs)) (Q : ix_R → Prop) (ls : ix_L) (st : List ix_V) (μ : ix_M) : ix_Ev (tL_0 L xs) Q (374, ls, st, μ) = (ix_cmp (fun x y => x = y) 1636 377) (ix_Ev (tL_0 L xs) Q) Q ls st μ := ix_Ev.eqM H ((stL_5 L xs 374 (by decide)).trans (ix_lk_app1 rfl)) ls st μ
theorem e_L_377 {L : Nat} {xs : Nat → Int32} (H : ix_Mo (tL_0 L xs)) (Q : ix_R → Prop) (ls : ix_L) (st : List ix_V) (μ : ix_M) : ix_Ev (tL_0 L xs) Q (377, ls, st, μ) = (ix_push (vi 0) 378) (ix_Ev (tL_0 L xs) Q) Q ls st μ := ix_Ev.eqM H ((stL_5 L xs 377 (by decide)).trans (ix_lk_app1 rfl)) ls st μ
theorem e_L_378 {L : Nat} {xs : Nat → Int32} (H : ix_Mo (tL_0 L xs)) (Q : ix_R → Prop) (ls : ix_L) (st : List ix_V) (μ : ix_M) : ix_Ev (tL_0 L xs) Q (378, ls, st, μ) = ix_zret (ix_Ev (tL_0 L xs) Q) Q ls st μ := ix_Ev.eqM H ((stL_5 L xs 378 (by decide)).trans (ix_lk_app1 rfl)) ls st μ
theorem e_L_379 {L : Nat} {xs : Nat → Int32} (H : ix_Mo (tL_0 L xs)) (Q : ix_R → Prop) (ls : ix_L) (st : List ix_V) (μ : ix_M) : ix_Ev (tL_0 L xs) Q (379, ls, st, μ) = (ix_aload 1 380) (ix_Ev (tL_0 L xs) Q) Q ls st μ := ix_Ev.eqM H ((stL_6 L xs 379 (by decide)).trans (ix_lk_app1 rfl)) ls st μ
theorem e_L_380 {L : Nat} {xs : Nat → Int32} (H : ix_Mo (tL_0 L xs)) (Q : ix_R → Prop) (ls : ix_L) (st : List ix_V) (μ : ix_M) : ix_Ev (tL_0 L xs) Q (380, ls, st, μ) = (ix_aload 0 381) (ix_Ev (tL_0 L xs) Q) Q ls st μ := ix_Ev.eqM H ((stL_6 L xs 380 (by decide)).trans (ix_lk_app1 rfl)) ls st μ
theorem e_L_381 {L : Nat} {xs : Nat → Int32} (H : ix_Mo (tL_0 L xs)) (Q : ix_R → Prop) (ls : ix_L) (st : List ix_V) (μ : ix_M) : ix_Ev (tL_0 L xs) Q (381, ls, st, μ) = (ix_iload 3 382) (ix_Ev (tL_0 L xs) Q) Q ls st μ := ix_Ev.eqM H ((stL_6 L xs 381 (by decide)).trans (ix_lk_app1 rfl)) ls st μ
theorem e_L_382 {L : Nat} {xs : Nat → Int32} (H : ix_Mo (tL_0 L xs)) (Q : ix_R → Prop) (ls : ix_L) (st : List ix_V) (μ : ix_M) : ix_Ev (tL_0 L xs) Q (382, ls, st, μ) = (ix_push (vi 1) 383) (ix_Ev (tL_0 L xs) Q) Q ls st μ := ix_Ev.eqM H ((stL_6 L xs 382 (by decide)).trans (ix_lk_app1 rfl)) ls st μ
theorem e_L_383 {L : Nat} {xs : Nat → Int32} (H : ix_Mo (tL_0 L xs)) (Q : ix_R → Prop) (ls : ix_L) (st : List ix_V) (μ : ix_M) : ix_Ev (tL_0 L xs) Q (383, ls, st, μ) = (ix_bin (fun x y => x + y) 384) (ix_Ev (tL_0 L xs) Q) Q ls st μ := ix_Ev.eqM H ((stL_6 L xs 383 (by decide)).trans (ix_lk_app1 rfl)) ls st μ
theorem e_L_384 {L : Nat} {xs : Nat → Int32} (H : ix_Mo (tL_0 L xs)) (Q : ix_R → Prop) (ls : ix_L) (st : List ix_V) (μ : ix_M) : ix_Ev (tL_0 L xs) Q (384, ls, st, μ) = (ix_xld L xs 385) (ix_Ev (tL_0 L xs) Q) Q ls st μ := ix_Ev.eqM H ((stL_6 L xs 384 (by decide)).trans (ix_lk_app1 rfl)) ls st μ
theorem e_L_385 {L : Nat} {xs : Nat → Int32} (H : ix_Mo (tL_0 L xs)) (Q : ix_R → Prop) (ls : ix_L) (st : List ix_V) (μ : ix_M) : ix_Ev (tL_0 L xs) Q (385, ls, st, μ) = (ix_aload 0 386) (ix_Ev (tL_0 L xs) Q) Q ls st μ := ix_Ev.eqM H ((stL_6 L xs 385 (by decide)).trans (ix_lk_app1 rfl)) ls st μ
theorem e_L_386 {L : Nat} {xs : Nat → Int32} (H : ix_Mo (tL_0 L xs)) (Q : ix_R → Prop) (ls : ix_L) (st : List ix_V) (μ : ix_M) : ix_Ev (tL_0 L xs) Q (386, ls, st, μ) = (ix_iload 3 387) (ix_Ev (tL_0 L xs) Q) Q ls st μ := ix_Ev.eqM H ((stL_6 L xs 386 (by decide)).trans (ix_lk_app1 rfl)) ls st μ
theorem e_L_387 {L : Nat} {xs : Nat → Int32} (H : ix_Mo (tL_0 L xs)) (Q : ix_R → Prop) (ls : ix_L) (st : List ix_V) (μ : ix_M) : ix_Ev (tL_0 L xs) Q (387, ls, st, μ) = (ix_push (vi 2) 388) (ix_Ev (tL_0 L xs) Q) Q ls st μ := ix_Ev.eqM H ((stL_6 L xs 387 (by decide)).trans (ix_lk_app1 rfl)) ls st μ
theorem e_L_388 {L : Nat} {xs : Nat → Int32} (H : ix_Mo (tL_0 L xs)) (Q : ix_R → Prop) (ls : ix_L) (st : List ix_V) (μ : ix_M) : ix_Ev (tL_0 L xs) Q (388, ls, st, μ) = (ix_bin (fun x y => x + y) 389) (ix_Ev (tL_0 L xs) Q) Q ls st μ := ix_Ev.eqM H ((stL_6 L xs 388 (by decide)).trans (ix_lk_app1 rfl)) ls st μ
theorem e_L_389 {L : Nat} {xs : Nat → Int32} (H : ix_Mo (tL_0 L xs)) (Q : ix_R → Prop) (ls : ix_L) (st : List ix_V) (μ : ix_M) : ix_Ev (tL_0 L xs) Q (389, ls, st, μ) = (ix_xld L xs 390) (ix_Ev (tL_0 L xs) Q) Q ls st μ := ix_Ev.eqM H ((stL_6 L xs 389 (by decide)).trans (ix_lk_app1 rfl)) ls st μ
theorem e_L_390 {L : Nat} {xs : Nat → Int32} (H : ix_Mo (tL_0 L xs)) (Q : ix_R → Prop) (ls : ix_L) (st : List ix_V) (μ : ix_M) : ix_Ev (tL_0 L xs) Q (390, ls, st, μ) = (oc_X10_wants 393) (ix_Ev (tL_0 L xs) Q) Q ls st μ := ix_Ev.eqM H ((stL_6 L xs 390 (by decide)).trans (ix_lk_app1 rfl)) ls st μ
theorem e_L_393 {L : Nat} {xs : Nat → Int32} (H : ix_Mo (tL_0 L xs)) (Q : ix_R → Prop) (ls : ix_L) (st : List ix_V) (μ : ix_M) : ix_Ev (tL_0 L xs) Q (393, ls, st, μ) = (ix_aload 2 394) (ix_Ev (tL_0 L xs) Q) Q ls st μ := ix_Ev.eqM H ((stL_6 L xs 393 (by decide)).trans (ix_lk_app1 rfl)) ls st μ
theorem e_L_394 {L : Nat} {xs : Nat → Int32} (H : ix_Mo (tL_0 L xs)) (Q : ix_R → Prop) (ls : ix_L) (st : List ix_V) (μ : ix_M) : ix_Ev (tL_0 L xs) Q (394, ls, st, μ) = (ix_aload 0 395) (ix_Ev (tL_0 L xs) Q) Q ls st μ := ix_Ev.eqM H ((stL_6 L xs 394 (by decide)).trans (ix_lk_app1 rfl)) ls st μ
theorem e_L_395 {L : Nat} {xs : Nat → Int32} (H : ix_Mo (tL_0 L xs)) (Q : ix_R → Prop) (ls : ix_L) (st : List ix_V) (μ : ix_M) : ix_Ev (tL_0 L xs) Q (395, ls, st, μ) = (ix_iload 3 396) (ix_Ev (tL_0 L xs) Q) Q ls st μ := ix_Ev.eqM H ((stL_6 L xs 395 (by decide)).trans (ix_lk_app1 rfl)) ls st μ
theorem e_L_396 {L : Nat} {xs : Nat → Int32} (H : ix_Mo (tL_0 L xs)) (Q : ix_R → Prop) (ls : ix_L) (st : List ix_V) (μ : ix_M) : ix_Ev (tL_0 L xs) Q (396, ls, st, μ) = (ix_push (vi 1) 397) (ix_Ev (tL_0 L xs) Q) Q ls st μ := ix_Ev.eqM H ((stL_6 L xs 396 (by decide)).trans (ix_lk_app1 rfl)) ls st μ
theorem e_L_397 {L : Nat} {xs : Nat → Int32} (H : ix_Mo (tL_0 L xs)) (Q : ix_R → Prop) (ls : ix_L) (st : List ix_V) (μ : ix_M) : ix_Ev (tL_0 L xs) Q (397, ls, st, μ) = (ix_bin (fun x y => x + y) 398) (ix_Ev (tL_0 L xs) Q) Q ls st μ := ix_Ev.eqM H ((stL_6 L xs 397 (by decide)).trans (ix_lk_app1 rfl)) ls st μ
theorem e_L_398 {L : Nat} {xs : Nat → Int32} (H : ix_Mo (tL_0 L xs)) (Q : ix_R → Prop) (ls : ix_L) (st : List ix_V) (μ : ix_M) : ix_Ev (tL_0 L xs) Q (398, ls, st, μ) = (ix_xld L xs 399) (ix_Ev (tL_0 L xs) Q) Q ls st μ := ix_Ev.eqM H ((stL_6 L xs 398 (by decide)).trans (ix_lk_app1 rfl)) ls st μ
theorem e_L_399 {L : Nat} {xs : Nat → Int32} (H : ix_Mo (tL_0 L xs)) (Q : ix_R → Prop) (ls : ix_L) (st : List ix_V) (μ : ix_M) : ix_Ev (tL_0 L xs) Q (399, ls, st, μ) = (ix_aload 0 400) (ix_Ev (tL_0 L xs) Q) Q ls st μ := ix_Ev.eqM H ((stL_6 L xs 399 (by decide)).trans (ix_lk_app1 rfl)) ls st μ
theorem e_L_400 {L : Nat} {xs : Nat → Int32} (H : ix_Mo (tL_0 L xs)) (Q : ix_R → Prop) (ls : ix_L) (st : List ix_V) (μ : ix_M) : ix_Ev (tL_0 L xs) Q (400, ls, st, μ) = (ix_iload 3 401) (ix_Ev (tL_0 L xs) Q) Q ls st μ := ix_Ev.eqM H ((stL_6 L xs 400 (by decide)).trans (ix_lk_app1 rfl)) ls st μ
theorem e_L_401 {L : Nat} {xs : Nat → Int32} (H : ix_Mo (tL_0 L xs)) (Q : ix_R → Prop) (ls : ix_L) (st : List ix_V) (μ : ix_M) : ix_Ev (tL_0 L xs) Q (401, ls, st, μ) = (ix_push (vi 2) 402) (ix_Ev (tL_0 L xs) Q) Q ls st μ := ix_Ev.eqM H ((stL_6 L xs 401 (by decide)).trans (ix_lk_app1 rfl)) ls st μ
theorem e_L_402 {L : Nat} {xs : Nat → Int32} (H : ix_Mo (tL_0 L xs)) (Q : ix_R → Prop) (ls : ix_L) (st : List ix_V) (μ : ix_M) : ix_Ev (tL_0 L xs) Q (402, ls, st, μ) = (ix_bin (fun x y => x + y) 403) (ix_Ev (tL_0 L xs) Q) Q ls st μ := ix_Ev.eqM H ((stL_6 L xs 402 (by decide)).trans (ix_lk_app1 rfl)) ls st μ
theorem e_L_403 {L : Nat} {xs : Nat → Int32} (H : ix_Mo (tL_0 L xs)) (Q : ix_R → Prop) (ls : ix_L) (st : List ix_V) (μ : ix_M) : ix_Ev (tL_0 L xs) Q (403, ls, st, μ) = (ix_xld L xs 404) (ix_Ev (tL_0 L xs) Q) Q ls st μ := ix_Ev.eqM H ((stL_6 L xs 403 (by decide)).trans (ix_lk_app1 rfl)) ls st μ
theorem e_L_404 {L : Nat} {xs : Nat → Int32} (H : ix_Mo (tL_0 L xs)) (Q : ix_R → Prop) (ls : ix_L) (st : List ix_V) (μ : ix_M) : ix_Ev (tL_0 L xs) Q (404, ls, st, μ) = (oc_X11_wants 407) (ix_Ev (tL_0 L xs) Q) Q ls st μ := ix_Ev.eqM H ((stL_6 L xs 404 (by decide)).trans (ix_lk_app1 rfl)) ls st μ
theorem e_L_407 {L : Nat} {xs : Nat → Int32} (H : ix_Mo (tL_0 L xs)) (Q : ix_R → Prop) (ls : ix_L) (st : List ix_V) (μ : ix_M) : ix_Ev (tL_0 L xs) Q (407, ls, st, μ) = (ix_cmp (fun x y => x = y) 1636 410) (ix_Ev (tL_0 L xs) Q) Q ls st μ := ix_Ev.eqM H ((stL_6 L xs 407 (by decide)).trans (ix_lk_app1 rfl)) ls st μ
theorem e_L_410 {L : Nat} {xs : Nat → Int32} (H : ix_Mo (tL_0 L xs)) (Q : ix_R → Prop) (ls : ix_L) (st : List ix_V) (μ : ix_M) : ix_Ev (tL_0 L xs) Q (410, ls, st, μ) = (ix_push (vi 0) 411) (ix_Ev (tL_0 L xs) Q) Q ls st μ := ix_Ev.eqM H ((stL_6 L xs 410 (by decide)).trans (ix_lk_app1 rfl)) ls st μ
theorem e_L_411 {L : Nat} {xs : Nat → Int32} (H : ix_Mo (tL_0 L xs)) (Q : ix_R → Prop) (ls : ix_L) (st : List ix_V) (μ : ix_M) : ix_Ev (tL_0 L xs) Q (411, ls, st, μ) = ix_zret (ix_Ev (tL_0 L xs) Q) Q ls st μ := ix_Ev.eqM H ((stL_6 L xs 411 (by decide)).trans (ix_lk_app1 rfl)) ls st μ
theorem e_L_412 {L : Nat} {xs : Nat → Int32} (H : ix_Mo (tL_0 L xs)) (Q : ix_R → Prop) (ls : ix_L) (st : List ix_V) (μ : ix_M) : ix_Ev (tL_0 L xs) Q (412, ls, st, μ) = (ix_aload 1 413) (ix_Ev (tL_0 L xs) Q) Q ls st μ := ix_Ev.eqM H ((stL_7 L xs 412 (by decide)).trans (ix_lk_app1 rfl)) ls st μ
theorem e_L_413 {L : Nat} {xs : Nat → Int32} (H : ix_Mo (tL_0 L xs)) (Q : ix_R → Prop) (ls : ix_L) (st : List ix_V) (μ : ix_M) : ix_Ev (tL_0 L xs) Q (413, ls, st, μ) = (ix_aload 0 414) (ix_Ev (tL_0 L xs) Q) Q ls st μ := ix_Ev.eqM H ((stL_7 L xs 413 (by decide)).trans (ix_lk_app1 rfl)) ls st μ
theorem e_L_414 {L : Nat} {xs : Nat → Int32} (H : ix_Mo (tL_0 L xs)) (Q : ix_R → Prop) (ls : ix_L) (st : List ix_V) (μ : ix_M) : ix_Ev (tL_0 L xs) Q (414, ls, st, μ) = (ix_iload 3 415) (ix_Ev (tL_0 L xs) Q) Q ls st μ := ix_Ev.eqM H ((stL_7 L xs 414 (by decide)).trans (ix_lk_app1 rfl)) ls st μ
theorem e_L_415 {L : Nat} {xs : Nat → Int32} (H : ix_Mo (tL_0 L xs)) (Q : ix_R → Prop) (ls : ix_L) (st : List ix_V) (μ : ix_M) : ix_Ev (tL_0 L xs) Q (415, ls, st, μ) = (ix_push (vi 1) 416) (ix_Ev (tL_0 L xs) Q) Q ls st μ := ix_Ev.eqM H ((stL_7 L xs 415 (by decide)).trans (ix_lk_app1 rfl)) ls st μ
theorem e_L_416 {L : Nat} {xs : Nat → Int32} (H : ix_Mo (tL_0 L xs)) (Q : ix_R → Prop) (ls : ix_L) (st : List ix_V) (μ : ix_M) : ix_Ev (tL_0 L xs) Q (416, ls, st, μ) = (ix_bin (fun x y => x + y) 417) (ix_Ev (tL_0 L xs) Q) Q ls st μ := ix_Ev.eqM H ((stL_7 L xs 416 (by decide)).trans (ix_lk_app1 rfl)) ls st μ
theorem e_L_417 {L : Nat} {xs : Nat → Int32} (H : ix_Mo (tL_0 L xs)) (Q : ix_R → Prop) (ls : ix_L) (st : List ix_V) (μ : ix_M) : ix_Ev (tL_0 L xs) Q (417, ls, st, μ) = (ix_xld L xs 418) (ix_Ev (tL_0 L xs) Q) Q ls st μ := ix_Ev.eqM H ((stL_7 L xs 417 (by decide)).trans (ix_lk_app1 rfl)) ls st μ
theorem e_L_418 {L : Nat} {xs : Nat → Int32} (H : ix_Mo (tL_0 L xs)) (Q : ix_R → Prop) (ls : ix_L) (st : List ix_V) (μ : ix_M) : ix_Ev (tL_0 L xs) Q (418, ls, st, μ) = (oc_X10_ofWearer 421) (ix_Ev (tL_0 L xs) Q) Q ls st μ := ix_Ev.eqM H ((stL_7 L xs 418 (by decide)).trans (ix_lk_app1 rfl)) ls st μ
theorem e_L_421 {L : Nat} {xs : Nat → Int32} (H : ix_Mo (tL_0 L xs)) (Q : ix_R → Prop) (ls : ix_L) (st : List ix_V) (μ : ix_M) : ix_Ev (tL_0 L xs) Q (421, ls, st, μ) = (ix_aload 2 422) (ix_Ev (tL_0 L xs) Q) Q ls st μ := ix_Ev.eqM H ((stL_7 L xs 421 (by decide)).trans (ix_lk_app1 rfl)) ls st μ
theorem e_L_422 {L : Nat} {xs : Nat → Int32} (H : ix_Mo (tL_0 L xs)) (Q : ix_R → Prop) (ls : ix_L) (st : List ix_V) (μ : ix_M) : ix_Ev (tL_0 L xs) Q (422, ls, st, μ) = (ix_aload 0 423) (ix_Ev (tL_0 L xs) Q) Q ls st μ := ix_Ev.eqM H ((stL_7 L xs 422 (by decide)).trans (ix_lk_app1 rfl)) ls st μ
theorem e_L_423 {L : Nat} {xs : Nat → Int32} (H : ix_Mo (tL_0 L xs)) (Q : ix_R → Prop) (ls : ix_L) (st : List ix_V) (μ : ix_M) : ix_Ev (tL_0 L xs) Q (423, ls, st, μ) = (ix_iload 3 424) (ix_Ev (tL_0 L xs) Q) Q ls st μ := ix_Ev.eqM H ((stL_7 L xs 423 (by decide)).trans (ix_lk_app1 rfl)) ls st μ
theorem e_L_424 {L : Nat} {xs : Nat → Int32} (H : ix_Mo (tL_0 L xs)) (Q : ix_R → Prop) (ls : ix_L) (st : List ix_V) (μ : ix_M) : ix_Ev (tL_0 L xs) Q (424, ls, st, μ) = (ix_push (vi 1) 425) (ix_Ev (tL_0 L xs) Q) Q ls st μ := ix_Ev.eqM H ((stL_7 L xs 424 (by decide)).trans (ix_lk_app1 rfl)) ls st μ
theorem e_L_425 {L : Nat} {xs : Nat → Int32} (H : ix_Mo (tL_0 L xs)) (Q : ix_R → Prop) (ls : ix_L) (st : List ix_V) (μ : ix_M) : ix_Ev (tL_0 L xs) Q (425, ls, st, μ) = (ix_bin (fun x y => x + y) 426) (ix_Ev (tL_0 L xs) Q) Q ls st μ := ix_Ev.eqM H ((stL_7 L xs 425 (by decide)).trans (ix_lk_app1 rfl)) ls st μ
theorem e_L_426 {L : Nat} {xs : Nat → Int32} (H : ix_Mo (tL_0 L xs)) (Q : ix_R → Prop) (ls : ix_L) (st : List ix_V) (μ : ix_M) : ix_Ev (tL_0 L xs) Q (426, ls, st, μ) = (ix_xld L xs 427) (ix_Ev (tL_0 L xs) Q) Q ls st μ := ix_Ev.eqM H ((stL_7 L xs 426 (by decide)).trans (ix_lk_app1 rfl)) ls st μ
theorem e_L_427 {L : Nat} {xs : Nat → Int32} (H : ix_Mo (tL_0 L xs)) (Q : ix_R → Prop) (ls : ix_L) (st : List ix_V) (μ : ix_M) : ix_Ev (tL_0 L xs) Q (427, ls, st, μ) = (oc_X11_ofWearer 430) (ix_Ev (tL_0 L xs) Q) Q ls st μ := ix_Ev.eqM H ((stL_7 L xs 427 (by decide)).trans (ix_lk_app1 rfl)) ls st μ
theorem e_L_430 {L : Nat} {xs : Nat → Int32} (H : ix_Mo (tL_0 L xs)) (Q : ix_R → Prop) (ls : ix_L) (st : List ix_V) (μ : ix_M) : ix_Ev (tL_0 L xs) Q (430, ls, st, μ) = (ix_cmp (fun x y => x = y) 1636 433) (ix_Ev (tL_0 L xs) Q) Q ls st μ := ix_Ev.eqM H ((stL_7 L xs 430 (by decide)).trans (ix_lk_app1 rfl)) ls st μ
theorem e_L_433 {L : Nat} {xs : Nat → Int32} (H : ix_Mo (tL_0 L xs)) (Q : ix_R → Prop) (ls : ix_L) (st : List ix_V) (μ : ix_M) : ix_Ev (tL_0 L xs) Q (433, ls, st, μ) = (ix_push (vi 0) 434) (ix_Ev (tL_0 L xs) Q) Q ls st μ := ix_Ev.eqM H ((stL_7 L xs 433 (by decide)).trans (ix_lk_app1 rfl)) ls st μ
theorem e_L_434 {L : Nat} {xs : Nat → Int32} (H : ix_Mo (tL_0 L xs)) (Q : ix_R → Prop) (ls : ix_L) (st : List ix_V) (μ : ix_M) : ix_Ev (tL_0 L xs) Q (434, ls, st, μ) = ix_zret (ix_Ev (tL_0 L xs) Q) Q ls st μ := ix_Ev.eqM H ((stL_7 L xs 434 (by decide)).trans (ix_lk_app1 rfl)) ls st μ
theorem e_L_435 {L : Nat} {xs : Nat → Int32} (H : ix_Mo (tL_0 L xs)) (Q : ix_R → Prop) (ls : ix_L) (st : List ix_V) (μ : ix_M) : ix_Ev (tL_0 L xs) Q (435, ls, st, μ) = (ix_aload 1 436) (ix_Ev (tL_0 L xs) Q) Q ls st μ := ix_Ev.eqM H ((stL_8 L xs 435 (by decide)).trans (ix_lk_app1 rfl)) ls st μ
theorem e_L_436 {L : Nat} {xs : Nat → Int32} (H : ix_Mo (tL_0 L xs)) (Q : ix_R → Prop) (ls : ix_L) (st : List ix_V) (μ : ix_M) : ix_Ev (tL_0 L xs) Q (436, ls, st, μ) = (ix_aload 0 437) (ix_Ev (tL_0 L xs) Q) Q ls st μ := ix_Ev.eqM H ((stL_8 L xs 436 (by decide)).trans (ix_lk_app1 rfl)) ls st μ
theorem e_L_437 {L : Nat} {xs : Nat → Int32} (H : ix_Mo (tL_0 L xs)) (Q : ix_R → Prop) (ls : ix_L) (st : List ix_V) (μ : ix_M) : ix_Ev (tL_0 L xs) Q (437, ls, st, μ) = (ix_iload 3 438) (ix_Ev (tL_0 L xs) Q) Q ls st μ := ix_Ev.eqM H ((stL_8 L xs 437 (by decide)).trans (ix_lk_app1 rfl)) ls st μ
theorem e_L_438 {L : Nat} {xs : Nat → Int32} (H : ix_Mo (tL_0 L xs)) (Q : ix_R → Prop) (ls : ix_L) (st : List ix_V) (μ : ix_M) : ix_Ev (tL_0 L xs) Q (438, ls, st, μ) = (ix_push (vi 1) 439) (ix_Ev (tL_0 L xs) Q) Q ls st μ := ix_Ev.eqM H ((stL_8 L xs 438 (by decide)).trans (ix_lk_app1 rfl)) ls st μ
theorem e_L_439 {L : Nat} {xs : Nat → Int32} (H : ix_Mo (tL_0 L xs)) (Q : ix_R → Prop) (ls : ix_L) (st : List ix_V) (μ : ix_M) : ix_Ev (tL_0 L xs) Q (439, ls, st, μ) = (ix_bin (fun x y => x + y) 440) (ix_Ev (tL_0 L xs) Q) Q ls st μ := ix_Ev.eqM H ((stL_8 L xs 439 (by decide)).trans (ix_lk_app1 rfl)) ls st μ
theorem e_L_440 {L : Nat} {xs : Nat → Int32} (H : ix_Mo (tL_0 L xs)) (Q : ix_R → Prop) (ls : ix_L) (st : List ix_V) (μ : ix_M) : ix_Ev (tL_0 L xs) Q (440, ls, st, μ) = (ix_xld L xs 441) (ix_Ev (tL_0 L xs) Q) Q ls st μ := ix_Ev.eqM H ((stL_8 L xs 440 (by decide)).trans (ix_lk_app1 rfl)) ls st μ
theorem e_L_441 {L : Nat} {xs : Nat → Int32} (H : ix_Mo (tL_0 L xs)) (Q : ix_R → Prop) (ls : ix_L) (st : List ix_V) (μ : ix_M) : ix_Ev (tL_0 L xs) Q (441, ls, st, μ) = (ix_aload 0 442) (ix_Ev (tL_0 L xs) Q) Q ls st μ := ix_Ev.eqM H ((stL_8 L xs 441 (by decide)).trans (ix_lk_app1 rfl)) ls st μ
theorem e_L_442 {L : Nat} {xs : Nat → Int32} (H : ix_Mo (tL_0 L xs)) (Q : ix_R → Prop) (ls : ix_L) (st : List ix_V) (μ : ix_M) : ix_Ev (tL_0 L xs) Q (442, ls, st, μ) = (ix_iload 3 443) (ix_Ev (tL_0 L xs) Q) Q ls st μ := ix_Ev.eqM H ((stL_8 L xs 442 (by decide)).trans (ix_lk_app1 rfl)) ls st μ
theorem e_L_443 {L : Nat} {xs : Nat → Int32} (H : ix_Mo (tL_0 L xs)) (Q : ix_R → Prop) (ls : ix_L) (st : List ix_V) (μ : ix_M) : ix_Ev (tL_0 L xs) Q (443, ls, st, μ) = (ix_push (vi 2) 444) (ix_Ev (tL_0 L xs) Q) Q ls st μ := ix_Ev.eqM H ((stL_8 L xs 443 (by decide)).trans (ix_lk_app1 rfl)) ls st μ
theorem e_L_444 {L : Nat} {xs : Nat → Int32} (H : ix_Mo (tL_0 L xs)) (Q : ix_R → Prop) (ls : ix_L) (st : List ix_V) (μ : ix_M) : ix_Ev (tL_0 L xs) Q (444, ls, st, μ) = (ix_bin (fun x y => x + y) 445) (ix_Ev (tL_0 L xs) Q) Q ls st μ := ix_Ev.eqM H ((stL_8 L xs 444 (by decide)).trans (ix_lk_app1 rfl)) ls st μ
theorem e_L_445 {L : Nat} {xs : Nat → Int32} (H : ix_Mo (tL_0 L xs)) (Q : ix_R → Prop) (ls : ix_L) (st : List ix_V) (μ : ix_M) : ix_Ev (tL_0 L xs) Q (445, ls, st, μ) = (ix_xld L xs 446) (ix_Ev (tL_0 L xs) Q) Q ls st μ := ix_Ev.eqM H ((stL_8 L xs 445 (by decide)).trans (ix_lk_app1 rfl)) ls st μ
theorem e_L_446 {L : Nat} {xs : Nat → Int32} (H : ix_Mo (tL_0 L xs)) (Q : ix_R → Prop) (ls : ix_L) (st : List ix_V) (μ : ix_M) : ix_Ev (tL_0 L xs) Q (446, ls, st, μ) = (oc_X10_boat 449) (ix_Ev (tL_0 L xs) Q) Q ls st μ := ix_Ev.eqM H ((stL_8 L xs 446 (by decide)).trans (ix_lk_app1 rfl)) ls st μ
theorem e_L_449 {L : Nat} {xs : Nat → Int32} (H : ix_Mo (tL_0 L xs)) (Q : ix_R → Prop) (ls : ix_L) (st : List ix_V) (μ : ix_M) : ix_Ev (tL_0 L xs) Q (449, ls, st, μ) = (ix_aload 2 450) (ix_Ev (tL_0 L xs) Q) Q ls st μ := ix_Ev.eqM H ((stL_8 L xs 449 (by decide)).trans (ix_lk_app1 rfl)) ls st μ
theorem e_L_450 {L : Nat} {xs : Nat → Int32} (H : ix_Mo (tL_0 L xs)) (Q : ix_R → Prop) (ls : ix_L) (st : List ix_V) (μ : ix_M) : ix_Ev (tL_0 L xs) Q (450, ls, st, μ) = (ix_aload 0 451) (ix_Ev (tL_0 L xs) Q) Q ls st μ := ix_Ev.eqM H ((stL_8 L xs 450 (by decide)).trans (ix_lk_app1 rfl)) ls st μ
theorem e_L_451 {L : Nat} {xs : Nat → Int32} (H : ix_Mo (tL_0 L xs)) (Q : ix_R → Prop) (ls : ix_L) (st : List ix_V) (μ : ix_M) : ix_Ev (tL_0 L xs) Q (451, ls, st, μ) = (ix_iload 3 452) (ix_Ev (tL_0 L xs) Q) Q ls st μ := ix_Ev.eqM H ((stL_8 L xs 451 (by decide)).trans (ix_lk_app1 rfl)) ls st μ
theorem e_L_452 {L : Nat} {xs : Nat → Int32} (H : ix_Mo (tL_0 L xs)) (Q : ix_R → Prop) (ls : ix_L) (st : List ix_V) (μ : ix_M) : ix_Ev (tL_0 L xs) Q (452, ls, st, μ) = (ix_push (vi 1) 453) (ix_Ev (tL_0 L xs) Q) Q ls st μ := ix_Ev.eqM H ((stL_8 L xs 452 (by decide)).trans (ix_lk_app1 rfl)) ls st μ
theorem e_L_453 {L : Nat} {xs : Nat → Int32} (H : ix_Mo (tL_0 L xs)) (Q : ix_R → Prop) (ls : ix_L) (st : List ix_V) (μ : ix_M) : ix_Ev (tL_0 L xs) Q (453, ls, st, μ) = (ix_bin (fun x y => x + y) 454) (ix_Ev (tL_0 L xs) Q) Q ls st μ := ix_Ev.eqM H ((stL_8 L xs 453 (by decide)).trans (ix_lk_app1 rfl)) ls st μ
theorem e_L_454 {L : Nat} {xs : Nat → Int32} (H : ix_Mo (tL_0 L xs)) (Q : ix_R → Prop) (ls : ix_L) (st : List ix_V) (μ : ix_M) : ix_Ev (tL_0 L xs) Q (454, ls, st, μ) = (ix_xld L xs 455) (ix_Ev (tL_0 L xs) Q) Q ls st μ := ix_Ev.eqM H ((stL_8 L xs 454 (by decide)).trans (ix_lk_app1 rfl)) ls st μ
theorem e_L_455 {L : Nat} {xs : Nat → Int32} (H : ix_Mo (tL_0 L xs)) (Q : ix_R → Prop) (ls : ix_L) (st : List ix_V) (μ : ix_M) : ix_Ev (tL_0 L xs) Q (455, ls, st, μ) = (ix_aload 0 456) (ix_Ev (tL_0 L xs) Q) Q ls st μ := ix_Ev.eqM H ((stL_8 L xs 455 (by decide)).trans (ix_lk_app1 rfl)) ls st μ
theorem e_L_456 {L : Nat} {xs : Nat → Int32} (H : ix_Mo (tL_0 L xs)) (Q : ix_R → Prop) (ls : ix_L) (st : List ix_V) (μ : ix_M) : ix_Ev (tL_0 L xs) Q (456, ls, st, μ) = (ix_iload 3 457) (ix_Ev (tL_0 L xs) Q) Q ls st μ := ix_Ev.eqM H ((stL_8 L xs 456 (by decide)).trans (ix_lk_app1 rfl)) ls st μ
theorem e_L_457 {L : Nat} {xs : Nat → Int32} (H : ix_Mo (tL_0 L xs)) (Q : ix_R → Prop) (ls : ix_L) (st : List ix_V) (μ : ix_M) : ix_Ev (tL_0 L xs) Q (457, ls, st, μ) = (ix_push (vi 2) 458) (ix_Ev (tL_0 L xs) Q) Q ls st μ := ix_Ev.eqM H ((stL_8 L xs 457 (by decide)).trans (ix_lk_app1 rfl)) ls st μ
theorem e_L_458 {L : Nat} {xs : Nat → Int32} (H : ix_Mo (tL_0 L xs)) (Q : ix_R → Prop) (ls : ix_L) (st : List ix_V) (μ : ix_M) : ix_Ev (tL_0 L xs) Q (458, ls, st, μ) = (ix_bin (fun x y => x + y) 459) (ix_Ev (tL_0 L xs) Q) Q ls st μ := ix_Ev.eqM H ((stL_8 L xs 458 (by decide)).trans (ix_lk_app1 rfl)) ls st μ
theorem e_L_459 {L : Nat} {xs : Nat → Int32} (H : ix_Mo (tL_0 L xs)) (Q : ix_R → Prop) (ls : ix_L) (st : List ix_V) (μ : ix_M) : ix_Ev (tL_0 L xs) Q (459, ls, st, μ) = (ix_xld L xs 460) (ix_Ev (tL_0 L xs) Q) Q ls st μ := ix_Ev.eqM H ((stL_8 L xs 459 (by decide)).trans (ix_lk_app1 rfl)) ls st μ
theorem e_L_460 {L : Nat} {xs : Nat → Int32} (H : ix_Mo (tL_0 L xs)) (Q : ix_R → Prop) (ls : ix_L) (st : List ix_V) (μ : ix_M) : ix_Ev (tL_0 L xs) Q (460, ls, st, μ) = (oc_X11_boat 463) (ix_Ev (tL_0 L xs) Q) Q ls st μ := ix_Ev.eqM H ((stL_8 L xs 460 (by decide)).trans (ix_lk_app1 rfl)) ls st μ
theorem e_L_463 {L : Nat} {xs : Nat → Int32} (H : ix_Mo (tL_0 L xs)) (Q : ix_R → Prop) (ls : ix_L) (st : List ix_V) (μ : ix_M) : ix_Ev (tL_0 L xs) Q (463, ls, st, μ) = (ix_cmp (fun x y => x = y) 1636 466) (ix_Ev (tL_0 L xs) Q) Q ls st μ := ix_Ev.eqM H ((stL_8 L xs 463 (by decide)).trans (ix_lk_app1 rfl)) ls st μ
theorem e_L_466 {L : Nat} {xs : Nat → Int32} (H : ix_Mo (tL_0 L xs)) (Q : ix_R → Prop) (ls : ix_L) (st : List ix_V) (μ : ix_M) : ix_Ev (tL_0 L xs) Q (466, ls, st, μ) = (ix_push (vi 0) 467) (ix_Ev (tL_0 L xs) Q) Q ls st μ := ix_Ev.eqM H ((stL_8 L xs 466 (by decide)).trans (ix_lk_app1 rfl)) ls st μ
theorem e_L_467 {L : Nat} {xs : Nat → Int32} (H : ix_Mo (tL_0 L xs)) (Q : ix_R → Prop) (ls : ix_L) (st : List ix_V) (μ : ix_M) : ix_Ev (tL_0 L xs) Q (467, ls, st, μ) = ix_zret (ix_Ev (tL_0 L xs) Q) Q ls st μ := ix_Ev.eqM H ((stL_8 L xs 467 (by decide)).trans (ix_lk_app1 rfl)) ls st μ
theorem e_L_468 {L : Nat} {xs : Nat → Int32} (H : ix_Mo (tL_0 L xs)) (Q : ix_R → Prop) (ls : ix_L) (st : List ix_V) (μ : ix_M) : ix_Ev (tL_0 L xs) Q (468, ls, st, μ) = (ix_aload 1 469) (ix_Ev (tL_0 L xs) Q) Q ls st μ := ix_Ev.eqM H ((stL_9 L xs 468 (by decide)).trans (ix_lk_app1 rfl)) ls st μ
theorem e_L_469 {L : Nat} {xs : Nat → Int32} (H : ix_Mo (tL_0 L xs)) (Q : ix_R → Prop) (ls : ix_L) (st : List ix_V) (μ : ix_M) : ix_Ev (tL_0 L xs) Q (469, ls, st, μ) = (ix_aload 0 470) (ix_Ev (tL_0 L xs) Q) Q ls st μ := ix_Ev.eqM H ((stL_9 L xs 469 (by decide)).trans (ix_lk_app1 rfl)) ls st μ
theorem e_L_470 {L : Nat} {xs : Nat → Int32} (H : ix_Mo (tL_0 L xs)) (Q : ix_R → Prop) (ls : ix_L) (st : List ix_V) (μ : ix_M) : ix_Ev (tL_0 L xs) Q (470, ls, st, μ) = (ix_iload 3 471) (ix_Ev (tL_0 L xs) Q) Q ls st μ := ix_Ev.eqM H ((stL_9 L xs 470 (by decide)).trans (ix_lk_app1 rfl)) ls st μ
theorem e_L_471 {L : Nat} {xs : Nat → Int32} (H : ix_Mo (tL_0 L xs)) (Q : ix_R → Prop) (ls : ix_L) (st : List ix_V) (μ : ix_M) : ix_Ev (tL_0 L xs) Q (471, ls, st, μ) = (ix_push (vi 1) 472) (ix_Ev (tL_0 L xs) Q) Q ls st μ := ix_Ev.eqM H ((stL_9 L xs 471 (by decide)).trans (ix_lk_app1 rfl)) ls st μ
theorem e_L_472 {L : Nat} {xs : Nat → Int32} (H : ix_Mo (tL_0 L xs)) (Q : ix_R → Prop) (ls : ix_L) (st : List ix_V) (μ : ix_M) : ix_Ev (tL_0 L xs) Q (472, ls, st, μ) = (ix_bin (fun x y => x + y) 473) (ix_Ev (tL_0 L xs) Q) Q ls st μ := ix_Ev.eqM H ((stL_9 L xs 472 (by decide)).trans (ix_lk_app1 rfl)) ls st μ
theorem e_L_473 {L : Nat} {xs : Nat → Int32} (H : ix_Mo (tL_0 L xs)) (Q : ix_R → Prop) (ls : ix_L) (st : List ix_V) (μ : ix_M) : ix_Ev (tL_0 L xs) Q (473, ls, st, μ) = (ix_xld L xs 474) (ix_Ev (tL_0 L xs) Q) Q ls st μ := ix_Ev.eqM H ((stL_9 L xs 473 (by decide)).trans (ix_lk_app1 rfl)) ls st μ
theorem e_L_474 {L : Nat} {xs : Nat → Int32} (H : ix_Mo (tL_0 L xs)) (Q : ix_R → Prop) (ls : ix_L) (st : List ix_V) (μ : ix_M) : ix_Ev (tL_0 L xs) Q (474, ls, st, μ) = (ix_aload 0 475) (ix_Ev (tL_0 L xs) Q) Q ls st μ := ix_Ev.eqM H ((stL_9 L xs 474 (by decide)).trans (ix_lk_app1 rfl)) ls st μ
theorem e_L_475 {L : Nat} {xs : Nat → Int32} (H : ix_Mo (tL_0 L xs)) (Q : ix_R → Prop) (ls : ix_L) (st : List ix_V) (μ : ix_M) : ix_Ev (tL_0 L xs) Q (475, ls, st, μ) = (ix_iload 3 476) (ix_Ev (tL_0 L xs) Q) Q ls st μ := ix_Ev.eqM H ((stL_9 L xs 475 (by decide)).trans (ix_lk_app1 rfl)) ls st μ
theorem e_L_476 {L : Nat} {xs : Nat → Int32} (H : ix_Mo (tL_0 L xs)) (Q : ix_R → Prop) (ls : ix_L) (st : List ix_V) (μ : ix_M) : ix_Ev (tL_0 L xs) Q (476, ls, st, μ) = (ix_push (vi 2) 477) (ix_Ev (tL_0 L xs) Q) Q ls st μ := ix_Ev.eqM H ((stL_9 L xs 476 (by decide)).trans (ix_lk_app1 rfl)) ls st μ
theorem e_L_477 {L : Nat} {xs : Nat → Int32} (H : ix_Mo (tL_0 L xs)) (Q : ix_R → Prop) (ls : ix_L) (st : List ix_V) (μ : ix_M) : ix_Ev (tL_0 L xs) Q (477, ls, st, μ) = (ix_bin (fun x y => x + y) 478) (ix_Ev (tL_0 L xs) Q) Q ls st μ := ix_Ev.eqM H ((stL_9 L xs 477 (by decide)).trans (ix_lk_app1 rfl)) ls st μ
theorem e_L_478 {L : Nat} {xs : Nat → Int32} (H : ix_Mo (tL_0 L xs)) (Q : ix_R → Prop) (ls : ix_L) (st : List ix_V) (μ : ix_M) : ix_Ev (tL_0 L xs) Q (478, ls, st, μ) = (ix_xld L xs 479) (ix_Ev (tL_0 L xs) Q) Q ls st μ := ix_Ev.eqM H ((stL_9 L xs 478 (by decide)).trans (ix_lk_app1 rfl)) ls st μ
theorem e_L_479 {L : Nat} {xs : Nat → Int32} (H : ix_Mo (tL_0 L xs)) (Q : ix_R → Prop) (ls : ix_L) (st : List ix_V) (μ : ix_M) : ix_Ev (tL_0 L xs) Q (479, ls, st, μ) = (oc_X10_ofBoat 482) (ix_Ev (tL_0 L xs) Q) Q ls st μ := ix_Ev.eqM H ((stL_9 L xs 479 (by decide)).trans (ix_lk_app1 rfl)) ls st μ
theorem e_L_482 {L : Nat} {xs : Nat → Int32} (H : ix_Mo (tL_0 L xs)) (Q : ix_R → Prop) (ls : ix_L) (st : List ix_V) (μ : ix_M) : ix_Ev (tL_0 L xs) Q (482, ls, st, μ) = (ix_aload 2 483) (ix_Ev (tL_0 L xs) Q) Q ls st μ := ix_Ev.eqM H ((stL_9 L xs 482 (by decide)).trans (ix_lk_app1 rfl)) ls st μ
theorem e_L_483 {L : Nat} {xs : Nat → Int32} (H : ix_Mo (tL_0 L xs)) (Q : ix_R → Prop) (ls : ix_L) (st : List ix_V) (μ : ix_M) : ix_Ev (tL_0 L xs) Q (483, ls, st, μ) = (ix_aload 0 484) (ix_Ev (tL_0 L xs) Q) Q ls st μ := ix_Ev.eqM H ((stL_9 L xs 483 (by decide)).trans (ix_lk_app1 rfl)) ls st μ
theorem e_L_484 {L : Nat} {xs : Nat → Int32} (H : ix_Mo (tL_0 L xs)) (Q : ix_R → Prop) (ls : ix_L) (st : List ix_V) (μ : ix_M) : ix_Ev (tL_0 L xs) Q (484, ls, st, μ) = (ix_iload 3 485) (ix_Ev (tL_0 L xs) Q) Q ls st μ := ix_Ev.eqM H ((stL_9 L xs 484 (by decide)).trans (ix_lk_app1 rfl)) ls st μ
theorem e_L_485 {L : Nat} {xs : Nat → Int32} (H : ix_Mo (tL_0 L xs)) (Q : ix_R → Prop) (ls : ix_L) (st : List ix_V) (μ : ix_M) : ix_Ev (tL_0 L xs) Q (485, ls, st, μ) = (ix_push (vi 1) 486) (ix_Ev (tL_0 L xs) Q) Q ls st μ := ix_Ev.eqM H ((stL_9 L xs 485 (by decide)).trans (ix_lk_app1 rfl)) ls st μ
theorem e_L_486 {L : Nat} {xs : Nat → Int32} (H : ix_Mo (tL_0 L xs)) (Q : ix_R → Prop) (ls : ix_L) (st : List ix_V) (μ : ix_M) : ix_Ev (tL_0 L xs) Q (486, ls, st, μ) = (ix_bin (fun x y => x + y) 487) (ix_Ev (tL_0 L xs) Q) Q ls st μ := ix_Ev.eqM H ((stL_9 L xs 486 (by decide)).trans (ix_lk_app1 rfl)) ls st μ
theorem e_L_487 {L : Nat} {xs : Nat → Int32} (H : ix_Mo (tL_0 L xs)) (Q : ix_R → Prop) (ls : ix_L) (st : List ix_V) (μ : ix_M) : ix_Ev (tL_0 L xs) Q (487, ls, st, μ) = (ix_xld L xs 488) (ix_Ev (tL_0 L xs) Q) Q ls st μ := ix_Ev.eqM H ((stL_9 L xs 487 (by decide)).trans (ix_lk_app1 rfl)) ls st μ
theorem e_L_488 {L : Nat} {xs : Nat → Int32} (H : ix_Mo (tL_0 L xs)) (Q : ix_R → Prop) (ls : ix_L) (st : List ix_V) (μ : ix_M) : ix_Ev (tL_0 L xs) Q (488, ls, st, μ) = (ix_aload 0 489) (ix_Ev (tL_0 L xs) Q) Q ls st μ := ix_Ev.eqM H ((stL_9 L xs 488 (by decide)).trans (ix_lk_app1 rfl)) ls st μ
theorem e_L_489 {L : Nat} {xs : Nat → Int32} (H : ix_Mo (tL_0 L xs)) (Q : ix_R → Prop) (ls : ix_L) (st : List ix_V) (μ : ix_M) : ix_Ev (tL_0 L xs) Q (489, ls, st, μ) = (ix_iload 3 490) (ix_Ev (tL_0 L xs) Q) Q ls st μ := ix_Ev.eqM H ((stL_9 L xs 489 (by decide)).trans (ix_lk_app1 rfl)) ls st μ
theorem e_L_490 {L : Nat} {xs : Nat → Int32} (H : ix_Mo (tL_0 L xs)) (Q : ix_R → Prop) (ls : ix_L) (st : List ix_V) (μ : ix_M) : ix_Ev (tL_0 L xs) Q (490, ls, st, μ) = (ix_push (vi 2) 491) (ix_Ev (tL_0 L xs) Q) Q ls st μ := ix_Ev.eqM H ((stL_9 L xs 490 (by decide)).trans (ix_lk_app1 rfl)) ls st μ
theorem e_L_491 {L : Nat} {xs : Nat → Int32} (H : ix_Mo (tL_0 L xs)) (Q : ix_R → Prop) (ls : ix_L) (st : List ix_V) (μ : ix_M) : ix_Ev (tL_0 L xs) Q (491, ls, st, μ) = (ix_bin (fun x y => x + y) 492) (ix_Ev (tL_0 L xs) Q) Q ls st μ := ix_Ev.eqM H ((stL_9 L xs 491 (by decide)).trans (ix_lk_app1 rfl)) ls st μ
theorem e_L_492 {L : Nat} {xs : Nat → Int32} (H : ix_Mo (tL_0 L xs)) (Q : ix_R → Prop) (ls : ix_L) (st : List ix_V) (μ : ix_M) : ix_Ev (tL_0 L xs) Q (492, ls, st, μ) = (ix_xld L xs 493) (ix_Ev (tL_0 L xs) Q) Q ls st μ := ix_Ev.eqM H ((stL_9 L xs 492 (by decide)).trans (ix_lk_app1 rfl)) ls st μ
theorem e_L_493 {L : Nat} {xs : Nat → Int32} (H : ix_Mo (tL_0 L xs)) (Q : ix_R → Prop) (ls : ix_L) (st : List ix_V) (μ : ix_M) : ix_Ev (tL_0 L xs) Q (493, ls, st, μ) = (oc_X11_ofBoat 496) (ix_Ev (tL_0 L xs) Q) Q ls st μ := ix_Ev.eqM H ((stL_9 L xs 493 (by decide)).trans (ix_lk_app1 rfl)) ls st μ
theorem e_L_496 {L : Nat} {xs : Nat → Int32} (H : ix_Mo (tL_0 L xs)) (Q : ix_R → Prop) (ls : ix_L) (st : List ix_V) (μ : ix_M) : ix_Ev (tL_0 L xs) Q (496, ls, st, μ) = (ix_cmp (fun x y => x = y) 1636 499) (ix_Ev (tL_0 L xs) Q) Q ls st μ := ix_Ev.eqM H ((stL_9 L xs 496 (by decide)).trans (ix_lk_app1 rfl)) ls st μ
theorem e_L_499 {L : Nat} {xs : Nat → Int32} (H : ix_Mo (tL_0 L xs)) (Q : ix_R → Prop) (ls : ix_L) (st : List ix_V) (μ : ix_M) : ix_Ev (tL_0 L xs) Q (499, ls, st, μ) = (ix_push (vi 0) 500) (ix_Ev (tL_0 L xs) Q) Q ls st μ := ix_Ev.eqM H ((stL_9 L xs 499 (by decide)).trans (ix_lk_app1 rfl)) ls st μ
theorem e_L_500 {L : Nat} {xs : Nat → Int32} (H : ix_Mo (tL_0 L xs)) (Q : ix_R → Prop) (ls : ix_L) (st : List ix_V) (μ : ix_M) : ix_Ev (tL_0 L xs) Q (500, ls, st, μ) = ix_zret (ix_Ev (tL_0 L xs) Q) Q ls st μ := ix_Ev.eqM H ((stL_9 L xs 500 (by decide)).trans (ix_lk_app1 rfl)) ls st μ
theorem e_L_501 {L : Nat} {xs : Nat → Int32} (H : ix_Mo (tL_0 L xs)) (Q : ix_R → Prop) (ls : ix_L) (st : List ix_V) (μ : ix_M) : ix_Ev (tL_0 L xs) Q (501, ls, st, μ) = (ix_aload 1 502) (ix_Ev (tL_0 L xs) Q) Q ls st μ := ix_Ev.eqM H ((stL_10 L xs 501 (by decide)).trans (ix_lk_app1 rfl)) ls st μ
theorem e_L_502 {L : Nat} {xs : Nat → Int32} (H : ix_Mo (tL_0 L xs)) (Q : ix_R → Prop) (ls : ix_L) (st : List ix_V) (μ : ix_M) : ix_Ev (tL_0 L xs) Q (502, ls, st, μ) = (ix_aload 0 503) (ix_Ev (tL_0 L xs) Q) Q ls st μ := ix_Ev.eqM H ((stL_10 L xs 502 (by decide)).trans (ix_lk_app1 rfl)) ls st μ
theorem e_L_503 {L : Nat} {xs : Nat → Int32} (H : ix_Mo (tL_0 L xs)) (Q : ix_R → Prop) (ls : ix_L) (st : List ix_V) (μ : ix_M) : ix_Ev (tL_0 L xs) Q (503, ls, st, μ) = (ix_iload 3 504) (ix_Ev (tL_0 L xs) Q) Q ls st μ := ix_Ev.eqM H ((stL_10 L xs 503 (by decide)).trans (ix_lk_app1 rfl)) ls st μ
theorem e_L_504 {L : Nat} {xs : Nat → Int32} (H : ix_Mo (tL_0 L xs)) (Q : ix_R → Prop) (ls : ix_L) (st : List ix_V) (μ : ix_M) : ix_Ev (tL_0 L xs) Q (504, ls, st, μ) = (ix_push (vi 1) 505) (ix_Ev (tL_0 L xs) Q) Q ls st μ := ix_Ev.eqM H ((stL_10 L xs 504 (by decide)).trans (ix_lk_app1 rfl)) ls st μ
theorem e_L_505 {L : Nat} {xs : Nat → Int32} (H : ix_Mo (tL_0 L xs)) (Q : ix_R → Prop) (ls : ix_L) (st : List ix_V) (μ : ix_M) : ix_Ev (tL_0 L xs) Q (505, ls, st, μ) = (ix_bin (fun x y => x + y) 506) (ix_Ev (tL_0 L xs) Q) Q ls st μ := ix_Ev.eqM H ((stL_10 L xs 505 (by decide)).trans (ix_lk_app1 rfl)) ls st μ
theorem e_L_506 {L : Nat} {xs : Nat → Int32} (H : ix_Mo (tL_0 L xs)) (Q : ix_R → Prop) (ls : ix_L) (st : List ix_V) (μ : ix_M) : ix_Ev (tL_0 L xs) Q (506, ls, st, μ) = (ix_xld L xs 507) (ix_Ev (tL_0 L xs) Q) Q ls st μ := ix_Ev.eqM H ((stL_10 L xs 506 (by decide)).trans (ix_lk_app1 rfl)) ls st μ
theorem e_L_507 {L : Nat} {xs : Nat → Int32} (H : ix_Mo (tL_0 L xs)) (Q : ix_R → Prop) (ls : ix_L) (st : List ix_V) (μ : ix_M) : ix_Ev (tL_0 L xs) Q (507, ls, st, μ) = (ix_aload 0 508) (ix_Ev (tL_0 L xs) Q) Q ls st μ := ix_Ev.eqM H ((stL_10 L xs 507 (by decide)).trans (ix_lk_app1 rfl)) ls st μ
theorem e_L_508 {L : Nat} {xs : Nat → Int32} (H : ix_Mo (tL_0 L xs)) (Q : ix_R → Prop) (ls : ix_L) (st : List ix_V) (μ : ix_M) : ix_Ev (tL_0 L xs) Q (508, ls, st, μ) = (ix_iload 3 509) (ix_Ev (tL_0 L xs) Q) Q ls st μ := ix_Ev.eqM H ((stL_10 L xs 508 (by decide)).trans (ix_lk_app1 rfl)) ls st μ
theorem e_L_509 {L : Nat} {xs : Nat → Int32} (H : ix_Mo (tL_0 L xs)) (Q : ix_R → Prop) (ls : ix_L) (st : List ix_V) (μ : ix_M) : ix_Ev (tL_0 L xs) Q (509, ls, st, μ) = (ix_push (vi 2) 510) (ix_Ev (tL_0 L xs) Q) Q ls st μ := ix_Ev.eqM H ((stL_10 L xs 509 (by decide)).trans (ix_lk_app1 rfl)) ls st μ
theorem e_L_510 {L : Nat} {xs : Nat → Int32} (H : ix_Mo (tL_0 L xs)) (Q : ix_R → Prop) (ls : ix_L) (st : List ix_V) (μ : ix_M) : ix_Ev (tL_0 L xs) Q (510, ls, st, μ) = (ix_bin (fun x y => x + y) 511) (ix_Ev (tL_0 L xs) Q) Q ls st μ := ix_Ev.eqM H ((stL_10 L xs 510 (by decide)).trans (ix_lk_app1 rfl)) ls st μ
theorem e_L_511 {L : Nat} {xs : Nat → Int32} (H : ix_Mo (tL_0 L xs)) (Q : ix_R → Prop) (ls : ix_L) (st : List ix_V) (μ : ix_M) : ix_Ev (tL_0 L xs) Q (511, ls, st, μ) = (ix_xld L xs 512) (ix_Ev (tL_0 L xs) Q) Q ls st μ := ix_Ev.eqM H ((stL_10 L xs 511 (by decide)).trans (ix_lk_app1 rfl)) ls st μ
theorem e_L_512 {L : Nat} {xs : Nat → Int32} (H : ix_Mo (tL_0 L xs)) (Q : ix_R → Prop) (ls : ix_L) (st : List ix_V) (μ : ix_M) : ix_Ev (tL_0 L xs) Q (512, ls, st, μ) = (ix_aload 0 513) (ix_Ev (tL_0 L xs) Q) Q ls st μ := ix_Ev.eqM H ((stL_10 L xs 512 (by decide)).trans (ix_lk_app1 rfl)) ls st μ
theorem e_L_513 {L : Nat} {xs : Nat → Int32} (H : ix_Mo (tL_0 L xs)) (Q : ix_R → Prop) (ls : ix_L) (st : List ix_V) (μ : ix_M) : ix_Ev (tL_0 L xs) Q (513, ls, st, μ) = (ix_iload 3 514) (ix_Ev (tL_0 L xs) Q) Q ls st μ := ix_Ev.eqM H ((stL_10 L xs 513 (by decide)).trans (ix_lk_app1 rfl)) ls st μ
theorem e_L_514 {L : Nat} {xs : Nat → Int32} (H : ix_Mo (tL_0 L xs)) (Q : ix_R → Prop) (ls : ix_L) (st : List ix_V) (μ : ix_M) : ix_Ev (tL_0 L xs) Q (514, ls, st, μ) = (ix_push (vi 3) 515) (ix_Ev (tL_0 L xs) Q) Q ls st μ := ix_Ev.eqM H ((stL_10 L xs 514 (by decide)).trans (ix_lk_app1 rfl)) ls st μ
theorem e_L_515 {L : Nat} {xs : Nat → Int32} (H : ix_Mo (tL_0 L xs)) (Q : ix_R → Prop) (ls : ix_L) (st : List ix_V) (μ : ix_M) : ix_Ev (tL_0 L xs) Q (515, ls, st, μ) = (ix_bin (fun x y => x + y) 516) (ix_Ev (tL_0 L xs) Q) Q ls st μ := ix_Ev.eqM H ((stL_10 L xs 515 (by decide)).trans (ix_lk_app1 rfl)) ls st μ
theorem e_L_516 {L : Nat} {xs : Nat → Int32} (H : ix_Mo (tL_0 L xs)) (Q : ix_R → Prop) (ls : ix_L) (st : List ix_V) (μ : ix_M) : ix_Ev (tL_0 L xs) Q (516, ls, st, μ) = (ix_xld L xs 517) (ix_Ev (tL_0 L xs) Q) Q ls st μ := ix_Ev.eqM H ((stL_10 L xs 516 (by decide)).trans (ix_lk_app1 rfl)) ls st μ
theorem e_L_517 {L : Nat} {xs : Nat → Int32} (H : ix_Mo (tL_0 L xs)) (Q : ix_R → Prop) (ls : ix_L) (st : List ix_V) (μ : ix_M) : ix_Ev (tL_0 L xs) Q (517, ls, st, μ) = (oc_X10_change 520) (ix_Ev (tL_0 L xs) Q) Q ls st μ := ix_Ev.eqM H ((stL_10 L xs 517 (by decide)).trans (ix_lk_app1 rfl)) ls st μ
theorem e_L_520 {L : Nat} {xs : Nat → Int32} (H : ix_Mo (tL_0 L xs)) (Q : ix_R → Prop) (ls : ix_L) (st : List ix_V) (μ : ix_M) : ix_Ev (tL_0 L xs) Q (520, ls, st, μ) = (ix_aload 2 521) (ix_Ev (tL_0 L xs) Q) Q ls st μ := ix_Ev.eqM H ((stL_10 L xs 520 (by decide)).trans (ix_lk_app1 rfl)) ls st μ
theorem e_L_521 {L : Nat} {xs : Nat → Int32} (H : ix_Mo (tL_0 L xs)) (Q : ix_R → Prop) (ls : ix_L) (st : List ix_V) (μ : ix_M) : ix_Ev (tL_0 L xs) Q (521, ls, st, μ) = (ix_aload 0 522) (ix_Ev (tL_0 L xs) Q) Q ls st μ := ix_Ev.eqM H ((stL_10 L xs 521 (by decide)).trans (ix_lk_app1 rfl)) ls st μ
theorem e_L_522 {L : Nat} {xs : Nat → Int32} (H : ix_Mo (tL_0 L xs)) (Q : ix_R → Prop) (ls : ix_L) (st : List ix_V) (μ : ix_M) : ix_Ev (tL_0 L xs) Q (522, ls, st, μ) = (ix_iload 3 523) (ix_Ev (tL_0 L xs) Q) Q ls st μ := ix_Ev.eqM H ((stL_10 L xs 522 (by decide)).trans (ix_lk_app1 rfl)) ls st μ
theorem e_L_523 {L : Nat} {xs : Nat → Int32} (H : ix_Mo (tL_0 L xs)) (Q : ix_R → Prop) (ls : ix_L) (st : List ix_V) (μ : ix_M) : ix_Ev (tL_0 L xs) Q (523, ls, st, μ) = (ix_push (vi 1) 524) (ix_Ev (tL_0 L xs) Q) Q ls st μ := ix_Ev.eqM H ((stL_10 L xs 523 (by decide)).trans (ix_lk_app1 rfl)) ls st μ
theorem e_L_524 {L : Nat} {xs : Nat → Int32} (H : ix_Mo (tL_0 L xs)) (Q : ix_R → Prop) (ls : ix_L) (st : List ix_V) (μ : ix_M) : ix_Ev (tL_0 L xs) Q (524, ls, st, μ) = (ix_bin (fun x y => x + y) 525) (ix_Ev (tL_0 L xs) Q) Q ls st μ := ix_Ev.eqM H ((stL_10 L xs 524 (by decide)).trans (ix_lk_app1 rfl)) ls st μ
theorem e_L_525 {L : Nat} {xs : Nat → Int32} (H : ix_Mo (tL_0 L xs)) (Q : ix_R → Prop) (ls : ix_L) (st : List ix_V) (μ : ix_M) : ix_Ev (tL_0 L xs) Q (525, ls, st, μ) = (ix_xld L xs 526) (ix_Ev (tL_0 L xs) Q) Q ls st μ := ix_Ev.eqM H ((stL_10 L xs 525 (by decide)).trans (ix_lk_app1 rfl)) ls st μ
theorem e_L_526 {L : Nat} {xs : Nat → Int32} (H : ix_Mo (tL_0 L xs)) (Q : ix_R → Prop) (ls : ix_L) (st : List ix_V) (μ : ix_M) : ix_Ev (tL_0 L xs) Q (526, ls, st, μ) = (ix_aload 0 527) (ix_Ev (tL_0 L xs) Q) Q ls st μ := ix_Ev.eqM H ((stL_10 L xs 526 (by decide)).trans (ix_lk_app1 rfl)) ls st μ
theorem e_L_527 {L : Nat} {xs : Nat → Int32} (H : ix_Mo (tL_0 L xs)) (Q : ix_R → Prop) (ls : ix_L) (st : List ix_V) (μ : ix_M) : ix_Ev (tL_0 L xs) Q (527, ls, st, μ) = (ix_iload 3 528) (ix_Ev (tL_0 L xs) Q) Q ls st μ := ix_Ev.eqM H ((stL_10 L xs 527 (by decide)).trans (ix_lk_app1 rfl)) ls st μ
theorem e_L_528 {L : Nat} {xs : Nat → Int32} (H : ix_Mo (tL_0 L xs)) (Q : ix_R → Prop) (ls : ix_L) (st : List ix_V) (μ : ix_M) : ix_Ev (tL_0 L xs) Q (528, ls, st, μ) = (ix_push (vi 2) 529) (ix_Ev (tL_0 L xs) Q) Q ls st μ := ix_Ev.eqM H ((stL_10 L xs 528 (by decide)).trans (ix_lk_app1 rfl)) ls st μ
theorem e_L_529 {L : Nat} {xs : Nat → Int32} (H : ix_Mo (tL_0 L xs)) (Q : ix_R → Prop) (ls : ix_L) (st : List ix_V) (μ : ix_M) : ix_Ev (tL_0 L xs) Q (529, ls, st, μ) = (ix_bin (fun x y => x + y) 530) (ix_Ev (tL_0 L xs) Q) Q ls st μ := ix_Ev.eqM H ((stL_10 L xs 529 (by decide)).trans (ix_lk_app1 rfl)) ls st μ
theorem e_L_530 {L : Nat} {xs : Nat → Int32} (H : ix_Mo (tL_0 L xs)) (Q : ix_R → Prop) (ls : ix_L) (st : List ix_V) (μ : ix_M) : ix_Ev (tL_0 L xs) Q (530, ls, st, μ) = (ix_xld L xs 531) (ix_Ev (tL_0 L xs) Q) Q ls st μ := ix_Ev.eqM H ((stL_10 L xs 530 (by decide)).trans (ix_lk_app1 rfl)) ls st μ
theorem e_L_531 {L : Nat} {xs : Nat → Int32} (H : ix_Mo (tL_0 L xs)) (Q : ix_R → Prop) (ls : ix_L) (st : List ix_V) (μ : ix_M) : ix_Ev (tL_0 L xs) Q (531, ls, st, μ) = (ix_aload 0 532) (ix_Ev (tL_0 L xs) Q) Q ls st μ := ix_Ev.eqM H ((stL_10 L xs 531 (by decide)).trans (ix_lk_app1 rfl)) ls st μ
theorem e_L_532 {L : Nat} {xs : Nat → Int32} (H : ix_Mo (tL_0 L xs)) (Q : ix_R → Prop) (ls : ix_L) (st : List ix_V) (μ : ix_M) : ix_Ev (tL_0 L xs) Q (532, ls, st, μ) = (ix_iload 3 533) (ix_Ev (tL_0 L xs) Q) Q ls st μ := ix_Ev.eqM H ((stL_10 L xs 532 (by decide)).trans (ix_lk_app1 rfl)) ls st μ
theorem e_L_533 {L : Nat} {xs : Nat → Int32} (H : ix_Mo (tL_0 L xs)) (Q : ix_R → Prop) (ls : ix_L) (st : List ix_V) (μ : ix_M) : ix_Ev (tL_0 L xs) Q (533, ls, st, μ) = (ix_push (vi 3) 534) (ix_Ev (tL_0 L xs) Q) Q ls st μ := ix_Ev.eqM H ((stL_10 L xs 533 (by decide)).trans (ix_lk_app1 rfl)) ls st μ
theorem e_L_534 {L : Nat} {xs : Nat → Int32} (H : ix_Mo (tL_0 L xs)) (Q : ix_R → Prop) (ls : ix_L) (st : List ix_V) (μ : ix_M) : ix_Ev (tL_0 L xs) Q (534, ls, st, μ) = (ix_bin (fun x y => x + y) 535) (ix_Ev (tL_0 L xs) Q) Q ls st μ := ix_Ev.eqM H ((stL_10 L xs 534 (by decide)).trans (ix_lk_app1 rfl)) ls st μ
theorem e_L_535 {L : Nat} {xs : Nat → Int32} (H : ix_Mo (tL_0 L xs)) (Q : ix_R → Prop) (ls : ix_L) (st : List ix_V) (μ : ix_M) : ix_Ev (tL_0 L xs) Q (535, ls, st, μ) = (ix_xld L xs 536) (ix_Ev (tL_0 L xs) Q) Q ls st μ := ix_Ev.eqM H ((stL_10 L xs 535 (by decide)).trans (ix_lk_app1 rfl)) ls st μ
theorem e_L_536 {L : Nat} {xs : Nat → Int32} (H : ix_Mo (tL_0 L xs)) (Q : ix_R → Prop) (ls : ix_L) (st : List ix_V) (μ : ix_M) : ix_Ev (tL_0 L xs) Q (536, ls, st, μ) = (oc_X11_change 539) (ix_Ev (tL_0 L xs) Q) Q ls st μ := ix_Ev.eqM H ((stL_10 L xs 536 (by decide)).trans (ix_lk_app1 rfl)) ls st μ
theorem e_L_539 {L : Nat} {xs : Nat → Int32} (H : ix_Mo (tL_0 L xs)) (Q : ix_R → Prop) (ls : ix_L) (st : List ix_V) (μ : ix_M) : ix_Ev (tL_0 L xs) Q (539, ls, st, μ) = (ix_cmp (fun x y => x = y) 1636 542) (ix_Ev (tL_0 L xs) Q) Q ls st μ := ix_Ev.eqM H ((stL_10 L xs 539 (by decide)).trans (ix_lk_app1 rfl)) ls st μ
theorem e_L_542 {L : Nat} {xs : Nat → Int32} (H : ix_Mo (tL_0 L xs)) (Q : ix_R → Prop) (ls : ix_L) (st : List ix_V) (μ : ix_M) : ix_Ev (tL_0 L xs) Q (542, ls, st, μ) = (ix_push (vi 0) 543) (ix_Ev (tL_0 L xs) Q) Q ls st μ := ix_Ev.eqM H ((stL_10 L xs 542 (by decide)).trans (ix_lk_app1 rfl)) ls st μ
theorem e_L_543 {L : Nat} {xs : Nat → Int32} (H : ix_Mo (tL_0 L xs)) (Q : ix_R → Prop) (ls : ix_L) (st : List ix_V) (μ : ix_M) : ix_Ev (tL_0 L xs) Q (543, ls, st, μ) = ix_zret (ix_Ev (tL_0 L xs) Q) Q ls st μ := ix_Ev.eqM H ((stL_10 L xs 543 (by decide)).trans (ix_lk_app1 rfl)) ls st μ
theorem e_L_544 {L : Nat} {xs : Nat → Int32} (H : ix_Mo (tL_0 L xs)) (Q : ix_R → Prop) (ls : ix_L) (st : List ix_V) (μ : ix_M) : ix_Ev (tL_0 L xs) Q (544, ls, st, μ) = (ix_aload 1 545) (ix_Ev (tL_0 L xs) Q) Q ls st μ := ix_Ev.eqM H ((stL_11 L xs 544 (by decide)).trans (ix_lk_app1 rfl)) ls st μ
theorem e_L_545 {L : Nat} {xs : Nat → Int32} (H : ix_Mo (tL_0 L xs)) (Q : ix_R → Prop) (ls : ix_L) (st : List ix_V) (μ : ix_M) : ix_Ev (tL_0 L xs) Q (545, ls, st, μ) = (ix_aload 0 546) (ix_Ev (tL_0 L xs) Q) Q ls st μ := ix_Ev.eqM H ((stL_11 L xs 545 (by decide)).trans (ix_lk_app1 rfl)) ls st μ
theorem e_L_546 {L : Nat} {xs : Nat → Int32} (H : ix_Mo (tL_0 L xs)) (Q : ix_R → Prop) (ls : ix_L) (st : List ix_V) (μ : ix_M) : ix_Ev (tL_0 L xs) Q (546, ls, st, μ) = (ix_iload 3 547) (ix_Ev (tL_0 L xs) Q) Q ls st μ := ix_Ev.eqM H ((stL_11 L xs 546 (by decide)).trans (ix_lk_app1 rfl)) ls st μ
theorem e_L_547 {L : Nat} {xs : Nat → Int32} (H : ix_Mo (tL_0 L xs)) (Q : ix_R → Prop) (ls : ix_L) (st : List ix_V) (μ : ix_M) : ix_Ev (tL_0 L xs) Q (547, ls, st, μ) = (ix_push (vi 1) 548) (ix_Ev (tL_0 L xs) Q) Q ls st μ := ix_Ev.eqM H ((stL_11 L xs 547 (by decide)).trans (ix_lk_app1 rfl)) ls st μ
theorem e_L_548 {L : Nat} {xs : Nat → Int32} (H : ix_Mo (tL_0 L xs)) (Q : ix_R → Prop) (ls : ix_L) (st : List ix_V) (μ : ix_M) : ix_Ev (tL_0 L xs) Q (548, ls, st, μ) = (ix_bin (fun x y => x + y) 549) (ix_Ev (tL_0 L xs) Q) Q ls st μ := ix_Ev.eqM H ((stL_11 L xs 548 (by decide)).trans (ix_lk_app1 rfl)) ls st μ
theorem e_L_549 {L : Nat} {xs : Nat → Int32} (H : ix_Mo (tL_0 L xs)) (Q : ix_R → Prop) (ls : ix_L) (st : List ix_V) (μ : ix_M) : ix_Ev (tL_0 L xs) Q (549, ls, st, μ) = (ix_xld L xs 550) (ix_Ev (tL_0 L xs) Q) Q ls st μ := ix_Ev.eqM H ((stL_11 L xs 549 (by decide)).trans (ix_lk_app1 rfl)) ls st μ
theorem e_L_550 {L : Nat} {xs : Nat → Int32} (H : ix_Mo (tL_0 L xs)) (Q : ix_R → Prop) (ls : ix_L) (st : List ix_V) (μ : ix_M) : ix_Ev (tL_0 L xs) Q (550, ls, st, μ) = (ix_aload 0 551) (ix_Ev (tL_0 L xs) Q) Q ls st μ := ix_Ev.eqM H ((stL_11 L xs 550 (by decide)).trans (ix_lk_app1 rfl)) ls st μ
theorem e_L_551 {L : Nat} {xs : Nat → Int32} (H : ix_Mo (tL_0 L xs)) (Q : ix_R → Prop) (ls : ix_L) (st : List ix_V) (μ : ix_M) : ix_Ev (tL_0 L xs) Q (551, ls, st, μ) = (ix_iload 3 552) (ix_Ev (tL_0 L xs) Q) Q ls st μ := ix_Ev.eqM H ((stL_11 L xs 551 (by decide)).trans (ix_lk_app1 rfl)) ls st μ
theorem e_L_552 {L : Nat} {xs : Nat → Int32} (H : ix_Mo (tL_0 L xs)) (Q : ix_R → Prop) (ls : ix_L) (st : List ix_V) (μ : ix_M) : ix_Ev (tL_0 L xs) Q (552, ls, st, μ) = (ix_push (vi 2) 553) (ix_Ev (tL_0 L xs) Q) Q ls st μ := ix_Ev.eqM H ((stL_11 L xs 552 (by decide)).trans (ix_lk_app1 rfl)) ls st μ
theorem e_L_553 {L : Nat} {xs : Nat → Int32} (H : ix_Mo (tL_0 L xs)) (Q : ix_R → Prop) (ls : ix_L) (st : List ix_V) (μ : ix_M) : ix_Ev (tL_0 L xs) Q (553, ls, st, μ) = (ix_bin (fun x y => x + y) 554) (ix_Ev (tL_0 L xs) Q) Q ls st μ := ix_Ev.eqM H ((stL_11 L xs 553 (by decide)).trans (ix_lk_app1 rfl)) ls st μ
theorem e_L_554 {L : Nat} {xs : Nat → Int32} (H : ix_Mo (tL_0 L xs)) (Q : ix_R → Prop) (ls : ix_L) (st : List ix_V) (μ : ix_M) : ix_Ev (tL_0 L xs) Q (554, ls, st, μ) = (ix_xld L xs 555) (ix_Ev (tL_0 L xs) Q) Q ls st μ := ix_Ev.eqM H ((stL_11 L xs 554 (by decide)).trans (ix_lk_app1 rfl)) ls st μ
theorem e_L_555 {L : Nat} {xs : Nat → Int32} (H : ix_Mo (tL_0 L xs)) (Q : ix_R → Prop) (ls : ix_L) (st : List ix_V) (μ : ix_M) : ix_Ev (tL_0 L xs) Q (555, ls, st, μ) = (oc_X10_become 558) (ix_Ev (tL_0 L xs) Q) Q ls st μ := ix_Ev.eqM H ((stL_11 L xs 555 (by decide)).trans (ix_lk_app1 rfl)) ls st μ
theorem e_L_558 {L : Nat} {xs : Nat → Int32} (H : ix_Mo (tL_0 L xs)) (Q : ix_R → Prop) (ls : ix_L) (st : List ix_V) (μ : ix_M) : ix_Ev (tL_0 L xs) Q (558, ls, st, μ) = (ix_aload 2 559) (ix_Ev (tL_0 L xs) Q) Q ls st μ := ix_Ev.eqM H ((stL_11 L xs 558 (by decide)).trans (ix_lk_app1 rfl)) ls st μ
theorem e_L_559 {L : Nat} {xs : Nat → Int32} (H : ix_Mo (tL_0 L xs)) (Q : ix_R → Prop) (ls : ix_L) (st : List ix_V) (μ : ix_M) : ix_Ev (tL_0 L xs) Q (559, ls, st, μ) = (ix_aload 0 560) (ix_Ev (tL_0 L xs) Q) Q ls st μ := ix_Ev.eqM H ((stL_11 L xs 559 (by decide)).trans (ix_lk_app1 rfl)) ls st μ
theorem e_L_560 {L : Nat} {xs : Nat → Int32} (H : ix_Mo (tL_0 L xs)) (Q : ix_R → Prop) (ls : ix_L) (st : List ix_V) (μ : ix_M) : ix_Ev (tL_0 L xs) Q (560, ls, st, μ) = (ix_iload 3 561) (ix_Ev (tL_0 L xs) Q) Q ls st μ := ix_Ev.eqM H ((stL_11 L xs 560 (by decide)).trans (ix_lk_app1 rfl)) ls st μ
theorem e_L_561 {L : Nat} {xs : Nat → Int32} (H : ix_Mo (tL_0 L xs)) (Q : ix_R → Prop) (ls : ix_L) (st : List ix_V) (μ : ix_M) : ix_Ev (tL_0 L xs) Q (561, ls, st, μ) = (ix_push (vi 1) 562) (ix_Ev (tL_0 L xs) Q) Q ls st μ := ix_Ev.eqM H ((stL_11 L xs 561 (by decide)).trans (ix_lk_app1 rfl)) ls st μ
theorem e_L_562 {L : Nat} {xs : Nat → Int32} (H : ix_Mo (tL_0 L xs)) (Q : ix_R → Prop) (ls : ix_L) (st : List ix_V) (μ : ix_M) : ix_Ev (tL_0 L xs) Q (562, ls, st, μ) = (ix_bin (fun x y => x + y) 563) (ix_Ev (tL_0 L xs) Q) Q ls st μ := ix_Ev.eqM H ((stL_11 L xs 562 (by decide)).trans (ix_lk_app1 rfl)) ls st μ
theorem e_L_563 {L : Nat} {xs : Nat → Int32} (H : ix_Mo (tL_0 L xs)) (Q : ix_R → Prop) (ls : ix_L) (st : List ix_V) (μ : ix_M) : ix_Ev (tL_0 L xs) Q (563, ls, st, μ) = (ix_xld L xs 564) (ix_Ev (tL_0 L xs) Q) Q ls st μ := ix_Ev.eqM H ((stL_11 L xs 563 (by decide)).trans (ix_lk_app1 rfl)) ls st μ
theorem e_L_564 {L : Nat} {xs : Nat → Int32} (H : ix_Mo (tL_0 L xs)) (Q : ix_R → Prop) (ls : ix_L) (st : List ix_V) (μ : ix_M) : ix_Ev (tL_0 L xs) Q (564, ls, st, μ) = (ix_aload 0 565) (ix_Ev (tL_0 L xs) Q) Q ls st μ := ix_Ev.eqM H ((stL_11 L xs 564 (by decide)).trans (ix_lk_app1 rfl)) ls st μ
theorem e_L_565 {L : Nat} {xs : Nat → Int32} (H : ix_Mo (tL_0 L xs)) (Q : ix_R → Prop) (ls : ix_L) (st : List ix_V) (μ : ix_M) : ix_Ev (tL_0 L xs) Q (565, ls, st, μ) = (ix_iload 3 566) (ix_Ev (tL_0 L xs) Q) Q ls st μ := ix_Ev.eqM H ((stL_11 L xs 565 (by decide)).trans (ix_lk_app1 rfl)) ls st μ
theorem e_L_566 {L : Nat} {xs : Nat → Int32} (H : ix_Mo (tL_0 L xs)) (Q : ix_R → Prop) (ls : ix_L) (st : List ix_V) (μ : ix_M) : ix_Ev (tL_0 L xs) Q (566, ls, st, μ) = (ix_push (vi 2) 567) (ix_Ev (tL_0 L xs) Q) Q ls st μ := ix_Ev.eqM H ((stL_11 L xs 566 (by decide)).trans (ix_lk_app1 rfl)) ls st μ
theorem e_L_567 {L : Nat} {xs : Nat → Int32} (H : ix_Mo (tL_0 L xs)) (Q : ix_R → Prop) (ls : ix_L) (st : List ix_V) (μ : ix_M) : ix_Ev (tL_0 L xs) Q (567, ls, st, μ) = (ix_bin (fun x y => x + y) 568) (ix_Ev (tL_0 L xs) Q) Q ls st μ := ix_Ev.eqM H ((stL_11 L xs 567 (by decide)).trans (ix_lk_app1 rfl)) ls st μ
theorem e_L_568 {L : Nat} {xs : Nat → Int32} (H : ix_Mo (tL_0 L xs)) (Q : ix_R → Prop) (ls : ix_L) (st : List ix_V) (μ : ix_M) : ix_Ev (tL_0 L xs) Q (568, ls, st, μ) = (ix_xld L xs 569) (ix_Ev (tL_0 L xs) Q) Q ls st μ := ix_Ev.eqM H ((stL_11 L xs 568 (by decide)).trans (ix_lk_app1 rfl)) ls st μ
theorem e_L_569 {L : Nat} {xs : Nat → Int32} (H : ix_Mo (tL_0 L xs)) (Q : ix_R → Prop) (ls : ix_L) (st : List ix_V) (μ : ix_M) : ix_Ev (tL_0 L xs) Q (569, ls, st, μ) = (oc_X11_become 572) (ix_Ev (tL_0 L xs) Q) Q ls st μ := ix_Ev.eqM H ((stL_11 L xs 569 (by decide)).trans (ix_lk_app1 rfl)) ls st μ
theorem e_L_572 {L : Nat} {xs : Nat → Int32} (H : ix_Mo (tL_0 L xs)) (Q : ix_R → Prop) (ls : ix_L) (st : List ix_V) (μ : ix_M) : ix_Ev (tL_0 L xs) Q (572, ls, st, μ) = (ix_cmp (fun x y => x = y) 1636 575) (ix_Ev (tL_0 L xs) Q) Q ls st μ := ix_Ev.eqM H ((stL_11 L xs 572 (by decide)).trans (ix_lk_app1 rfl)) ls st μ
theorem e_L_575 {L : Nat} {xs : Nat → Int32} (H : ix_Mo (tL_0 L xs)) (Q : ix_R → Prop) (ls : ix_L) (st : List ix_V) (μ : ix_M) : ix_Ev (tL_0 L xs) Q (575, ls, st, μ) = (ix_push (vi 0) 576) (ix_Ev (tL_0 L xs) Q) Q ls st μ := ix_Ev.eqM H ((stL_11 L xs 575 (by decide)).trans (ix_lk_app1 rfl)) ls st μ
theorem e_L_576 {L : Nat} {xs : Nat → Int32} (H : ix_Mo (tL_0 L xs)) (Q : ix_R → Prop) (ls : ix_L) (st : List ix_V) (μ : ix_M) : ix_Ev (tL_0 L xs) Q (576, ls, st, μ) = ix_zret (ix_Ev (tL_0 L xs) Q) Q ls st μ := ix_Ev.eqM H ((stL_11 L xs 576 (by decide)).trans (ix_lk_app1 rfl)) ls st μ
theorem e_L_577 {L : Nat} {xs : Nat → Int32} (H : ix_Mo (tL_0 L xs)) (Q : ix_R → Prop) (ls : ix_L) (st : List ix_V) (μ : ix_M) : ix_Ev (tL_0 L xs) Q (577, ls, st, μ) = (ix_aload 1 578) (ix_Ev (tL_0 L xs) Q) Q ls st μ := ix_Ev.eqM H ((stL_12 L xs 577 (by decide)).trans (ix_lk_app1 rfl)) ls st μ
theorem e_L_578 {L : Nat} {xs : Nat → Int32} (H : ix_Mo (tL_0 L xs)) (Q : ix_R → Prop) (ls : ix_L) (st : List ix_V) (μ : ix_M) : ix_Ev (tL_0 L xs) Q (578, ls, st, μ) = (ix_aload 0 579) (ix_Ev (tL_0 L xs) Q) Q ls st μ := ix_Ev.eqM H ((stL_12 L xs 578 (by decide)).trans (ix_lk_app1 rfl)) ls st μ
theorem e_L_579 {L : Nat} {xs : Nat → Int32} (H : ix_Mo (tL_0 L xs)) (Q : ix_R → Prop) (ls : ix_L) (st : List ix_V) (μ : ix_M) : ix_Ev (tL_0 L xs) Q (579, ls, st, μ) = (ix_iload 3 580) (ix_Ev (tL_0 L xs) Q) Q ls st μ := ix_Ev.eqM H ((stL_12 L xs 579 (by decide)).trans (ix_lk_app1 rfl)) ls st μ
theorem e_L_580 {L : Nat} {xs : Nat → Int32} (H : ix_Mo (tL_0 L xs)) (Q : ix_R → Prop) (ls : ix_L) (st : List ix_V) (μ : ix_M) : ix_Ev (tL_0 L xs) Q (580, ls, st, μ) = (ix_push (vi 1) 581) (ix_Ev (tL_0 L xs) Q) Q ls st μ := ix_Ev.eqM H ((stL_12 L xs 580 (by decide)).trans (ix_lk_app1 rfl)) ls st μ
theorem e_L_581 {L : Nat} {xs : Nat → Int32} (H : ix_Mo (tL_0 L xs)) (Q : ix_R → Prop) (ls : ix_L) (st : List ix_V) (μ : ix_M) : ix_Ev (tL_0 L xs) Q (581, ls, st, μ) = (ix_bin (fun x y => x + y) 582) (ix_Ev (tL_0 L xs) Q) Q ls st μ := ix_Ev.eqM H ((stL_12 L xs 581 (by decide)).trans (ix_lk_app1 rfl)) ls st μ
theorem e_L_582 {L : Nat} {xs : Nat → Int32} (H : ix_Mo (tL_0 L xs)) (Q : ix_R → Prop) (ls : ix_L) (st : List ix_V) (μ : ix_M) : ix_Ev (tL_0 L xs) Q (582, ls, st, μ) = (ix_xld L xs 583) (ix_Ev (tL_0 L xs) Q) Q ls st μ := ix_Ev.eqM H ((stL_12 L xs 582 (by decide)).trans (ix_lk_app1 rfl)) ls st μ
theorem e_L_583 {L : Nat} {xs : Nat → Int32} (H : ix_Mo (tL_0 L xs)) (Q : ix_R → Prop) (ls : ix_L) (st : List ix_V) (μ : ix_M) : ix_Ev (tL_0 L xs) Q (583, ls, st, μ) = (ix_aload 0 584) (ix_Ev (tL_0 L xs) Q) Q ls st μ := ix_Ev.eqM H ((stL_12 L xs 583 (by decide)).trans (ix_lk_app1 rfl)) ls st μ
theorem e_L_584 {L : Nat} {xs : Nat → Int32} (H : ix_Mo (tL_0 L xs)) (Q : ix_R → Prop) (ls : ix_L) (st : List ix_V) (μ : ix_M) : ix_Ev (tL_0 L xs) Q (584, ls, st, μ) = (ix_iload 3 585) (ix_Ev (tL_0 L xs) Q) Q ls st μ := ix_Ev.eqM H ((stL_12 L xs 584 (by decide)).trans (ix_lk_app1 rfl)) ls st μ
theorem e_L_585 {L : Nat} {xs : Nat → Int32} (H : ix_Mo (tL_0 L xs)) (Q : ix_R → Prop) (ls : ix_L) (st : List ix_V) (μ : ix_M) : ix_Ev (tL_0 L xs) Q (585, ls, st, μ) = (ix_push (vi 2) 586) (ix_Ev (tL_0 L xs) Q) Q ls st μ := ix_Ev.eqM H ((stL_12 L xs 585 (by decide)).trans (ix_lk_app1 rfl)) ls st μ
theorem e_L_586 {L : Nat} {xs : Nat → Int32} (H : ix_Mo (tL_0 L xs)) (Q : ix_R → Prop) (ls : ix_L) (st : List ix_V) (μ : ix_M) : ix_Ev (tL_0 L xs) Q (586, ls, st, μ) = (ix_bin (fun x y => x + y) 587) (ix_Ev (tL_0 L xs) Q) Q ls st μ := ix_Ev.eqM H ((stL_12 L xs 586 (by decide)).trans (ix_lk_app1 rfl)) ls st μ
theorem e_L_587 {L : Nat} {xs : Nat → Int32} (H : ix_Mo (tL_0 L xs)) (Q : ix_R → Prop) (ls : ix_L) (st : List ix_V) (μ : ix_M) : ix_Ev (tL_0 L xs) Q (587, ls, st, μ) = (ix_xld L xs 588) (ix_Ev (tL_0 L xs) Q) Q ls st μ := ix_Ev.eqM H ((stL_12 L xs 587 (by decide)).trans (ix_lk_app1 rfl)) ls st μ
theorem e_L_588 {L : Nat} {xs : Nat → Int32} (H : ix_Mo (tL_0 L xs)) (Q : ix_R → Prop) (ls : ix_L) (st : List ix_V) (μ : ix_M) : ix_Ev (tL_0 L xs) Q (588, ls, st, μ) = (oc_X10_as 591) (ix_Ev (tL_0 L xs) Q) Q ls st μ := ix_Ev.eqM H ((stL_12 L xs 588 (by decide)).trans (ix_lk_app1 rfl)) ls st μ
theorem e_L_591 {L : Nat} {xs : Nat → Int32} (H : ix_Mo (tL_0 L xs)) (Q : ix_R → Prop) (ls : ix_L) (st : List ix_V) (μ : ix_M) : ix_Ev (tL_0 L xs) Q (591, ls, st, μ) = (ix_aload 2 592) (ix_Ev (tL_0 L xs) Q) Q ls st μ := ix_Ev.eqM H ((stL_12 L xs 591 (by decide)).trans (ix_lk_app1 rfl)) ls st μ
theorem e_L_592 {L : Nat} {xs : Nat → Int32} (H : ix_Mo (tL_0 L xs)) (Q : ix_R → Prop) (ls : ix_L) (st : List ix_V) (μ : ix_M) : ix_Ev (tL_0 L xs) Q (592, ls, st, μ) = (ix_aload 0 593) (ix_Ev (tL_0 L xs) Q) Q ls st μ := ix_Ev.eqM H ((stL_12 L xs 592 (by decide)).trans (ix_lk_app1 rfl)) ls st μ
theorem e_L_593 {L : Nat} {xs : Nat → Int32} (H : ix_Mo (tL_0 L xs)) (Q : ix_R → Prop) (ls : ix_L) (st : List ix_V) (μ : ix_M) : ix_Ev (tL_0 L xs) Q (593, ls, st, μ) = (ix_iload 3 594) (ix_Ev (tL_0 L xs) Q) Q ls st μ := ix_Ev.eqM H ((stL_12 L xs 593 (by decide)).trans (ix_lk_app1 rfl)) ls st μ
theorem e_L_594 {L : Nat} {xs : Nat → Int32} (H : ix_Mo (tL_0 L xs)) (Q : ix_R → Prop) (ls : ix_L) (st : List ix_V) (μ : ix_M) : ix_Ev (tL_0 L xs) Q (594, ls, st, μ) = (ix_push (vi 1) 595) (ix_Ev (tL_0 L xs) Q) Q ls st μ := ix_Ev.eqM H ((stL_12 L xs 594 (by decide)).trans (ix_lk_app1 rfl)) ls st μ
theorem e_L_595 {L : Nat} {xs : Nat → Int32} (H : ix_Mo (tL_0 L xs)) (Q : ix_R → Prop) (ls : ix_L) (st : List ix_V) (μ : ix_M) : ix_Ev (tL_0 L xs) Q (595, ls, st, μ) = (ix_bin (fun x y => x + y) 596) (ix_Ev (tL_0 L xs) Q) Q ls st μ := ix_Ev.eqM H ((stL_12 L xs 595 (by decide)).trans (ix_lk_app1 rfl)) ls st μ
theorem e_L_596 {L : Nat} {xs : Nat → Int32} (H : ix_Mo (tL_0 L xs)) (Q : ix_R → Prop) (ls : ix_L) (st : List ix_V) (μ : ix_M) : ix_Ev (tL_0 L xs) Q (596, ls, st, μ) = (ix_xld L xs 597) (ix_Ev (tL_0 L xs) Q) Q ls st μ := ix_Ev.eqM H ((stL_12 L xs 596 (by decide)).trans (ix_lk_app1 rfl)) ls st μ
theorem e_L_597 {L : Nat} {xs : Nat → Int32} (H : ix_Mo (tL_0 L xs)) (Q : ix_R → Prop) (ls : ix_L) (st : List ix_V) (μ : ix_M) : ix_Ev (tL_0 L xs) Q (597, ls, st, μ) = (ix_aload 0 598) (ix_Ev (tL_0 L xs) Q) Q ls st μ := ix_Ev.eqM H ((stL_12 L xs 597 (by decide)).trans (ix_lk_app1 rfl)) ls st μ
theorem e_L_598 {L : Nat} {xs : Nat → Int32} (H : ix_Mo (tL_0 L xs)) (Q : ix_R → Prop) (ls : ix_L) (st : List ix_V) (μ : ix_M) : ix_Ev (tL_0 L xs) Q (598, ls, st, μ) = (ix_iload 3 599) (ix_Ev (tL_0 L xs) Q) Q ls st μ := ix_Ev.eqM H ((stL_12 L xs 598 (by decide)).trans (ix_lk_app1 rfl)) ls st μ
theorem e_L_599 {L : Nat} {xs : Nat → Int32} (H : ix_Mo (tL_0 L xs)) (Q : ix_R → Prop) (ls : ix_L) (st : List ix_V) (μ : ix_M) : ix_Ev (tL_0 L xs) Q (599, ls, st, μ) = (ix_push (vi 2) 600) (ix_Ev (tL_0 L xs) Q) Q ls st μ := ix_Ev.eqM H ((stL_12 L xs 599 (by decide)).trans (ix_lk_app1 rfl)) ls st μ
theorem e_L_600 {L : Nat} {xs : Nat → Int32} (H : ix_Mo (tL_0 L xs)) (Q : ix_R → Prop) (ls : ix_L) (st : List ix_V) (μ : ix_M) : ix_Ev (tL_0 L xs) Q (600, ls, st, μ) = (ix_bin (fun x y => x + y) 601) (ix_Ev (tL_0 L xs) Q) Q ls st μ := ix_Ev.eqM H ((stL_12 L xs 600 (by decide)).trans (ix_lk_app1 rfl)) ls st μ
theorem e_L_601 {L : Nat} {xs : Nat → Int32} (H : ix_Mo (tL_0 L xs)) (Q : ix_R → Prop) (ls : ix_L) (st : List ix_V) (μ : ix_M) : ix_Ev (tL_0 L xs) Q (601, ls, st, μ) = (ix_xld L xs 602) (ix_Ev (tL_0 L xs) Q) Q ls st μ := ix_Ev.eqM H ((stL_12 L xs 601 (by decide)).trans (ix_lk_app1 rfl)) ls st μ
theorem e_L_602 {L : Nat} {xs : Nat → Int32} (H : ix_Mo (tL_0 L xs)) (Q : ix_R → Prop) (ls : ix_L) (st : List ix_V) (μ : ix_M) : ix_Ev (tL_0 L xs) Q (602, ls, st, μ) = (oc_X11_as 605) (ix_Ev (tL_0 L xs) Q) Q ls st μ := ix_Ev.eqM H ((stL_12 L xs 602 (by decide)).trans (ix_lk_app1 rfl)) ls st μ
theorem e_L_605 {L : Nat} {xs : Nat → Int32} (H : ix_Mo (tL_0 L xs)) (Q : ix_R → Prop) (ls : ix_L) (st : List ix_V) (μ : ix_M) : ix_Ev (tL_0 L xs) Q (605, ls, st, μ) = (ix_cmp (fun x y => x = y) 1636 608) (ix_Ev (tL_0 L xs) Q) Q ls st μ := ix_Ev.eqM H ((stL_12 L xs 605 (by decide)).trans (ix_lk_app1 rfl)) ls st μ
theorem e_L_608 {L : Nat} {xs : Nat → Int32} (H : ix_Mo (tL_0 L xs)) (Q : ix_R → Prop) (ls : ix_L) (st : List ix_V) (μ : ix_M) : ix_Ev (tL_0 L xs) Q (608, ls, st, μ) = (ix_push (vi 0) 609) (ix_Ev (tL_0 L xs) Q) Q ls st μ := ix_Ev.eqM H ((stL_12 L xs 608 (by decide)).trans (ix_lk_app1 rfl)) ls st μ
theorem e_L_609 {L : Nat} {xs : Nat → Int32} (H : ix_Mo (tL_0 L xs)) (Q : ix_R → Prop) (ls : ix_L) (st : List ix_V) (μ : ix_M) : ix_Ev (tL_0 L xs) Q (609, ls, st, μ) = ix_zret (ix_Ev (tL_0 L xs) Q) Q ls st μ := ix_Ev.eqM H ((stL_12 L xs 609 (by decide)).trans (ix_lk_app1 rfl)) ls st μ
theorem e_L_610 {L : Nat} {xs : Nat → Int32} (H : ix_Mo (tL_0 L xs)) (Q : ix_R → Prop) (ls : ix_L) (st : List ix_V) (μ : ix_M) : ix_Ev (tL_0 L xs) Q (610, ls, st, μ) = (ix_aload 1 611) (ix_Ev (tL_0 L xs) Q) Q ls st μ := ix_Ev.eqM H ((stL_13 L xs 610 (by decide)).trans (ix_lk_app1 rfl)) ls st μ
theorem e_L_611 {L : Nat} {xs : Nat → Int32} (H : ix_Mo (tL_0 L xs)) (Q : ix_R → Prop) (ls : ix_L) (st : List ix_V) (μ : ix_M) : ix_Ev (tL_0 L xs) Q (611, ls, st, μ) = (ix_aload 0 612) (ix_Ev (tL_0 L xs) Q) Q ls st μ := ix_Ev.eqM H ((stL_13 L xs 611 (by decide)).trans (ix_lk_app1 rfl)) ls st μ
theorem e_L_612 {L : Nat} {xs : Nat → Int32} (H : ix_Mo (tL_0 L xs)) (Q : ix_R → Prop) (ls : ix_L) (st : List ix_V) (μ : ix_M) : ix_Ev (tL_0 L xs) Q (612, ls, st, μ) = (ix_iload 3 613) (ix_Ev (tL_0 L xs) Q) Q ls st μ := ix_Ev.eqM H ((stL_13 L xs 612 (by decide)).trans (ix_lk_app1 rfl)) ls st μ
theorem e_L_613 {L : Nat} {xs : Nat → Int32} (H : ix_Mo (tL_0 L xs)) (Q : ix_R → Prop) (ls : ix_L) (st : List ix_V) (μ : ix_M) : ix_Ev (tL_0 L xs) Q (613, ls, st, μ) = (ix_push (vi 1) 614) (ix_Ev (tL_0 L xs) Q) Q ls st μ := ix_Ev.eqM H ((stL_13 L xs 613 (by decide)).trans (ix_lk_app1 rfl)) ls st μ
theorem e_L_614 {L : Nat} {xs : Nat → Int32} (H : ix_Mo (tL_0 L xs)) (Q : ix_R → Prop) (ls : ix_L) (st : List ix_V) (μ : ix_M) : ix_Ev (tL_0 L xs) Q (614, ls, st, μ) = (ix_bin (fun x y => x + y) 615) (ix_Ev (tL_0 L xs) Q) Q ls st μ := ix_Ev.eqM H ((stL_13 L xs 614 (by decide)).trans (ix_lk_app1 rfl)) ls st μ
theorem e_L_615 {L : Nat} {xs : Nat → Int32} (H : ix_Mo (tL_0 L xs)) (Q : ix_R → Prop) (ls : ix_L) (st : List ix_V) (μ : ix_M) : ix_Ev (tL_0 L xs) Q (615, ls, st, μ) = (ix_xld L xs 616) (ix_Ev (tL_0 L xs) Q) Q ls st μ := ix_Ev.eqM H ((stL_13 L xs 615 (by decide)).trans (ix_lk_app1 rfl)) ls st μ
theorem e_L_616 {L : Nat} {xs : Nat → Int32} (H : ix_Mo (tL_0 L xs)) (Q : ix_R → Prop) (ls : ix_L) (st : List ix_V) (μ : ix_M) : ix_Ev (tL_0 L xs) Q (616, ls, st, μ) = (ix_i2l 617) (ix_Ev (tL_0 L xs) Q) Q ls st μ := ix_Ev.eqM H ((stL_13 L xs 616 (by decide)).trans (ix_lk_app1 rfl)) ls st μ
theorem e_L_617 {L : Nat} {xs : Nat → Int32} (H : ix_Mo (tL_0 L xs)) (Q : ix_R → Prop) (ls : ix_L) (st : List ix_V) (μ : ix_M) : ix_Ev (tL_0 L xs) Q (617, ls, st, μ) = (ix_push (vi 32) 619) (ix_Ev (tL_0 L xs) Q) Q ls st μ := ix_Ev.eqM H ((stL_13 L xs 617 (by decide)).trans (ix_lk_app1 rfl)) ls st μ
theorem e_L_619 {L : Nat} {xs : Nat → Int32} (H : ix_Mo (tL_0 L xs)) (Q : ix_R → Prop) (ls : ix_L) (st : List ix_V) (μ : ix_M) : ix_Ev (tL_0 L xs) Q (619, ls, st, μ) = (ix_lsh (fun x y => x <<< (y.toInt64 &&& 63)) 620) (ix_Ev (tL_0 L xs) Q) Q ls st μ := ix_Ev.eqM H ((stL_13 L xs 619 (by decide)).trans (ix_lk_app1 rfl)) ls st μ
theorem e_L_620 {L : Nat} {xs : Nat → Int32} (H : ix_Mo (tL_0 L xs)) (Q : ix_R → Prop) (ls : ix_L) (st : List ix_V) (μ : ix_M) : ix_Ev (tL_0 L xs) Q (620, ls, st, μ) = (ix_aload 0 621) (ix_Ev (tL_0 L xs) Q) Q ls st μ := ix_Ev.eqM H ((stL_13 L xs 620 (by decide)).trans (ix_lk_app1 rfl)) ls st μ
theorem e_L_621 {L : Nat} {xs : Nat → Int32} (H : ix_Mo (tL_0 L xs)) (Q : ix_R → Prop) (ls : ix_L) (st : List ix_V) (μ : ix_M) : ix_Ev (tL_0 L xs) Q (621, ls, st, μ) = (ix_iload 3 622) (ix_Ev (tL_0 L xs) Q) Q ls st μ := ix_Ev.eqM H ((stL_13 L xs 621 (by decide)).trans (ix_lk_app1 rfl)) ls st μ
theorem e_L_622 {L : Nat} {xs : Nat → Int32} (H : ix_Mo (tL_0 L xs)) (Q : ix_R → Prop) (ls : ix_L) (st : List ix_V) (μ : ix_M) : ix_Ev (tL_0 L xs) Q (622, ls, st, μ) = (ix_push (vi 2) 623) (ix_Ev (tL_0 L xs) Q) Q ls st μ := ix_Ev.eqM H ((stL_13 L xs 622 (by decide)).trans (ix_lk_app1 rfl)) ls st μ
theorem e_L_623 {L : Nat} {xs : Nat → Int32} (H : ix_Mo (tL_0 L xs)) (Q : ix_R → Prop) (ls : ix_L) (st : List ix_V) (μ : ix_M) : ix_Ev (tL_0 L xs) Q (623, ls, st, μ) = (ix_bin (fun x y => x + y) 624) (ix_Ev (tL_0 L xs) Q) Q ls st μ := ix_Ev.eqM H ((stL_13 L xs 623 (by decide)).trans (ix_lk_app1 rfl)) ls st μ
theorem e_L_624 {L : Nat} {xs : Nat → Int32} (H : ix_Mo (tL_0 L xs)) (Q : ix_R → Prop) (ls : ix_L) (st : List ix_V) (μ : ix_M) : ix_Ev (tL_0 L xs) Q (624, ls, st, μ) = (ix_xld L xs 625) (ix_Ev (tL_0 L xs) Q) Q ls st μ := ix_Ev.eqM H ((stL_13 L xs 624 (by decide)).trans (ix_lk_app1 rfl)) ls st μ
theorem e_L_625 {L : Nat} {xs : Nat → Int32} (H : ix_Mo (tL_0 L xs)) (Q : ix_R → Prop) (ls : ix_L) (st : List ix_V) (μ : ix_M) : ix_Ev (tL_0 L xs) Q (625, ls, st, μ) = (ix_i2l 626) (ix_Ev (tL_0 L xs) Q) Q ls st μ := ix_Ev.eqM H ((stL_13 L xs 625 (by decide)).trans (ix_lk_app1 rfl)) ls st μ
theorem e_L_626 {L : Nat} {xs : Nat → Int32} (H : ix_Mo (tL_0 L xs)) (Q : ix_R → Prop) (ls : ix_L) (st : List ix_V) (μ : ix_M) : ix_Ev (tL_0 L xs) Q (626, ls, st, μ) = (ix_push (vl 4294967295) 629) (ix_Ev (tL_0 L xs) Q) Q ls st μ := ix_Ev.eqM H ((stL_13 L xs 626 (by decide)).trans (ix_lk_app1 rfl)) ls st μ
theorem e_L_629 {L : Nat} {xs : Nat → Int32} (H : ix_Mo (tL_0 L xs)) (Q : ix_R → Prop) (ls : ix_L) (st : List ix_V) (μ : ix_M) : ix_Ev (tL_0 L xs) Q (629, ls, st, μ) = (ix_lbin (fun x y => x &&& y) 630) (ix_Ev (tL_0 L xs) Q) Q ls st μ := ix_Ev.eqM H ((stL_13 L xs 629 (by decide)).trans (ix_lk_app1 rfl)) ls st μ
theorem e_L_630 {L : Nat} {xs : Nat → Int32} (H : ix_Mo (tL_0 L xs)) (Q : ix_R → Prop) (ls : ix_L) (st : List ix_V) (μ : ix_M) : ix_Ev (tL_0 L xs) Q (630, ls, st, μ) = (ix_lbin (fun x y => x ||| y) 631) (ix_Ev (tL_0 L xs) Q) Q ls st μ := ix_Ev.eqM H ((stL_13 L xs 630 (by decide)).trans (ix_lk_app1 rfl)) ls st μ
theorem e_L_631 {L : Nat} {xs : Nat → Int32} (H : ix_Mo (tL_0 L xs)) (Q : ix_R → Prop) (ls : ix_L) (st : List ix_V) (μ : ix_M) : ix_Ev (tL_0 L xs) Q (631, ls, st, μ) = (ix_aload 0 632) (ix_Ev (tL_0 L xs) Q) Q ls st μ := ix_Ev.eqM H ((stL_13 L xs 631 (by decide)).trans (ix_lk_app1 rfl)) ls st μ
theorem e_L_632 {L : Nat} {xs : Nat → Int32} (H : ix_Mo (tL_0 L xs)) (Q : ix_R → Prop) (ls : ix_L) (st : List ix_V) (μ : ix_M) : ix_Ev (tL_0 L xs) Q (632, ls, st, μ) = (ix_iload 3 633) (ix_Ev (tL_0 L xs) Q) Q ls st μ := ix_Ev.eqM H ((stL_13 L xs 632 (by decide)).trans (ix_lk_app1 rfl)) ls st μ
theorem e_L_633 {L : Nat} {xs : Nat → Int32} (H : ix_Mo (tL_0 L xs)) (Q : ix_R → Prop) (ls : ix_L) (st : List ix_V) (μ : ix_M) : ix_Ev (tL_0 L xs) Q (633, ls, st, μ) = (ix_push (vi 3) 634) (ix_Ev (tL_0 L xs) Q) Q ls st μ := ix_Ev.eqM H ((stL_13 L xs 633 (by decide)).trans (ix_lk_app1 rfl)) ls st μ
theorem e_L_634 {L : Nat} {xs : Nat → Int32} (H : ix_Mo (tL_0 L xs)) (Q : ix_R → Prop) (ls : ix_L) (st : List ix_V) (μ : ix_M) : ix_Ev (tL_0 L xs) Q (634, ls, st, μ) = (ix_bin (fun x y => x + y) 635) (ix_Ev (tL_0 L xs) Q) Q ls st μ := ix_Ev.eqM H ((stL_13 L xs 634 (by decide)).trans (ix_lk_app1 rfl)) ls st μ
theorem e_L_635 {L : Nat} {xs : Nat → Int32} (H : ix_Mo (tL_0 L xs)) (Q : ix_R → Prop) (ls : ix_L) (st : List ix_V) (μ : ix_M) : ix_Ev (tL_0 L xs) Q (635, ls, st, μ) = (ix_xld L xs 636) (ix_Ev (tL_0 L xs) Q) Q ls st μ := ix_Ev.eqM H ((stL_13 L xs 635 (by decide)).trans (ix_lk_app1 rfl)) ls st μ
theorem e_L_636 {L : Nat} {xs : Nat → Int32} (H : ix_Mo (tL_0 L xs)) (Q : ix_R → Prop) (ls : ix_L) (st : List ix_V) (μ : ix_M) : ix_Ev (tL_0 L xs) Q (636, ls, st, μ) = (oc_X10_feed 639) (ix_Ev (tL_0 L xs) Q) Q ls st μ := ix_Ev.eqM H ((stL_13 L xs 636 (by decide)).trans (ix_lk_app1 rfl)) ls st μ
theorem e_L_639 {L : Nat} {xs : Nat → Int32} (H : ix_Mo (tL_0 L xs)) (Q : ix_R → Prop) (ls : ix_L) (st : List ix_V) (μ : ix_M) : ix_Ev (tL_0 L xs) Q (639, ls, st, μ) = (ix_aload 2 640) (ix_Ev (tL_0 L xs) Q) Q ls st μ := ix_Ev.eqM H ((stL_13 L xs 639 (by decide)).trans (ix_lk_app1 rfl)) ls st μ
theorem e_L_640 {L : Nat} {xs : Nat → Int32} (H : ix_Mo (tL_0 L xs)) (Q : ix_R → Prop) (ls : ix_L) (st : List ix_V) (μ : ix_M) : ix_Ev (tL_0 L xs) Q (640, ls, st, μ) = (ix_aload 0 641) (ix_Ev (tL_0 L xs) Q) Q ls st μ := ix_Ev.eqM H ((stL_13 L xs 640 (by decide)).trans (ix_lk_app1 rfl)) ls st μ
theorem e_L_641 {L : Nat} {xs : Nat → Int32} (H : ix_Mo (tL_0 L xs)) (Q : ix_R → Prop) (ls : ix_L) (st : List ix_V) (μ : ix_M) : ix_Ev (tL_0 L xs) Q (641, ls, st, μ) = (ix_iload 3 642) (ix_Ev (tL_0 L xs) Q) Q ls st μ := ix_Ev.eqM H ((stL_13 L xs 641 (by decide)).trans (ix_lk_app1 rfl)) ls st μ
theorem e_L_642 {L : Nat} {xs : Nat → Int32} (H : ix_Mo (tL_0 L xs)) (Q : ix_R → Prop) (ls : ix_L) (st : List ix_V) (μ : ix_M) : ix_Ev (tL_0 L xs) Q (642, ls, st, μ) = (ix_push (vi 1) 643) (ix_Ev (tL_0 L xs) Q) Q ls st μ := ix_Ev.eqM H ((stL_13 L xs 642 (by decide)).trans (ix_lk_app1 rfl)) ls st μ
theorem e_L_643 {L : Nat} {xs : Nat → Int32} (H : ix_Mo (tL_0 L xs)) (Q : ix_R → Prop) (ls : ix_L) (st : List ix_V) (μ : ix_M) : ix_Ev (tL_0 L xs) Q (643, ls, st, μ) = (ix_bin (fun x y => x + y) 644) (ix_Ev (tL_0 L xs) Q) Q ls st μ := ix_Ev.eqM H ((stL_13 L xs 643 (by decide)).trans (ix_lk_app1 rfl)) ls st μ
theorem e_L_644 {L : Nat} {xs : Nat → Int32} (H : ix_Mo (tL_0 L xs)) (Q : ix_R → Prop) (ls : ix_L) (st : List ix_V) (μ : ix_M) : ix_Ev (tL_0 L xs) Q (644, ls, st, μ) = (ix_xld L xs 645) (ix_Ev (tL_0 L xs) Q) Q ls st μ := ix_Ev.eqM H ((stL_13 L xs 644 (by decide)).trans (ix_lk_app1 rfl)) ls st μ
theorem e_L_645 {L : Nat} {xs : Nat → Int32} (H : ix_Mo (tL_0 L xs)) (Q : ix_R → Prop) (ls : ix_L) (st : List ix_V) (μ : ix_M) : ix_Ev (tL_0 L xs) Q (645, ls, st, μ) = (ix_i2l 646) (ix_Ev (tL_0 L xs) Q) Q ls st μ := ix_Ev.eqM H ((stL_13 L xs 645 (by decide)).trans (ix_lk_app1 rfl)) ls st μ
theorem e_L_646 {L : Nat} {xs : Nat → Int32} (H : ix_Mo (tL_0 L xs)) (Q : ix_R → Prop) (ls : ix_L) (st : List ix_V) (μ : ix_M) : ix_Ev (tL_0 L xs) Q (646, ls, st, μ) = (ix_push (vi 32) 648) (ix_Ev (tL_0 L xs) Q) Q ls st μ := ix_Ev.eqM H ((stL_13 L xs 646 (by decide)).trans (ix_lk_app1 rfl)) ls st μ
theorem e_L_648 {L : Nat} {xs : Nat → Int32} (H : ix_Mo (tL_0 L xs)) (Q : ix_R → Prop) (ls : ix_L) (st : List ix_V) (μ : ix_M) : ix_Ev (tL_0 L xs) Q (648, ls, st, μ) = (ix_lsh (fun x y => x <<< (y.toInt64 &&& 63)) 649) (ix_Ev (tL_0 L xs) Q) Q ls st μ := ix_Ev.eqM H ((stL_13 L xs 648 (by decide)).trans (ix_lk_app1 rfl)) ls st μ
theorem e_L_649 {L : Nat} {xs : Nat → Int32} (H : ix_Mo (tL_0 L xs)) (Q : ix_R → Prop) (ls : ix_L) (st : List ix_V) (μ : ix_M) : ix_Ev (tL_0 L xs) Q (649, ls, st, μ) = (ix_aload 0 650) (ix_Ev (tL_0 L xs) Q) Q ls st μ := ix_Ev.eqM H ((stL_13 L xs 649 (by decide)).trans (ix_lk_app1 rfl)) ls st μ
theorem e_L_650 {L : Nat} {xs : Nat → Int32} (H : ix_Mo (tL_0 L xs)) (Q : ix_R → Prop) (ls : ix_L) (st : List ix_V) (μ : ix_M) : ix_Ev (tL_0 L xs) Q (650, ls, st, μ) = (ix_iload 3 651) (ix_Ev (tL_0 L xs) Q) Q ls st μ := ix_Ev.eqM H ((stL_13 L xs 650 (by decide)).trans (ix_lk_app1 rfl)) ls st μ
theorem e_L_651 {L : Nat} {xs : Nat → Int32} (H : ix_Mo (tL_0 L xs)) (Q : ix_R → Prop) (ls : ix_L) (st : List ix_V) (μ : ix_M) : ix_Ev (tL_0 L xs) Q (651, ls, st, μ) = (ix_push (vi 2) 652) (ix_Ev (tL_0 L xs) Q) Q ls st μ := ix_Ev.eqM H ((stL_13 L xs 651 (by decide)).trans (ix_lk_app1 rfl)) ls st μ
theorem e_L_652 {L : Nat} {xs : Nat → Int32} (H : ix_Mo (tL_0 L xs)) (Q : ix_R → Prop) (ls : ix_L) (st : List ix_V) (μ : ix_M) : ix_Ev (tL_0 L xs) Q (652, ls, st, μ) = (ix_bin (fun x y => x + y) 653) (ix_Ev (tL_0 L xs) Q) Q ls st μ := ix_Ev.eqM H ((stL_13 L xs 652 (by decide)).trans (ix_lk_app1 rfl)) ls st μ
theorem e_L_653 {L : Nat} {xs : Nat → Int32} (H : ix_Mo (tL_0 L xs)) (Q : ix_R → Prop) (ls : ix_L) (st : List ix_V) (μ : ix_M) : ix_Ev (tL_0 L xs) Q (653, ls, st, μ) = (ix_xld L xs 654) (ix_Ev (tL_0 L xs) Q) Q ls st μ := ix_Ev.eqM H ((stL_13 L xs 653 (by decide)).trans (ix_lk_app1 rfl)) ls st μ
theorem e_L_654 {L : Nat} {xs : Nat → Int32} (H : ix_Mo (tL_0 L xs)) (Q : ix_R → Prop) (ls : ix_L) (st : List ix_V) (μ : ix_M) : ix_Ev (tL_0 L xs) Q (654, ls, st, μ) = (ix_i2l 655) (ix_Ev (tL_0 L xs) Q) Q ls st μ := ix_Ev.eqM H ((stL_13 L xs 654 (by decide)).trans (ix_lk_app1 rfl)) ls st μ
theorem e_L_655 {L : Nat} {xs : Nat → Int32} (H : ix_Mo (tL_0 L xs)) (Q : ix_R → Prop) (ls : ix_L) (st : List ix_V) (μ : ix_M) : ix_Ev (tL_0 L xs) Q (655, ls, st, μ) = (ix_push (vl 4294967295) 658) (ix_Ev (tL_0 L xs) Q) Q ls st μ := ix_Ev.eqM H ((stL_13 L xs 655 (by decide)).trans (ix_lk_app1 rfl)) ls st μ
theorem e_L_658 {L : Nat} {xs : Nat → Int32} (H : ix_Mo (tL_0 L xs)) (Q : ix_R → Prop) (ls : ix_L) (st : List ix_V) (μ : ix_M) : ix_Ev (tL_0 L xs) Q (658, ls, st, μ) = (ix_lbin (fun x y => x &&& y) 659) (ix_Ev (tL_0 L xs) Q) Q ls st μ := ix_Ev.eqM H ((stL_13 L xs 658 (by decide)).trans (ix_lk_app1 rfl)) ls st μ
theorem e_L_659 {L : Nat} {xs : Nat → Int32} (H : ix_Mo (tL_0 L xs)) (Q : ix_R → Prop) (ls : ix_L) (st : List ix_V) (μ : ix_M) : ix_Ev (tL_0 L xs) Q (659, ls, st, μ) = (ix_lbin (fun x y => x ||| y) 660) (ix_Ev (tL_0 L xs) Q) Q ls st μ := ix_Ev.eqM H ((stL_13 L xs 659 (by decide)).trans (ix_lk_app1 rfl)) ls st μ
theorem e_L_660 {L : Nat} {xs : Nat → Int32} (H : ix_Mo (tL_0 L xs)) (Q : ix_R → Prop) (ls : ix_L) (st : List ix_V) (μ : ix_M) : ix_Ev (tL_0 L xs) Q (660, ls, st, μ) = (ix_aload 0 661) (ix_Ev (tL_0 L xs) Q) Q ls st μ := ix_Ev.eqM H ((stL_13 L xs 660 (by decide)).trans (ix_lk_app1 rfl)) ls st μ
theorem e_L_661 {L : Nat} {xs : Nat → Int32} (H : ix_Mo (tL_0 L xs)) (Q : ix_R → Prop) (ls : ix_L) (st : List ix_V) (μ : ix_M) : ix_Ev (tL_0 L xs) Q (661, ls, st, μ) = (ix_iload 3 662) (ix_Ev (tL_0 L xs) Q) Q ls st μ := ix_Ev.eqM H ((stL_13 L xs 661 (by decide)).trans (ix_lk_app1 rfl)) ls st μ
theorem e_L_662 {L : Nat} {xs : Nat → Int32} (H : ix_Mo (tL_0 L xs)) (Q : ix_R → Prop) (ls : ix_L) (st : List ix_V) (μ : ix_M) : ix_Ev (tL_0 L xs) Q (662, ls, st, μ) = (ix_push (vi 3) 663) (ix_Ev (tL_0 L xs) Q) Q ls st μ := ix_Ev.eqM H ((stL_13 L xs 662 (by decide)).trans (ix_lk_app1 rfl)) ls st μ
theorem e_L_663 {L : Nat} {xs : Nat → Int32} (H : ix_Mo (tL_0 L xs)) (Q : ix_R → Prop) (ls : ix_L) (st : List ix_V) (μ : ix_M) : ix_Ev (tL_0 L xs) Q (663, ls, st, μ) = (ix_bin (fun x y => x + y) 664) (ix_Ev (tL_0 L xs) Q) Q ls st μ := ix_Ev.eqM H ((stL_13 L xs 663 (by decide)).trans (ix_lk_app1 rfl)) ls st μ
theorem e_L_664 {L : Nat} {xs : Nat → Int32} (H : ix_Mo (tL_0 L xs)) (Q : ix_R → Prop) (ls : ix_L) (st : List ix_V) (μ : ix_M) : ix_Ev (tL_0 L xs) Q (664, ls, st, μ) = (ix_xld L xs 665) (ix_Ev (tL_0 L xs) Q) Q ls st μ := ix_Ev.eqM H ((stL_13 L xs 664 (by decide)).trans (ix_lk_app1 rfl)) ls st μ
theorem e_L_665 {L : Nat} {xs : Nat → Int32} (H : ix_Mo (tL_0 L xs)) (Q : ix_R → Prop) (ls : ix_L) (st : List ix_V) (μ : ix_M) : ix_Ev (tL_0 L xs) Q (665, ls, st, μ) = (oc_X11_feed 668) (ix_Ev (tL_0 L xs) Q) Q ls st μ := ix_Ev.eqM H ((stL_13 L xs 665 (by decide)).trans (ix_lk_app1 rfl)) ls st μ
theorem e_L_668 {L : Nat} {xs : Nat → Int32} (H : ix_Mo (tL_0 L xs)) (Q : ix_R → Prop) (ls : ix_L) (st : List ix_V) (μ : ix_M) : ix_Ev (tL_0 L xs) Q (668, ls, st, μ) = (ix_cmp (fun x y => x = y) 1636 671) (ix_Ev (tL_0 L xs) Q) Q ls st μ := ix_Ev.eqM H ((stL_13 L xs 668 (by decide)).trans (ix_lk_app1 rfl)) ls st μ
theorem e_L_671 {L : Nat} {xs : Nat → Int32} (H : ix_Mo (tL_0 L xs)) (Q : ix_R → Prop) (ls : ix_L) (st : List ix_V) (μ : ix_M) : ix_Ev (tL_0 L xs) Q (671, ls, st, μ) = (ix_push (vi 0) 672) (ix_Ev (tL_0 L xs) Q) Q ls st μ := ix_Ev.eqM H ((stL_13 L xs 671 (by decide)).trans (ix_lk_app1 rfl)) ls st μ
theorem e_L_672 {L : Nat} {xs : Nat → Int32} (H : ix_Mo (tL_0 L xs)) (Q : ix_R → Prop) (ls : ix_L) (st : List ix_V) (μ : ix_M) : ix_Ev (tL_0 L xs) Q (672, ls, st, μ) = ix_zret (ix_Ev (tL_0 L xs) Q) Q ls st μ := ix_Ev.eqM H ((stL_13 L xs 672 (by decide)).trans (ix_lk_app1 rfl)) ls st μ
theorem e_L_673 {L : Nat} {xs : Nat → Int32} (H : ix_Mo (tL_0 L xs)) (Q : ix_R → Prop) (ls : ix_L) (st : List ix_V) (μ : ix_M) : ix_Ev (tL_0 L xs) Q (673, ls, st, μ) = (ix_aload 1 674) (ix_Ev (tL_0 L xs) Q) Q ls st μ := ix_Ev.eqM H ((stL_14 L xs 673 (by decide)).trans (ix_lk_app1 rfl)) ls st μ
theorem e_L_674 {L : Nat} {xs : Nat → Int32} (H : ix_Mo (tL_0 L xs)) (Q : ix_R → Prop) (ls : ix_L) (st : List ix_V) (μ : ix_M) : ix_Ev (tL_0 L xs) Q (674, ls, st, μ) = (ix_aload 0 675) (ix_Ev (tL_0 L xs) Q) Q ls st μ := ix_Ev.eqM H ((stL_14 L xs 674 (by decide)).trans (ix_lk_app1 rfl)) ls st μ
theorem e_L_675 {L : Nat} {xs : Nat → Int32} (H : ix_Mo (tL_0 L xs)) (Q : ix_R → Prop) (ls : ix_L) (st : List ix_V) (μ : ix_M) : ix_Ev (tL_0 L xs) Q (675, ls, st, μ) = (ix_iload 3 676) (ix_Ev (tL_0 L xs) Q) Q ls st μ := ix_Ev.eqM H ((stL_14 L xs 675 (by decide)).trans (ix_lk_app1 rfl)) ls st μ
theorem e_L_676 {L : Nat} {xs : Nat → Int32} (H : ix_Mo (tL_0 L xs)) (Q : ix_R → Prop) (ls : ix_L) (st : List ix_V) (μ : ix_M) : ix_Ev (tL_0 L xs) Q (676, ls, st, μ) = (ix_push (vi 1) 677) (ix_Ev (tL_0 L xs) Q) Q ls st μ := ix_Ev.eqM H ((stL_14 L xs 676 (by decide)).trans (ix_lk_app1 rfl)) ls st μ
theorem e_L_677 {L : Nat} {xs : Nat → Int32} (H : ix_Mo (tL_0 L xs)) (Q : ix_R → Prop) (ls : ix_L) (st : List ix_V) (μ : ix_M) : ix_Ev (tL_0 L xs) Q (677, ls, st, μ) = (ix_bin (fun x y => x + y) 678) (ix_Ev (tL_0 L xs) Q) Q ls st μ := ix_Ev.eqM H ((stL_14 L xs 677 (by decide)).trans (ix_lk_app1 rfl)) ls st μ
theorem e_L_678 {L : Nat} {xs : Nat → Int32} (H : ix_Mo (tL_0 L xs)) (Q : ix_R → Prop) (ls : ix_L) (st : List ix_V) (μ : ix_M) : ix_Ev (tL_0 L xs) Q (678, ls, st, μ) = (ix_xld L xs 679) (ix_Ev (tL_0 L xs) Q) Q ls st μ := ix_Ev.eqM H ((stL_14 L xs 678 (by decide)).trans (ix_lk_app1 rfl)) ls st μ
theorem e_L_679 {L : Nat} {xs : Nat → Int32} (H : ix_Mo (tL_0 L xs)) (Q : ix_R → Prop) (ls : ix_L) (st : List ix_V) (μ : ix_M) : ix_Ev (tL_0 L xs) Q (679, ls, st, μ) = (oc_X10_text 682) (ix_Ev (tL_0 L xs) Q) Q ls st μ := ix_Ev.eqM H ((stL_14 L xs 679 (by decide)).trans (ix_lk_app1 rfl)) ls st μ
theorem e_L_682 {L : Nat} {xs : Nat → Int32} (H : ix_Mo (tL_0 L xs)) (Q : ix_R → Prop) (ls : ix_L) (st : List ix_V) (μ : ix_M) : ix_Ev (tL_0 L xs) Q (682, ls, st, μ) = (ix_aload 2 683) (ix_Ev (tL_0 L xs) Q) Q ls st μ := ix_Ev.eqM H ((stL_14 L xs 682 (by decide)).trans (ix_lk_app1 rfl)) ls st μ
theorem e_L_683 {L : Nat} {xs : Nat → Int32} (H : ix_Mo (tL_0 L xs)) (Q : ix_R → Prop) (ls : ix_L) (st : List ix_V) (μ : ix_M) : ix_Ev (tL_0 L xs) Q (683, ls, st, μ) = (ix_aload 0 684) (ix_Ev (tL_0 L xs) Q) Q ls st μ := ix_Ev.eqM H ((stL_14 L xs 683 (by decide)).trans (ix_lk_app1 rfl)) ls st μ
theorem e_L_684 {L : Nat} {xs : Nat → Int32} (H : ix_Mo (tL_0 L xs)) (Q : ix_R → Prop) (ls : ix_L) (st : List ix_V) (μ : ix_M) : ix_Ev (tL_0 L xs) Q (684, ls, st, μ) = (ix_iload 3 685) (ix_Ev (tL_0 L xs) Q) Q ls st μ := ix_Ev.eqM H ((stL_14 L xs 684 (by decide)).trans (ix_lk_app1 rfl)) ls st μ
theorem e_L_685 {L : Nat} {xs : Nat → Int32} (H : ix_Mo (tL_0 L xs)) (Q : ix_R → Prop) (ls : ix_L) (st : List ix_V) (μ : ix_M) : ix_Ev (tL_0 L xs) Q (685, ls, st, μ) = (ix_push (vi 1) 686) (ix_Ev (tL_0 L xs) Q) Q ls st μ := ix_Ev.eqM H ((stL_14 L xs 685 (by decide)).trans (ix_lk_app1 rfl)) ls st μ
theorem e_L_686 {L : Nat} {xs : Nat → Int32} (H : ix_Mo (tL_0 L xs)) (Q : ix_R → Prop) (ls : ix_L) (st : List ix_V) (μ : ix_M) : ix_Ev (tL_0 L xs) Q (686, ls, st, μ) = (ix_bin (fun x y => x + y) 687) (ix_Ev (tL_0 L xs) Q) Q ls st μ := ix_Ev.eqM H ((stL_14 L xs 686 (by decide)).trans (ix_lk_app1 rfl)) ls st μ
theorem e_L_687 {L : Nat} {xs : Nat → Int32} (H : ix_Mo (tL_0 L xs)) (Q : ix_R → Prop) (ls : ix_L) (st : List ix_V) (μ : ix_M) : ix_Ev (tL_0 L xs) Q (687, ls, st, μ) = (ix_xld L xs 688) (ix_Ev (tL_0 L xs) Q) Q ls st μ := ix_Ev.eqM H ((stL_14 L xs 687 (by decide)).trans (ix_lk_app1 rfl)) ls st μ
theorem e_L_688 {L : Nat} {xs : Nat → Int32} (H : ix_Mo (tL_0 L xs)) (Q : ix_R → Prop) (ls : ix_L) (st : List ix_V) (μ : ix_M) : ix_Ev (tL_0 L xs) Q (688, ls, st, μ) = (oc_X11_text 691) (ix_Ev (tL_0 L xs) Q) Q ls st μ := ix_Ev.eqM H ((stL_14 L xs 688 (by decide)).trans (ix_lk_app1 rfl)) ls st μ
theorem e_L_691 {L : Nat} {xs : Nat → Int32} (H : ix_Mo (tL_0 L xs)) (Q : ix_R → Prop) (ls : ix_L) (st : List ix_V) (μ : ix_M) : ix_Ev (tL_0 L xs) Q (691, ls, st, μ) = (ix_cmp (fun x y => x = y) 1636 694) (ix_Ev (tL_0 L xs) Q) Q ls st μ := ix_Ev.eqM H ((stL_14 L xs 691 (by decide)).trans (ix_lk_app1 rfl)) ls st μ
theorem e_L_694 {L : Nat} {xs : Nat → Int32} (H : ix_Mo (tL_0 L xs)) (Q : ix_R → Prop) (ls : ix_L) (st : List ix_V) (μ : ix_M) : ix_Ev (tL_0 L xs) Q (694, ls, st, μ) = (ix_push (vi 0) 695) (ix_Ev (tL_0 L xs) Q) Q ls st μ := ix_Ev.eqM H ((stL_14 L xs 694 (by decide)).trans (ix_lk_app1 rfl)) ls st μ
theorem e_L_695 {L : Nat} {xs : Nat → Int32} (H : ix_Mo (tL_0 L xs)) (Q : ix_R → Prop) (ls : ix_L) (st : List ix_V) (μ : ix_M) : ix_Ev (tL_0 L xs) Q (695, ls, st, μ) = ix_zret (ix_Ev (tL_0 L xs) Q) Q ls st μ := ix_Ev.eqM H ((stL_14 L xs 695 (by decide)).trans (ix_lk_app1 rfl)) ls st μ
theorem e_L_696 {L : Nat} {xs : Nat → Int32} (H : ix_Mo (tL_0 L xs)) (Q : ix_R → Prop) (ls : ix_L) (st : List ix_V) (μ : ix_M) : ix_Ev (tL_0 L xs) Q (696, ls, st, μ) = (ix_aload 1 697) (ix_Ev (tL_0 L xs) Q) Q ls st μ := ix_Ev.eqM H ((stL_15 L xs 696 (by decide)).trans (ix_lk_app1 rfl)) ls st μ
theorem e_L_697 {L : Nat} {xs : Nat → Int32} (H : ix_Mo (tL_0 L xs)) (Q : ix_R → Prop) (ls : ix_L) (st : List ix_V) (μ : ix_M) : ix_Ev (tL_0 L xs) Q (697, ls, st, μ) = (ix_aload 0 698) (ix_Ev (tL_0 L xs) Q) Q ls st μ := ix_Ev.eqM H ((stL_15 L xs 697 (by decide)).trans (ix_lk_app1 rfl)) ls st μ
theorem e_L_698 {L : Nat} {xs : Nat → Int32} (H : ix_Mo (tL_0 L xs)) (Q : ix_R → Prop) (ls : ix_L) (st : List ix_V) (μ : ix_M) : ix_Ev (tL_0 L xs) Q (698, ls, st, μ) = (ix_iload 3 699) (ix_Ev (tL_0 L xs) Q) Q ls st μ := ix_Ev.eqM H ((stL_15 L xs 698 (by decide)).trans (ix_lk_app1 rfl)) ls st μ
theorem e_L_699 {L : Nat} {xs : Nat → Int32} (H : ix_Mo (tL_0 L xs)) (Q : ix_R → Prop) (ls : ix_L) (st : List ix_V) (μ : ix_M) : ix_Ev (tL_0 L xs) Q (699, ls, st, μ) = (ix_push (vi 1) 700) (ix_Ev (tL_0 L xs) Q) Q ls st μ := ix_Ev.eqM H ((stL_15 L xs 699 (by decide)).trans (ix_lk_app1 rfl)) ls st μ
theorem e_L_700 {L : Nat} {xs : Nat → Int32} (H : ix_Mo (tL_0 L xs)) (Q : ix_R → Prop) (ls : ix_L) (st : List ix_V) (μ : ix_M) : ix_Ev (tL_0 L xs) Q (700, ls, st, μ) = (ix_bin (fun x y => x + y) 701) (ix_Ev (tL_0 L xs) Q) Q ls st μ := ix_Ev.eqM H ((stL_15 L xs 700 (by decide)).trans (ix_lk_app1 rfl)) ls st μ
theorem e_L_701 {L : Nat} {xs : Nat → Int32} (H : ix_Mo (tL_0 L xs)) (Q : ix_R → Prop) (ls : ix_L) (st : List ix_V) (μ : ix_M) : ix_Ev (tL_0 L xs) Q (701, ls, st, μ) = (ix_xld L xs 702) (ix_Ev (tL_0 L xs) Q) Q ls st μ := ix_Ev.eqM H ((stL_15 L xs 701 (by decide)).trans (ix_lk_app1 rfl)) ls st μ
theorem e_L_702 {L : Nat} {xs : Nat → Int32} (H : ix_Mo (tL_0 L xs)) (Q : ix_R → Prop) (ls : ix_L) (st : List ix_V) (μ : ix_M) : ix_Ev (tL_0 L xs) Q (702, ls, st, μ) = (ix_aload 0 703) (ix_Ev (tL_0 L xs) Q) Q ls st μ := ix_Ev.eqM H ((stL_15 L xs 702 (by decide)).trans (ix_lk_app1 rfl)) ls st μ
theorem e_L_703 {L : Nat} {xs : Nat → Int32} (H : ix_Mo (tL_0 L xs)) (Q : ix_R → Prop) (ls : ix_L) (st : List ix_V) (μ : ix_M) : ix_Ev (tL_0 L xs) Q (703, ls, st, μ) = (ix_iload 3 704) (ix_Ev (tL_0 L xs) Q) Q ls st μ := ix_Ev.eqM H ((stL_15 L xs 703 (by decide)).trans (ix_lk_app1 rfl)) ls st μ
theorem e_L_704 {L : Nat} {xs : Nat → Int32} (H : ix_Mo (tL_0 L xs)) (Q : ix_R → Prop) (ls : ix_L) (st : List ix_V) (μ : ix_M) : ix_Ev (tL_0 L xs) Q (704, ls, st, μ) = (ix_push (vi 2) 705) (ix_Ev (tL_0 L xs) Q) Q ls st μ := ix_Ev.eqM H ((stL_15 L xs 704 (by decide)).trans (ix_lk_app1 rfl)) ls st μ
theorem e_L_705 {L : Nat} {xs : Nat → Int32} (H : ix_Mo (tL_0 L xs)) (Q : ix_R → Prop) (ls : ix_L) (st : List ix_V) (μ : ix_M) : ix_Ev (tL_0 L xs) Q (705, ls, st, μ) = (ix_bin (fun x y => x + y) 706) (ix_Ev (tL_0 L xs) Q) Q ls st μ := ix_Ev.eqM H ((stL_15 L xs 705 (by decide)).trans (ix_lk_app1 rfl)) ls st μ
theorem e_L_706 {L : Nat} {xs : Nat → Int32} (H : ix_Mo (tL_0 L xs)) (Q : ix_R → Prop) (ls : ix_L) (st : List ix_V) (μ : ix_M) : ix_Ev (tL_0 L xs) Q (706, ls, st, μ) = (ix_xld L xs 707) (ix_Ev (tL_0 L xs) Q) Q ls st μ := ix_Ev.eqM H ((stL_15 L xs 706 (by decide)).trans (ix_lk_app1 rfl)) ls st μ
theorem e_L_707 {L : Nat} {xs : Nat → Int32} (H : ix_Mo (tL_0 L xs)) (Q : ix_R → Prop) (ls : ix_L) (st : List ix_V) (μ : ix_M) : ix_Ev (tL_0 L xs) Q (707, ls, st, μ) = (ix_aload 0 708) (ix_Ev (tL_0 L xs) Q) Q ls st μ := ix_Ev.eqM H ((stL_15 L xs 707 (by decide)).trans (ix_lk_app1 rfl)) ls st μ
theorem e_L_708 {L : Nat} {xs : Nat → Int32} (H : ix_Mo (tL_0 L xs)) (Q : ix_R → Prop) (ls : ix_L) (st : List ix_V) (μ : ix_M) : ix_Ev (tL_0 L xs) Q (708, ls, st, μ) = (ix_iload 3 709) (ix_Ev (tL_0 L xs) Q) Q ls st μ := ix_Ev.eqM H ((stL_15 L xs 708 (by decide)).trans (ix_lk_app1 rfl)) ls st μ
theorem e_L_709 {L : Nat} {xs : Nat → Int32} (H : ix_Mo (tL_0 L xs)) (Q : ix_R → Prop) (ls : ix_L) (st : List ix_V) (μ : ix_M) : ix_Ev (tL_0 L xs) Q (709, ls, st, μ) = (ix_push (vi 3) 710) (ix_Ev (tL_0 L xs) Q) Q ls st μ := ix_Ev.eqM H ((stL_15 L xs 709 (by decide)).trans (ix_lk_app1 rfl)) ls st μ
theorem e_L_710 {L : Nat} {xs : Nat → Int32} (H : ix_Mo (tL_0 L xs)) (Q : ix_R → Prop) (ls : ix_L) (st : List ix_V) (μ : ix_M) : ix_Ev (tL_0 L xs) Q (710, ls, st, μ) = (ix_bin (fun x y => x + y) 711) (ix_Ev (tL_0 L xs) Q) Q ls st μ := ix_Ev.eqM H ((stL_15 L xs 710 (by decide)).trans (ix_lk_app1 rfl)) ls st μ
theorem e_L_711 {L : Nat} {xs : Nat → Int32} (H : ix_Mo (tL_0 L xs)) (Q : ix_R → Prop) (ls : ix_L) (st : List ix_V) (μ : ix_M) : ix_Ev (tL_0 L xs) Q (711, ls, st, μ) = (ix_xld L xs 712) (ix_Ev (tL_0 L xs) Q) Q ls st μ := ix_Ev.eqM H ((stL_15 L xs 711 (by decide)).trans (ix_lk_app1 rfl)) ls st μ
theorem e_L_712 {L : Nat} {xs : Nat → Int32} (H : ix_Mo (tL_0 L xs)) (Q : ix_R → Prop) (ls : ix_L) (st : List ix_V) (μ : ix_M) : ix_Ev (tL_0 L xs) Q (712, ls, st, μ) = (ix_aload 0 713) (ix_Ev (tL_0 L xs) Q) Q ls st μ := ix_Ev.eqM H ((stL_15 L xs 712 (by decide)).trans (ix_lk_app1 rfl)) ls st μ
theorem e_L_713 {L : Nat} {xs : Nat → Int32} (H : ix_Mo (tL_0 L xs)) (Q : ix_R → Prop) (ls : ix_L) (st : List ix_V) (μ : ix_M) : ix_Ev (tL_0 L xs) Q (713, ls, st, μ) = (ix_iload 3 714) (ix_Ev (tL_0 L xs) Q) Q ls st μ := ix_Ev.eqM H ((stL_15 L xs 713 (by decide)).trans (ix_lk_app1 rfl)) ls st μ
theorem e_L_714 {L : Nat} {xs : Nat → Int32} (H : ix_Mo (tL_0 L xs)) (Q : ix_R → Prop) (ls : ix_L) (st : List ix_V) (μ : ix_M) : ix_Ev (tL_0 L xs) Q (714, ls, st, μ) = (ix_push (vi 4) 715) (ix_Ev (tL_0 L xs) Q) Q ls st μ := ix_Ev.eqM H ((stL_15 L xs 714 (by decide)).trans (ix_lk_app1 rfl)) ls st μ
theorem e_L_715 {L : Nat} {xs : Nat → Int32} (H : ix_Mo (tL_0 L xs)) (Q : ix_R → Prop) (ls : ix_L) (st : List ix_V) (μ : ix_M) : ix_Ev (tL_0 L xs) Q (715, ls, st, μ) = (ix_bin (fun x y => x + y) 716) (ix_Ev (tL_0 L xs) Q) Q ls st μ := ix_Ev.eqM H ((stL_15 L xs 715 (by decide)).trans (ix_lk_app1 rfl)) ls st μ
theorem e_L_716 {L : Nat} {xs : Nat → Int32} (H : ix_Mo (tL_0 L xs)) (Q : ix_R → Prop) (ls : ix_L) (st : List ix_V) (μ : ix_M) : ix_Ev (tL_0 L xs) Q (716, ls, st, μ) = (ix_xld L xs 717) (ix_Ev (tL_0 L xs) Q) Q ls st μ := ix_Ev.eqM H ((stL_15 L xs 716 (by decide)).trans (ix_lk_app1 rfl)) ls st μ
theorem e_L_717 {L : Nat} {xs : Nat → Int32} (H : ix_Mo (tL_0 L xs)) (Q : ix_R → Prop) (ls : ix_L) (st : List ix_V) (μ : ix_M) : ix_Ev (tL_0 L xs) Q (717, ls, st, μ) = (oc_X10_law 720) (ix_Ev (tL_0 L xs) Q) Q ls st μ := ix_Ev.eqM H ((stL_15 L xs 717 (by decide)).trans (ix_lk_app1 rfl)) ls st μ
theorem e_L_720 {L : Nat} {xs : Nat → Int32} (H : ix_Mo (tL_0 L xs)) (Q : ix_R → Prop) (ls : ix_L) (st : List ix_V) (μ : ix_M) : ix_Ev (tL_0 L xs) Q (720, ls, st, μ) = (ix_aload 2 721) (ix_Ev (tL_0 L xs) Q) Q ls st μ := ix_Ev.eqM H ((stL_15 L xs 720 (by decide)).trans (ix_lk_app1 rfl)) ls st μ
theorem e_L_721 {L : Nat} {xs : Nat → Int32} (H : ix_Mo (tL_0 L xs)) (Q : ix_R → Prop) (ls : ix_L) (st : List ix_V) (μ : ix_M) : ix_Ev (tL_0 L xs) Q (721, ls, st, μ) = (ix_aload 0 722) (ix_Ev (tL_0 L xs) Q) Q ls st μ := ix_Ev.eqM H ((stL_15 L xs 721 (by decide)).trans (ix_lk_app1 rfl)) ls st μ
theorem e_L_722 {L : Nat} {xs : Nat → Int32} (H : ix_Mo (tL_0 L xs)) (Q : ix_R → Prop) (ls : ix_L) (st : List ix_V) (μ : ix_M) : ix_Ev (tL_0 L xs) Q (722, ls, st, μ) = (ix_iload 3 723) (ix_Ev (tL_0 L xs) Q) Q ls st μ := ix_Ev.eqM H ((stL_15 L xs 722 (by decide)).trans (ix_lk_app1 rfl)) ls st μ
theorem e_L_723 {L : Nat} {xs : Nat → Int32} (H : ix_Mo (tL_0 L xs)) (Q : ix_R → Prop) (ls : ix_L) (st : List ix_V) (μ : ix_M) : ix_Ev (tL_0 L xs) Q (723, ls, st, μ) = (ix_push (vi 1) 724) (ix_Ev (tL_0 L xs) Q) Q ls st μ := ix_Ev.eqM H ((stL_15 L xs 723 (by decide)).trans (ix_lk_app1 rfl)) ls st μ
theorem e_L_724 {L : Nat} {xs : Nat → Int32} (H : ix_Mo (tL_0 L xs)) (Q : ix_R → Prop) (ls : ix_L) (st : List ix_V) (μ : ix_M) : ix_Ev (tL_0 L xs) Q (724, ls, st, μ) = (ix_bin (fun x y => x + y) 725) (ix_Ev (tL_0 L xs) Q) Q ls st μ := ix_Ev.eqM H ((stL_15 L xs 724 (by decide)).trans (ix_lk_app1 rfl)) ls st μ
theorem e_L_725 {L : Nat} {xs : Nat → Int32} (H : ix_Mo (tL_0 L xs)) (Q : ix_R → Prop) (ls : ix_L) (st : List ix_V) (μ : ix_M) : ix_Ev (tL_0 L xs) Q (725, ls, st, μ) = (ix_xld L xs 726) (ix_Ev (tL_0 L xs) Q) Q ls st μ := ix_Ev.eqM H ((stL_15 L xs 725 (by decide)).trans (ix_lk_app1 rfl)) ls st μ
theorem e_L_726 {L : Nat} {xs : Nat → Int32} (H : ix_Mo (tL_0 L xs)) (Q : ix_R → Prop) (ls : ix_L) (st : List ix_V) (μ : ix_M) : ix_Ev (tL_0 L xs) Q (726, ls, st, μ) = (ix_aload 0 727) (ix_Ev (tL_0 L xs) Q) Q ls st μ := ix_Ev.eqM H ((stL_15 L xs 726 (by decide)).trans (ix_lk_app1 rfl)) ls st μ
theorem e_L_727 {L : Nat} {xs : Nat → Int32} (H : ix_Mo (tL_0 L xs)) (Q : ix_R → Prop) (ls : ix_L) (st : List ix_V) (μ : ix_M) : ix_Ev (tL_0 L xs) Q (727, ls, st, μ) = (ix_iload 3 728) (ix_Ev (tL_0 L xs) Q) Q ls st μ := ix_Ev.eqM H ((stL_15 L xs 727 (by decide)).trans (ix_lk_app1 rfl)) ls st μ
theorem e_L_728 {L : Nat} {xs : Nat → Int32} (H : ix_Mo (tL_0 L xs)) (Q : ix_R → Prop) (ls : ix_L) (st : List ix_V) (μ : ix_M) : ix_Ev (tL_0 L xs) Q (728, ls, st, μ) = (ix_push (vi 2) 729) (ix_Ev (tL_0 L xs) Q) Q ls st μ := ix_Ev.eqM H ((stL_15 L xs 728 (by decide)).trans (ix_lk_app1 rfl)) ls st μ
theorem e_L_729 {L : Nat} {xs : Nat → Int32} (H : ix_Mo (tL_0 L xs)) (Q : ix_R → Prop) (ls : ix_L) (st : List ix_V) (μ : ix_M) : ix_Ev (tL_0 L xs) Q (729, ls, st, μ) = (ix_bin (fun x y => x + y) 730) (ix_Ev (tL_0 L xs) Q) Q ls st μ := ix_Ev.eqM H ((stL_15 L xs 729 (by decide)).trans (ix_lk_app1 rfl)) ls st μ
theorem e_L_730 {L : Nat} {xs : Nat → Int32} (H : ix_Mo (tL_0 L xs)) (Q : ix_R → Prop) (ls : ix_L) (st : List ix_V) (μ : ix_M) : ix_Ev (tL_0 L xs) Q (730, ls, st, μ) = (ix_xld L xs 731) (ix_Ev (tL_0 L xs) Q) Q ls st μ := ix_Ev.eqM H ((stL_15 L xs 730 (by decide)).trans (ix_lk_app1 rfl)) ls st μ
theorem e_L_731 {L : Nat} {xs : Nat → Int32} (H : ix_Mo (tL_0 L xs)) (Q : ix_R → Prop) (ls : ix_L) (st : List ix_V) (μ : ix_M) : ix_Ev (tL_0 L xs) Q (731, ls, st, μ) = (ix_aload 0 732) (ix_Ev (tL_0 L xs) Q) Q ls st μ := ix_Ev.eqM H ((stL_15 L xs 731 (by decide)).trans (ix_lk_app1 rfl)) ls st μ
theorem e_L_732 {L : Nat} {xs : Nat → Int32} (H : ix_Mo (tL_0 L xs)) (Q : ix_R → Prop) (ls : ix_L) (st : List ix_V) (μ : ix_M) : ix_Ev (tL_0 L xs) Q (732, ls, st, μ) = (ix_iload 3 733) (ix_Ev (tL_0 L xs) Q) Q ls st μ := ix_Ev.eqM H ((stL_15 L xs 732 (by decide)).trans (ix_lk_app1 rfl)) ls st μ
theorem e_L_733 {L : Nat} {xs : Nat → Int32} (H : ix_Mo (tL_0 L xs)) (Q : ix_R → Prop) (ls : ix_L) (st : List ix_V) (μ : ix_M) : ix_Ev (tL_0 L xs) Q (733, ls, st, μ) = (ix_push (vi 3) 734) (ix_Ev (tL_0 L xs) Q) Q ls st μ := ix_Ev.eqM H ((stL_15 L xs 733 (by decide)).trans (ix_lk_app1 rfl)) ls st μ
theorem e_L_734 {L : Nat} {xs : Nat → Int32} (H : ix_Mo (tL_0 L xs)) (Q : ix_R → Prop) (ls : ix_L) (st : List ix_V) (μ : ix_M) : ix_Ev (tL_0 L xs) Q (734, ls, st, μ) = (ix_bin (fun x y => x + y) 735) (ix_Ev (tL_0 L xs) Q) Q ls st μ := ix_Ev.eqM H ((stL_15 L xs 734 (by decide)).trans (ix_lk_app1 rfl)) ls st μ
theorem e_L_735 {L : Nat} {xs : Nat → Int32} (H : ix_Mo (tL_0 L xs)) (Q : ix_R → Prop) (ls : ix_L) (st : List ix_V) (μ : ix_M) : ix_Ev (tL_0 L xs) Q (735, ls, st, μ) = (ix_xld L xs 736) (ix_Ev (tL_0 L xs) Q) Q ls st μ := ix_Ev.eqM H ((stL_15 L xs 735 (by decide)).trans (ix_lk_app1 rfl)) ls st μ
theorem e_L_736 {L : Nat} {xs : Nat → Int32} (H : ix_Mo (tL_0 L xs)) (Q : ix_R → Prop) (ls : ix_L) (st : List ix_V) (μ : ix_M) : ix_Ev (tL_0 L xs) Q (736, ls, st, μ) = (ix_aload 0 737) (ix_Ev (tL_0 L xs) Q) Q ls st μ := ix_Ev.eqM H ((stL_15 L xs 736 (by decide)).trans (ix_lk_app1 rfl)) ls st μ
theorem e_L_737 {L : Nat} {xs : Nat → Int32} (H : ix_Mo (tL_0 L xs)) (Q : ix_R → Prop) (ls : ix_L) (st : List ix_V) (μ : ix_M) : ix_Ev (tL_0 L xs) Q (737, ls, st, μ) = (ix_iload 3 738) (ix_Ev (tL_0 L xs) Q) Q ls st μ := ix_Ev.eqM H ((stL_15 L xs 737 (by decide)).trans (ix_lk_app1 rfl)) ls st μ
theorem e_L_738 {L : Nat} {xs : Nat → Int32} (H : ix_Mo (tL_0 L xs)) (Q : ix_R → Prop) (ls : ix_L) (st : List ix_V) (μ : ix_M) : ix_Ev (tL_0 L xs) Q (738, ls, st, μ) = (ix_push (vi 4) 739) (ix_Ev (tL_0 L xs) Q) Q ls st μ := ix_Ev.eqM H ((stL_15 L xs 738 (by decide)).trans (ix_lk_app1 rfl)) ls st μ
theorem e_L_739 {L : Nat} {xs : Nat → Int32} (H : ix_Mo (tL_0 L xs)) (Q : ix_R → Prop) (ls : ix_L) (st : List ix_V) (μ : ix_M) : ix_Ev (tL_0 L xs) Q (739, ls, st, μ) = (ix_bin (fun x y => x + y) 740) (ix_Ev (tL_0 L xs) Q) Q ls st μ := ix_Ev.eqM H ((stL_15 L xs 739 (by decide)).trans (ix_lk_app1 rfl)) ls st μ
theorem e_L_740 {L : Nat} {xs : Nat → Int32} (H : ix_Mo (tL_0 L xs)) (Q : ix_R → Prop) (ls : ix_L) (st : List ix_V) (μ : ix_M) : ix_Ev (tL_0 L xs) Q (740, ls, st, μ) = (ix_xld L xs 741) (ix_Ev (tL_0 L xs) Q) Q ls st μ := ix_Ev.eqM H ((stL_15 L xs 740 (by decide)).trans (ix_lk_app1 rfl)) ls st μ
theorem e_L_741 {L : Nat} {xs : Nat → Int32} (H : ix_Mo (tL_0 L xs)) (Q : ix_R → Prop) (ls : ix_L) (st : List ix_V) (μ : ix_M) : ix_Ev (tL_0 L xs) Q (741, ls, st, μ) = (oc_X11_law 744) (ix_Ev (tL_0 L xs) Q) Q ls st μ := ix_Ev.eqM H ((stL_15 L xs 741 (by decide)).trans (ix_lk_app1 rfl)) ls st μ
theorem e_L_744 {L : Nat} {xs : Nat → Int32} (H : ix_Mo (tL_0 L xs)) (Q : ix_R → Prop) (ls : ix_L) (st : List ix_V) (μ : ix_M) : ix_Ev (tL_0 L xs) Q (744, ls, st, μ) = (ix_cmp (fun x y => x = y) 1636 747) (ix_Ev (tL_0 L xs) Q) Q ls st μ := ix_Ev.eqM H ((stL_15 L xs 744 (by decide)).trans (ix_lk_app1 rfl)) ls st μ
theorem e_L_747 {L : Nat} {xs : Nat → Int32} (H : ix_Mo (tL_0 L xs)) (Q : ix_R → Prop) (ls : ix_L) (st : List ix_V) (μ : ix_M) : ix_Ev (tL_0 L xs) Q (747, ls, st, μ) = (ix_push (vi 0) 748) (ix_Ev (tL_0 L xs) Q) Q ls st μ := ix_Ev.eqM H ((stL_15 L xs 747 (by decide)).trans (ix_lk_app1 rfl)) ls st μ
theorem e_L_748 {L : Nat} {xs : Nat → Int32} (H : ix_Mo (tL_0 L xs)) (Q : ix_R → Prop) (ls : ix_L) (st : List ix_V) (μ : ix_M) : ix_Ev (tL_0 L xs) Q (748, ls, st, μ) = ix_zret (ix_Ev (tL_0 L xs) Q) Q ls st μ := ix_Ev.eqM H ((stL_15 L xs 748 (by decide)).trans (ix_lk_app1 rfl)) ls st μ
theorem e_L_749 {L : Nat} {xs : Nat → Int32} (H : ix_Mo (tL_0 L xs)) (Q : ix_R → Prop) (ls : ix_L) (st : List ix_V) (μ : ix_M) : ix_Ev (tL_0 L xs) Q (749, ls, st, μ) = (ix_aload 1 750) (ix_Ev (tL_0 L xs) Q) Q ls st μ := ix_Ev.eqM H ((stL_16 L xs 749 (by decide)).trans (ix_lk_app1 rfl)) ls st μ
theorem e_L_750 {L : Nat} {xs : Nat → Int32} (H : ix_Mo (tL_0 L xs)) (Q : ix_R → Prop) (ls : ix_L) (st : List ix_V) (μ : ix_M) : ix_Ev (tL_0 L xs) Q (750, ls, st, μ) = (ix_aload 0 751) (ix_Ev (tL_0 L xs) Q) Q ls st μ := ix_Ev.eqM H ((stL_16 L xs 750 (by decide)).trans (ix_lk_app1 rfl)) ls st μ
theorem e_L_751 {L : Nat} {xs : Nat → Int32} (H : ix_Mo (tL_0 L xs)) (Q : ix_R → Prop) (ls : ix_L) (st : List ix_V) (μ : ix_M) : ix_Ev (tL_0 L xs) Q (751, ls, st, μ) = (ix_iload 3 752) (ix_Ev (tL_0 L xs) Q) Q ls st μ := ix_Ev.eqM H ((stL_16 L xs 751 (by decide)).trans (ix_lk_app1 rfl)) ls st μ
theorem e_L_752 {L : Nat} {xs : Nat → Int32} (H : ix_Mo (tL_0 L xs)) (Q : ix_R → Prop) (ls : ix_L) (st : List ix_V) (μ : ix_M) : ix_Ev (tL_0 L xs) Q (752, ls, st, μ) = (ix_push (vi 1) 753) (ix_Ev (tL_0 L xs) Q) Q ls st μ := ix_Ev.eqM H ((stL_16 L xs 752 (by decide)).trans (ix_lk_app1 rfl)) ls st μ
theorem e_L_753 {L : Nat} {xs : Nat → Int32} (H : ix_Mo (tL_0 L xs)) (Q : ix_R → Prop) (ls : ix_L) (st : List ix_V) (μ : ix_M) : ix_Ev (tL_0 L xs) Q (753, ls, st, μ) = (ix_bin (fun x y => x + y) 754) (ix_Ev (tL_0 L xs) Q) Q ls st μ := ix_Ev.eqM H ((stL_16 L xs 753 (by decide)).trans (ix_lk_app1 rfl)) ls st μ
theorem e_L_754 {L : Nat} {xs : Nat → Int32} (H : ix_Mo (tL_0 L xs)) (Q : ix_R → Prop) (ls : ix_L) (st : List ix_V) (μ : ix_M) : ix_Ev (tL_0 L xs) Q (754, ls, st, μ) = (ix_xld L xs 755) (ix_Ev (tL_0 L xs) Q) Q ls st μ := ix_Ev.eqM H ((stL_16 L xs 754 (by decide)).trans (ix_lk_app1 rfl)) ls st μ
theorem e_L_755 {L : Nat} {xs : Nat → Int32} (H : ix_Mo (tL_0 L xs)) (Q : ix_R → Prop) (ls : ix_L) (st : List ix_V) (μ : ix_M) : ix_Ev (tL_0 L xs) Q (755, ls, st, μ) = (oc_X10_minutes 758) (ix_Ev (tL_0 L xs) Q) Q ls st μ := ix_Ev.eqM H ((stL_16 L xs 755 (by decide)).trans (ix_lk_app1 rfl)) ls st μ
theorem e_L_758 {L : Nat} {xs : Nat → Int32} (H : ix_Mo (tL_0 L xs)) (Q : ix_R → Prop) (ls : ix_L) (st : List ix_V) (μ : ix_M) : ix_Ev (tL_0 L xs) Q (758, ls, st, μ) = (ix_aload 2 759) (ix_Ev (tL_0 L xs) Q) Q ls st μ := ix_Ev.eqM H ((stL_16 L xs 758 (by decide)).trans (ix_lk_app1 rfl)) ls st μ
theorem e_L_759 {L : Nat} {xs : Nat → Int32} (H : ix_Mo (tL_0 L xs)) (Q : ix_R → Prop) (ls : ix_L) (st : List ix_V) (μ : ix_M) : ix_Ev (tL_0 L xs) Q (759, ls, st, μ) = (ix_aload 0 760) (ix_Ev (tL_0 L xs) Q) Q ls st μ := ix_Ev.eqM H ((stL_16 L xs 759 (by decide)).trans (ix_lk_app1 rfl)) ls st μ
theorem e_L_760 {L : Nat} {xs : Nat → Int32} (H : ix_Mo (tL_0 L xs)) (Q : ix_R → Prop) (ls : ix_L) (st : List ix_V) (μ : ix_M) : ix_Ev (tL_0 L xs) Q (760, ls, st, μ) = (ix_iload 3 761) (ix_Ev (tL_0 L xs) Q) Q ls st μ := ix_Ev.eqM H ((stL_16 L xs 760 (by decide)).trans (ix_lk_app1 rfl)) ls st μ
theorem e_L_761 {L : Nat} {xs : Nat → Int32} (H : ix_Mo (tL_0 L xs)) (Q : ix_R → Prop) (ls : ix_L) (st : List ix_V) (μ : ix_M) : ix_Ev (tL_0 L xs) Q (761, ls, st, μ) = (ix_push (vi 1) 762) (ix_Ev (tL_0 L xs) Q) Q ls st μ := ix_Ev.eqM H ((stL_16 L xs 761 (by decide)).trans (ix_lk_app1 rfl)) ls st μ
theorem e_L_762 {L : Nat} {xs : Nat → Int32} (H : ix_Mo (tL_0 L xs)) (Q : ix_R → Prop) (ls : ix_L) (st : List ix_V) (μ : ix_M) : ix_Ev (tL_0 L xs) Q (762, ls, st, μ) = (ix_bin (fun x y => x + y) 763) (ix_Ev (tL_0 L xs) Q) Q ls st μ := ix_Ev.eqM H ((stL_16 L xs 762 (by decide)).trans (ix_lk_app1 rfl)) ls st μ
theorem e_L_763 {L : Nat} {xs : Nat → Int32} (H : ix_Mo (tL_0 L xs)) (Q : ix_R → Prop) (ls : ix_L) (st : List ix_V) (μ : ix_M) : ix_Ev (tL_0 L xs) Q (763, ls, st, μ) = (ix_xld L xs 764) (ix_Ev (tL_0 L xs) Q) Q ls st μ := ix_Ev.eqM H ((stL_16 L xs 763 (by decide)).trans (ix_lk_app1 rfl)) ls st μ
theorem e_L_764 {L : Nat} {xs : Nat → Int32} (H : ix_Mo (tL_0 L xs)) (Q : ix_R → Prop) (ls : ix_L) (st : List ix_V) (μ : ix_M) : ix_Ev (tL_0 L xs) Q (764, ls, st, μ) = (oc_X11_minutes 767) (ix_Ev (tL_0 L xs) Q) Q ls st μ := ix_Ev.eqM H ((stL_16 L xs 764 (by decide)).trans (ix_lk_app1 rfl)) ls st μ
theorem e_L_767 {L : Nat} {xs : Nat → Int32} (H : ix_Mo (tL_0 L xs)) (Q : ix_R → Prop) (ls : ix_L) (st : List ix_V) (μ : ix_M) : ix_Ev (tL_0 L xs) Q (767, ls, st, μ) = (ix_cmp (fun x y => x = y) 1636 770) (ix_Ev (tL_0 L xs) Q) Q ls st μ := ix_Ev.eqM H ((stL_16 L xs 767 (by decide)).trans (ix_lk_app1 rfl)) ls st μ
theorem e_L_770 {L : Nat} {xs : Nat → Int32} (H : ix_Mo (tL_0 L xs)) (Q : ix_R → Prop) (ls : ix_L) (st : List ix_V) (μ : ix_M) : ix_Ev (tL_0 L xs) Q (770, ls, st, μ) = (ix_push (vi 0) 771) (ix_Ev (tL_0 L xs) Q) Q ls st μ := ix_Ev.eqM H ((stL_16 L xs 770 (by decide)).trans (ix_lk_app1 rfl)) ls st μ
theorem e_L_771 {L : Nat} {xs : Nat → Int32} (H : ix_Mo (tL_0 L xs)) (Q : ix_R → Prop) (ls : ix_L) (st : List ix_V) (μ : ix_M) : ix_Ev (tL_0 L xs) Q (771, ls, st, μ) = ix_zret (ix_Ev (tL_0 L xs) Q) Q ls st μ := ix_Ev.eqM H ((stL_16 L xs 771 (by decide)).trans (ix_lk_app1 rfl)) ls st μ
theorem e_L_772 {L : Nat} {xs : Nat → Int32} (H : ix_Mo (tL_0 L xs)) (Q : ix_R → Prop) (ls : ix_L) (st : List ix_V) (μ : ix_M) : ix_Ev (tL_0 L xs) Q (772, ls, st, μ) = (ix_aload 1 773) (ix_Ev (tL_0 L xs) Q) Q ls st μ := ix_Ev.eqM H ((stL_17 L xs 772 (by decide)).trans (ix_lk_app1 rfl)) ls st μ
theorem e_L_773 {L : Nat} {xs : Nat → Int32} (H : ix_Mo (tL_0 L xs)) (Q : ix_R → Prop) (ls : ix_L) (st : List ix_V) (μ : ix_M) : ix_Ev (tL_0 L xs) Q (773, ls, st, μ) = (ix_aload 0 774) (ix_Ev (tL_0 L xs) Q) Q ls st μ := ix_Ev.eqM H ((stL_17 L xs 773 (by decide)).trans (ix_lk_app1 rfl)) ls st μ
theorem e_L_774 {L : Nat} {xs : Nat → Int32} (H : ix_Mo (tL_0 L xs)) (Q : ix_R → Prop) (ls : ix_L) (st : List ix_V) (μ : ix_M) : ix_Ev (tL_0 L xs) Q (774, ls, st, μ) = (ix_iload 3 775) (ix_Ev (tL_0 L xs) Q) Q ls st μ := ix_Ev.eqM H ((stL_17 L xs 774 (by decide)).trans (ix_lk_app1 rfl)) ls st μ
theorem e_L_775 {L : Nat} {xs : Nat → Int32} (H : ix_Mo (tL_0 L xs)) (Q : ix_R → Prop) (ls : ix_L) (st : List ix_V) (μ : ix_M) : ix_Ev (tL_0 L xs) Q (775, ls, st, μ) = (ix_push (vi 1) 776) (ix_Ev (tL_0 L xs) Q) Q ls st μ := ix_Ev.eqM H ((stL_17 L xs 775 (by decide)).trans (ix_lk_app1 rfl)) ls st μ
theorem e_L_776 {L : Nat} {xs : Nat → Int32} (H : ix_Mo (tL_0 L xs)) (Q : ix_R → Prop) (ls : ix_L) (st : List ix_V) (μ : ix_M) : ix_Ev (tL_0 L xs) Q (776, ls, st, μ) = (ix_bin (fun x y => x + y) 777) (ix_Ev (tL_0 L xs) Q) Q ls st μ := ix_Ev.eqM H ((stL_17 L xs 776 (by decide)).trans (ix_lk_app1 rfl)) ls st μ
theorem e_L_777 {L : Nat} {xs : Nat → Int32} (H : ix_Mo (tL_0 L xs)) (Q : ix_R → Prop) (ls : ix_L) (st : List ix_V) (μ : ix_M) : ix_Ev (tL_0 L xs) Q (777, ls, st, μ) = (ix_xld L xs 778) (ix_Ev (tL_0 L xs) Q) Q ls st μ := ix_Ev.eqM H ((stL_17 L xs 777 (by decide)).trans (ix_lk_app1 rfl)) ls st μ
theorem e_L_778 {L : Nat} {xs : Nat → Int32} (H : ix_Mo (tL_0 L xs)) (Q : ix_R → Prop) (ls : ix_L) (st : List ix_V) (μ : ix_M) : ix_Ev (tL_0 L xs) Q (778, ls, st, μ) = (oc_X10_loose 781) (ix_Ev (tL_0 L xs) Q) Q ls st μ := ix_Ev.eqM H ((stL_17 L xs 778 (by decide)).trans (ix_lk_app1 rfl)) ls st μ
theorem e_L_781 {L : Nat} {xs : Nat → Int32} (H : ix_Mo (tL_0 L xs)) (Q : ix_R → Prop) (ls : ix_L) (st : List ix_V) (μ : ix_M) : ix_Ev (tL_0 L xs) Q (781, ls, st, μ) = (ix_aload 2 782) (ix_Ev (tL_0 L xs) Q) Q ls st μ := ix_Ev.eqM H ((stL_17 L xs 781 (by decide)).trans (ix_lk_app1 rfl)) ls st μ
theorem e_L_782 {L : Nat} {xs : Nat → Int32} (H : ix_Mo (tL_0 L xs)) (Q : ix_R → Prop) (ls : ix_L) (st : List ix_V) (μ : ix_M) : ix_Ev (tL_0 L xs) Q (782, ls, st, μ) = (ix_aload 0 783) (ix_Ev (tL_0 L xs) Q) Q ls st μ := ix_Ev.eqM H ((stL_17 L xs 782 (by decide)).trans (ix_lk_app1 rfl)) ls st μ
theorem e_L_783 {L : Nat} {xs : Nat → Int32} (H : ix_Mo (tL_0 L xs)) (Q : ix_R → Prop) (ls : ix_L) (st : List ix_V) (μ : ix_M) : ix_Ev (tL_0 L xs) Q (783, ls, st, μ) = (ix_iload 3 784) (ix_Ev (tL_0 L xs) Q) Q ls st μ := ix_Ev.eqM H ((stL_17 L xs 783 (by decide)).trans (ix_lk_app1 rfl)) ls st μ
theorem e_L_784 {L : Nat} {xs : Nat → Int32} (H : ix_Mo (tL_0 L xs)) (Q : ix_R → Prop) (ls : ix_L) (st : List ix_V) (μ : ix_M) : ix_Ev (tL_0 L xs) Q (784, ls, st, μ) = (ix_push (vi 1) 785) (ix_Ev (tL_0 L xs) Q) Q ls st μ := ix_Ev.eqM H ((stL_17 L xs 784 (by decide)).trans (ix_lk_app1 rfl)) ls st μ
theorem e_L_785 {L : Nat} {xs : Nat → Int32} (H : ix_Mo (tL_0 L xs)) (Q : ix_R → Prop) (ls : ix_L) (st : List ix_V) (μ : ix_M) : ix_Ev (tL_0 L xs) Q (785, ls, st, μ) = (ix_bin (fun x y => x + y) 786) (ix_Ev (tL_0 L xs) Q) Q ls st μ := ix_Ev.eqM H ((stL_17 L xs 785 (by decide)).trans (ix_lk_app1 rfl)) ls st μ
theorem e_L_786 {L : Nat} {xs : Nat → Int32} (H : ix_Mo (tL_0 L xs)) (Q : ix_R → Prop) (ls : ix_L) (st : List ix_V) (μ : ix_M) : ix_Ev (tL_0 L xs) Q (786, ls, st, μ) = (ix_xld L xs 787) (ix_Ev (tL_0 L xs) Q) Q ls st μ := ix_Ev.eqM H ((stL_17 L xs 786 (by decide)).trans (ix_lk_app1 rfl)) ls st μ
theorem e_L_787 {L : Nat} {xs : Nat → Int32} (H : ix_Mo (tL_0 L xs)) (Q : ix_R → Prop) (ls : ix_L) (st : List ix_V) (μ : ix_M) : ix_Ev (tL_0 L xs) Q (787, ls, st, μ) = (oc_X11_loose 790) (ix_Ev (tL_0 L xs) Q) Q ls st μ := ix_Ev.eqM H ((stL_17 L xs 787 (by decide)).trans (ix_lk_app1 rfl)) ls st μ
theorem e_L_790 {L : Nat} {xs : Nat → Int32} (H : ix_Mo (tL_0 L xs)) (Q : ix_R → Prop) (ls : ix_L) (st : List ix_V) (μ : ix_M) : ix_Ev (tL_0 L xs) Q (790, ls, st, μ) = (ix_cmp (fun x y => x = y) 1636 793) (ix_Ev (tL_0 L xs) Q) Q ls st μ := ix_Ev.eqM H ((stL_17 L xs 790 (by decide)).trans (ix_lk_app1 rfl)) ls st μ
theorem e_L_793 {L : Nat} {xs : Nat → Int32} (H : ix_Mo (tL_0 L xs)) (Q : ix_R → Prop) (ls : ix_L) (st : List ix_V) (μ : ix_M) : ix_Ev (tL_0 L xs) Q (793, ls, st, μ) = (ix_push (vi 0) 794) (ix_Ev (tL_0 L xs) Q) Q ls st μ := ix_Ev.eqM H ((stL_17 L xs 793 (by decide)).trans (ix_lk_app1 rfl)) ls st μ
theorem e_L_794 {L : Nat} {xs : Nat → Int32} (H : ix_Mo (tL_0 L xs)) (Q : ix_R → Prop) (ls : ix_L) (st : List ix_V) (μ : ix_M) : ix_Ev (tL_0 L xs) Q (794, ls, st, μ) = ix_zret (ix_Ev (tL_0 L xs) Q) Q ls st μ := ix_Ev.eqM H ((stL_17 L xs 794 (by decide)).trans (ix_lk_app1 rfl)) ls st μ
theorem e_L_795 {L : Nat} {xs : Nat → Int32} (H : ix_Mo (tL_0 L xs)) (Q : ix_R → Prop) (ls : ix_L) (st : List ix_V) (μ : ix_M) : ix_Ev (tL_0 L xs) Q (795, ls, st, μ) = (ix_aload 1 796) (ix_Ev (tL_0 L xs) Q) Q ls st μ := ix_Ev.eqM H ((stL_18 L xs 795 (by decide)).trans (ix_lk_app1 rfl)) ls st μ
theorem e_L_796 {L : Nat} {xs : Nat → Int32} (H : ix_Mo (tL_0 L xs)) (Q : ix_R → Prop) (ls : ix_L) (st : List ix_V) (μ : ix_M) : ix_Ev (tL_0 L xs) Q (796, ls, st, μ) = (ix_aload 0 797) (ix_Ev (tL_0 L xs) Q) Q ls st μ := ix_Ev.eqM H ((stL_18 L xs 796 (by decide)).trans (ix_lk_app1 rfl)) ls st μ
theorem e_L_797 {L : Nat} {xs : Nat → Int32} (H : ix_Mo (tL_0 L xs)) (Q : ix_R → Prop) (ls : ix_L) (st : List ix_V) (μ : ix_M) : ix_Ev (tL_0 L xs) Q (797, ls, st, μ) = (ix_iload 3 798) (ix_Ev (tL_0 L xs) Q) Q ls st μ := ix_Ev.eqM H ((stL_18 L xs 797 (by decide)).trans (ix_lk_app1 rfl)) ls st μ
theorem e_L_798 {L : Nat} {xs : Nat → Int32} (H : ix_Mo (tL_0 L xs)) (Q : ix_R → Prop) (ls : ix_L) (st : List ix_V) (μ : ix_M) : ix_Ev (tL_0 L xs) Q (798, ls, st, μ) = (ix_push (vi 1) 799) (ix_Ev (tL_0 L xs) Q) Q ls st μ := ix_Ev.eqM H ((stL_18 L xs 798 (by decide)).trans (ix_lk_app1 rfl)) ls st μ
theorem e_L_799 {L : Nat} {xs : Nat → Int32} (H : ix_Mo (tL_0 L xs)) (Q : ix_R → Prop) (ls : ix_L) (st : List ix_V) (μ : ix_M) : ix_Ev (tL_0 L xs) Q (799, ls, st, μ) = (ix_bin (fun x y => x + y) 800) (ix_Ev (tL_0 L xs) Q) Q ls st μ := ix_Ev.eqM H ((stL_18 L xs 799 (by decide)).trans (ix_lk_app1 rfl)) ls st μ
theorem e_L_800 {L : Nat} {xs : Nat → Int32} (H : ix_Mo (tL_0 L xs)) (Q : ix_R → Prop) (ls : ix_L) (st : List ix_V) (μ : ix_M) : ix_Ev (tL_0 L xs) Q (800, ls, st, μ) = (ix_xld L xs 801) (ix_Ev (tL_0 L xs) Q) Q ls st μ := ix_Ev.eqM H ((stL_18 L xs 800 (by decide)).trans (ix_lk_app1 rfl)) ls st μ
theorem e_L_801 {L : Nat} {xs : Nat → Int32} (H : ix_Mo (tL_0 L xs)) (Q : ix_R → Prop) (ls : ix_L) (st : List ix_V) (μ : ix_M) : ix_Ev (tL_0 L xs) Q (801, ls, st, μ) = (ix_aload 0 802) (ix_Ev (tL_0 L xs) Q) Q ls st μ := ix_Ev.eqM H ((stL_18 L xs 801 (by decide)).trans (ix_lk_app1 rfl)) ls st μ
theorem e_L_802 {L : Nat} {xs : Nat → Int32} (H : ix_Mo (tL_0 L xs)) (Q : ix_R → Prop) (ls : ix_L) (st : List ix_V) (μ : ix_M) : ix_Ev (tL_0 L xs) Q (802, ls, st, μ) = (ix_iload 3 803) (ix_Ev (tL_0 L xs) Q) Q ls st μ := ix_Ev.eqM H ((stL_18 L xs 802 (by decide)).trans (ix_lk_app1 rfl)) ls st μ
theorem e_L_803 {L : Nat} {xs : Nat → Int32} (H : ix_Mo (tL_0 L xs)) (Q : ix_R → Prop) (ls : ix_L) (st : List ix_V) (μ : ix_M) : ix_Ev (tL_0 L xs) Q (803, ls, st, μ) = (ix_push (vi 2) 804) (ix_Ev (tL_0 L xs) Q) Q ls st μ := ix_Ev.eqM H ((stL_18 L xs 803 (by decide)).trans (ix_lk_app1 rfl)) ls st μ
theorem e_L_804 {L : Nat} {xs : Nat → Int32} (H : ix_Mo (tL_0 L xs)) (Q : ix_R → Prop) (ls : ix_L) (st : List ix_V) (μ : ix_M) : ix_Ev (tL_0 L xs) Q (804, ls, st, μ) = (ix_bin (fun x y => x + y) 805) (ix_Ev (tL_0 L xs) Q) Q ls st μ := ix_Ev.eqM H ((stL_18 L xs 804 (by decide)).trans (ix_lk_app1 rfl)) ls st μ
theorem e_L_805 {L : Nat} {xs : Nat → Int32} (H : ix_Mo (tL_0 L xs)) (Q : ix_R → Prop) (ls : ix_L) (st : List ix_V) (μ : ix_M) : ix_Ev (tL_0 L xs) Q (805, ls, st, μ) = (ix_xld L xs 806) (ix_Ev (tL_0 L xs) Q) Q ls st μ := ix_Ev.eqM H ((stL_18 L xs 805 (by decide)).trans (ix_lk_app1 rfl)) ls st μ
theorem e_L_806 {L : Nat} {xs : Nat → Int32} (H : ix_Mo (tL_0 L xs)) (Q : ix_R → Prop) (ls : ix_L) (st : List ix_V) (μ : ix_M) : ix_Ev (tL_0 L xs) Q (806, ls, st, μ) = (oc_X10_then 809) (ix_Ev (tL_0 L xs) Q) Q ls st μ := ix_Ev.eqM H ((stL_18 L xs 806 (by decide)).trans (ix_lk_app1 rfl)) ls st μ
theorem e_L_809 {L : Nat} {xs : Nat → Int32} (H : ix_Mo (tL_0 L xs)) (Q : ix_R → Prop) (ls : ix_L) (st : List ix_V) (μ : ix_M) : ix_Ev (tL_0 L xs) Q (809, ls, st, μ) = (ix_aload 2 810) (ix_Ev (tL_0 L xs) Q) Q ls st μ := ix_Ev.eqM H ((stL_18 L xs 809 (by decide)).trans (ix_lk_app1 rfl)) ls st μ
theorem e_L_810 {L : Nat} {xs : Nat → Int32} (H : ix_Mo (tL_0 L xs)) (Q : ix_R → Prop) (ls : ix_L) (st : List ix_V) (μ : ix_M) : ix_Ev (tL_0 L xs) Q (810, ls, st, μ) = (ix_aload 0 811) (ix_Ev (tL_0 L xs) Q) Q ls st μ := ix_Ev.eqM H ((stL_18 L xs 810 (by decide)).trans (ix_lk_app1 rfl)) ls st μ
theorem e_L_811 {L : Nat} {xs : Nat → Int32} (H : ix_Mo (tL_0 L xs)) (Q : ix_R → Prop) (ls : ix_L) (st : List ix_V) (μ : ix_M) : ix_Ev (tL_0 L xs) Q (811, ls, st, μ) = (ix_iload 3 812) (ix_Ev (tL_0 L xs) Q) Q ls st μ := ix_Ev.eqM H ((stL_18 L xs 811 (by decide)).trans (ix_lk_app1 rfl)) ls st μ
theorem e_L_812 {L : Nat} {xs : Nat → Int32} (H : ix_Mo (tL_0 L xs)) (Q : ix_R → Prop) (ls : ix_L) (st : List ix_V) (μ : ix_M) : ix_Ev (tL_0 L xs) Q (812, ls, st, μ) = (ix_push (vi 1) 813) (ix_Ev (tL_0 L xs) Q) Q ls st μ := ix_Ev.eqM H ((stL_18 L xs 812 (by decide)).trans (ix_lk_app1 rfl)) ls st μ
theorem e_L_813 {L : Nat} {xs : Nat → Int32} (H : ix_Mo (tL_0 L xs)) (Q : ix_R → Prop) (ls : ix_L) (st : List ix_V) (μ : ix_M) : ix_Ev (tL_0 L xs) Q (813, ls, st, μ) = (ix_bin (fun x y => x + y) 814) (ix_Ev (tL_0 L xs) Q) Q ls st μ := ix_Ev.eqM H ((stL_18 L xs 813 (by decide)).trans (ix_lk_app1 rfl)) ls st μ
theorem e_L_814 {L : Nat} {xs : Nat → Int32} (H : ix_Mo (tL_0 L xs)) (Q : ix_R → Prop) (ls : ix_L) (st : List ix_V) (μ : ix_M) : ix_Ev (tL_0 L xs) Q (814, ls, st, μ) = (ix_xld L xs 815) (ix_Ev (tL_0 L xs) Q) Q ls st μ := ix_Ev.eqM H ((stL_18 L xs 814 (by decide)).trans (ix_lk_app1 rfl)) ls st μ
theorem e_L_815 {L : Nat} {xs : Nat → Int32} (H : ix_Mo (tL_0 L xs)) (Q : ix_R → Prop) (ls : ix_L) (st : List ix_V) (μ : ix_M) : ix_Ev (tL_0 L xs) Q (815, ls, st, μ) = (ix_aload 0 816) (ix_Ev (tL_0 L xs) Q) Q ls st μ := ix_Ev.eqM H ((stL_18 L xs 815 (by decide)).trans (ix_lk_app1 rfl)) ls st μ
theorem e_L_816 {L : Nat} {xs : Nat → Int32} (H : ix_Mo (tL_0 L xs)) (Q : ix_R → Prop) (ls : ix_L) (st : List ix_V) (μ : ix_M) : ix_Ev (tL_0 L xs) Q (816, ls, st, μ) = (ix_iload 3 817) (ix_Ev (tL_0 L xs) Q) Q ls st μ := ix_Ev.eqM H ((stL_18 L xs 816 (by decide)).trans (ix_lk_app1 rfl)) ls st μ
theorem e_L_817 {L : Nat} {xs : Nat → Int32} (H : ix_Mo (tL_0 L xs)) (Q : ix_R → Prop) (ls : ix_L) (st : List ix_V) (μ : ix_M) : ix_Ev (tL_0 L xs) Q (817, ls, st, μ) = (ix_push (vi 2) 818) (ix_Ev (tL_0 L xs) Q) Q ls st μ := ix_Ev.eqM H ((stL_18 L xs 817 (by decide)).trans (ix_lk_app1 rfl)) ls st μ
theorem e_L_818 {L : Nat} {xs : Nat → Int32} (H : ix_Mo (tL_0 L xs)) (Q : ix_R → Prop) (ls : ix_L) (st : List ix_V) (μ : ix_M) : ix_Ev (tL_0 L xs) Q (818, ls, st, μ) = (ix_bin (fun x y => x + y) 819) (ix_Ev (tL_0 L xs) Q) Q ls st μ := ix_Ev.eqM H ((stL_18 L xs 818 (by decide)).trans (ix_lk_app1 rfl)) ls st μ
theorem e_L_819 {L : Nat} {xs : Nat → Int32} (H : ix_Mo (tL_0 L xs)) (Q : ix_R → Prop) (ls : ix_L) (st : List ix_V) (μ : ix_M) : ix_Ev (tL_0 L xs) Q (819, ls, st, μ) = (ix_xld L xs 820) (ix_Ev (tL_0 L xs) Q) Q ls st μ := ix_Ev.eqM H ((stL_18 L xs 819 (by decide)).trans (ix_lk_app1 rfl)) ls st μ
theorem e_L_820 {L : Nat} {xs : Nat → Int32} (H : ix_Mo (tL_0 L xs)) (Q : ix_R → Prop) (ls : ix_L) (st : List ix_V) (μ : ix_M) : ix_Ev (tL_0 L xs) Q (820, ls, st, μ) = (oc_X11_then 823) (ix_Ev (tL_0 L xs) Q) Q ls st μ := ix_Ev.eqM H ((stL_18 L xs 820 (by decide)).trans (ix_lk_app1 rfl)) ls st μ
theorem e_L_823 {L : Nat} {xs : Nat → Int32} (H : ix_Mo (tL_0 L xs)) (Q : ix_R → Prop) (ls : ix_L) (st : List ix_V) (μ : ix_M) : ix_Ev (tL_0 L xs) Q (823, ls, st, μ) = (ix_cmp (fun x y => x = y) 1636 826) (ix_Ev (tL_0 L xs) Q) Q ls st μ := ix_Ev.eqM H ((stL_18 L xs 823 (by decide)).trans (ix_lk_app1 rfl)) ls st μ
theorem e_L_826 {L : Nat} {xs : Nat → Int32} (H : ix_Mo (tL_0 L xs)) (Q : ix_R → Prop) (ls : ix_L) (st : List ix_V) (μ : ix_M) : ix_Ev (tL_0 L xs) Q (826, ls, st, μ) = (ix_push (vi 0) 827) (ix_Ev (tL_0 L xs) Q) Q ls st μ := ix_Ev.eqM H ((stL_18 L xs 826 (by decide)).trans (ix_lk_app1 rfl)) ls st μ
theorem e_L_827 {L : Nat} {xs : Nat → Int32} (H : ix_Mo (tL_0 L xs)) (Q : ix_R → Prop) (ls : ix_L) (st : List ix_V) (μ : ix_M) : ix_Ev (tL_0 L xs) Q (827, ls, st, μ) = ix_zret (ix_Ev (tL_0 L xs) Q) Q ls st μ := ix_Ev.eqM H ((stL_18 L xs 827 (by decide)).trans (ix_lk_app1 rfl)) ls st μ
theorem e_L_828 {L : Nat} {xs : Nat → Int32} (H : ix_Mo (tL_0 L xs)) (Q : ix_R → Prop) (ls : ix_L) (st : List ix_V) (μ : ix_M) : ix_Ev (tL_0 L xs) Q (828, ls, st, μ) = (ix_aload 1 829) (ix_Ev (tL_0 L xs) Q) Q ls st μ := ix_Ev.eqM H ((stL_19 L xs 828 (by decide)).trans (ix_lk_app1 rfl)) ls st μ
theorem e_L_829 {L : Nat} {xs : Nat → Int32} (H : ix_Mo (tL_0 L xs)) (Q : ix_R → Prop) (ls : ix_L) (st : List ix_V) (μ : ix_M) : ix_Ev (tL_0 L xs) Q (829, ls, st, μ) = (ix_aload 0 830) (ix_Ev (tL_0 L xs) Q) Q ls st μ := ix_Ev.eqM H ((stL_19 L xs 829 (by decide)).trans (ix_lk_app1 rfl)) ls st μ
theorem e_L_830 {L : Nat} {xs : Nat → Int32} (H : ix_Mo (tL_0 L xs)) (Q : ix_R → Prop) (ls : ix_L) (st : List ix_V) (μ : ix_M) : ix_Ev (tL_0 L xs) Q (830, ls, st, μ) = (ix_iload 3 831) (ix_Ev (tL_0 L xs) Q) Q ls st μ := ix_Ev.eqM H ((stL_19 L xs 830 (by decide)).trans (ix_lk_app1 rfl)) ls st μ
theorem e_L_831 {L : Nat} {xs : Nat → Int32} (H : ix_Mo (tL_0 L xs)) (Q : ix_R → Prop) (ls : ix_L) (st : List ix_V) (μ : ix_M) : ix_Ev (tL_0 L xs) Q (831, ls, st, μ) = (ix_push (vi 1) 832) (ix_Ev (tL_0 L xs) Q) Q ls st μ := ix_Ev.eqM H ((stL_19 L xs 831 (by decide)).trans (ix_lk_app1 rfl)) ls st μ
theorem e_L_832 {L : Nat} {xs : Nat → Int32} (H : ix_Mo (tL_0 L xs)) (Q : ix_R → Prop) (ls : ix_L) (st : List ix_V) (μ : ix_M) : ix_Ev (tL_0 L xs) Q (832, ls, st, μ) = (ix_bin (fun x y => x + y) 833) (ix_Ev (tL_0 L xs) Q) Q ls st μ := ix_Ev.eqM H ((stL_19 L xs 832 (by decide)).trans (ix_lk_app1 rfl)) ls st μ
theorem e_L_833 {L : Nat} {xs : Nat → Int32} (H : ix_Mo (tL_0 L xs)) (Q : ix_R → Prop) (ls : ix_L) (st : List ix_V) (μ : ix_M) : ix_Ev (tL_0 L xs) Q (833, ls, st, μ) = (ix_xld L xs 834) (ix_Ev (tL_0 L xs) Q) Q ls st μ := ix_Ev.eqM H ((stL_19 L xs 833 (by decide)).trans (ix_lk_app1 rfl)) ls st μ
theorem e_L_834 {L : Nat} {xs : Nat → Int32} (H : ix_Mo (tL_0 L xs)) (Q : ix_R → Prop) (ls : ix_L) (st : List ix_V) (μ : ix_M) : ix_Ev (tL_0 L xs) Q (834, ls, st, μ) = (ix_aload 0 835) (ix_Ev (tL_0 L xs) Q) Q ls st μ := ix_Ev.eqM H ((stL_19 L xs 834 (by decide)).trans (ix_lk_app1 rfl)) ls st μ
theorem e_L_835 {L : Nat} {xs : Nat → Int32} (H : ix_Mo (tL_0 L xs)) (Q : ix_R → Prop) (ls : ix_L) (st : List ix_V) (μ : ix_M) : ix_Ev (tL_0 L xs) Q (835, ls, st, μ) = (ix_iload 3 836) (ix_Ev (tL_0 L xs) Q) Q ls st μ := ix_Ev.eqM H ((stL_19 L xs 835 (by decide)).trans (ix_lk_app1 rfl)) ls st μ
theorem e_L_836 {L : Nat} {xs : Nat → Int32} (H : ix_Mo (tL_0 L xs)) (Q : ix_R → Prop) (ls : ix_L) (st : List ix_V) (μ : ix_M) : ix_Ev (tL_0 L xs) Q (836, ls, st, μ) = (ix_push (vi 2) 837) (ix_Ev (tL_0 L xs) Q) Q ls st μ := ix_Ev.eqM H ((stL_19 L xs 836 (by decide)).trans (ix_lk_app1 rfl)) ls st μ
theorem e_L_837 {L : Nat} {xs : Nat → Int32} (H : ix_Mo (tL_0 L xs)) (Q : ix_R → Prop) (ls : ix_L) (st : List ix_V) (μ : ix_M) : ix_Ev (tL_0 L xs) Q (837, ls, st, μ) = (ix_bin (fun x y => x + y) 838) (ix_Ev (tL_0 L xs) Q) Q ls st μ := ix_Ev.eqM H ((stL_19 L xs 837 (by decide)).trans (ix_lk_app1 rfl)) ls st μ
theorem e_L_838 {L : Nat} {xs : Nat → Int32} (H : ix_Mo (tL_0 L xs)) (Q : ix_R → Prop) (ls : ix_L) (st : List ix_V) (μ : ix_M) : ix_Ev (tL_0 L xs) Q (838, ls, st, μ) = (ix_xld L xs 839) (ix_Ev (tL_0 L xs) Q) Q ls st μ := ix_Ev.eqM H ((stL_19 L xs 838 (by decide)).trans (ix_lk_app1 rfl)) ls st μ
theorem e_L_839 {L : Nat} {xs : Nat → Int32} (H : ix_Mo (tL_0 L xs)) (Q : ix_R → Prop) (ls : ix_L) (st : List ix_V) (μ : ix_M) : ix_Ev (tL_0 L xs) Q (839, ls, st, μ) = (ix_aload 0 840) (ix_Ev (tL_0 L xs) Q) Q ls st μ := ix_Ev.eqM H ((stL_19 L xs 839 (by decide)).trans (ix_lk_app1 rfl)) ls st μ
theorem e_L_840 {L : Nat} {xs : Nat → Int32} (H : ix_Mo (tL_0 L xs)) (Q : ix_R → Prop) (ls : ix_L) (st : List ix_V) (μ : ix_M) : ix_Ev (tL_0 L xs) Q (840, ls, st, μ) = (ix_iload 3 841) (ix_Ev (tL_0 L xs) Q) Q ls st μ := ix_Ev.eqM H ((stL_19 L xs 840 (by decide)).trans (ix_lk_app1 rfl)) ls st μ
theorem e_L_841 {L : Nat} {xs : Nat → Int32} (H : ix_Mo (tL_0 L xs)) (Q : ix_R → Prop) (ls : ix_L) (st : List ix_V) (μ : ix_M) : ix_Ev (tL_0 L xs) Q (841, ls, st, μ) = (ix_push (vi 3) 842) (ix_Ev (tL_0 L xs) Q) Q ls st μ := ix_Ev.eqM H ((stL_19 L xs 841 (by decide)).trans (ix_lk_app1 rfl)) ls st μ
theorem e_L_842 {L : Nat} {xs : Nat → Int32} (H : ix_Mo (tL_0 L xs)) (Q : ix_R → Prop) (ls : ix_L) (st : List ix_V) (μ : ix_M) : ix_Ev (tL_0 L xs) Q (842, ls, st, μ) = (ix_bin (fun x y => x + y) 843) (ix_Ev (tL_0 L xs) Q) Q ls st μ := ix_Ev.eqM H ((stL_19 L xs 842 (by decide)).trans (ix_lk_app1 rfl)) ls st μ
theorem e_L_843 {L : Nat} {xs : Nat → Int32} (H : ix_Mo (tL_0 L xs)) (Q : ix_R → Prop) (ls : ix_L) (st : List ix_V) (μ : ix_M) : ix_Ev (tL_0 L xs) Q (843, ls, st, μ) = (ix_xld L xs 844) (ix_Ev (tL_0 L xs) Q) Q ls st μ := ix_Ev.eqM H ((stL_19 L xs 843 (by decide)).trans (ix_lk_app1 rfl)) ls st μ
theorem e_L_844 {L : Nat} {xs : Nat → Int32} (H : ix_Mo (tL_0 L xs)) (Q : ix_R → Prop) (ls : ix_L) (st : List ix_V) (μ : ix_M) : ix_Ev (tL_0 L xs) Q (844, ls, st, μ) = (oc_X10_on 847) (ix_Ev (tL_0 L xs) Q) Q ls st μ := ix_Ev.eqM H ((stL_19 L xs 844 (by decide)).trans (ix_lk_app1 rfl)) ls st μ
theorem e_L_847 {L : Nat} {xs : Nat → Int32} (H : ix_Mo (tL_0 L xs)) (Q : ix_R → Prop) (ls : ix_L) (st : List ix_V) (μ : ix_M) : ix_Ev (tL_0 L xs) Q (847, ls, st, μ) = (ix_aload 2 848) (ix_Ev (tL_0 L xs) Q) Q ls st μ := ix_Ev.eqM H ((stL_19 L xs 847 (by decide)).trans (ix_lk_app1 rfl)) ls st μ
theorem e_L_848 {L : Nat} {xs : Nat → Int32} (H : ix_Mo (tL_0 L xs)) (Q : ix_R → Prop) (ls : ix_L) (st : List ix_V) (μ : ix_M) : ix_Ev (tL_0 L xs) Q (848, ls, st, μ) = (ix_aload 0 849) (ix_Ev (tL_0 L xs) Q) Q ls st μ := ix_Ev.eqM H ((stL_19 L xs 848 (by decide)).trans (ix_lk_app1 rfl)) ls st μ
theorem e_L_849 {L : Nat} {xs : Nat → Int32} (H : ix_Mo (tL_0 L xs)) (Q : ix_R → Prop) (ls : ix_L) (st : List ix_V) (μ : ix_M) : ix_Ev (tL_0 L xs) Q (849, ls, st, μ) = (ix_iload 3 850) (ix_Ev (tL_0 L xs) Q) Q ls st μ := ix_Ev.eqM H ((stL_19 L xs 849 (by decide)).trans (ix_lk_app1 rfl)) ls st μ
theorem e_L_850 {L : Nat} {xs : Nat → Int32} (H : ix_Mo (tL_0 L xs)) (Q : ix_R → Prop) (ls : ix_L) (st : List ix_V) (μ : ix_M) : ix_Ev (tL_0 L xs) Q (850, ls, st, μ) = (ix_push (vi 1) 851) (ix_Ev (tL_0 L xs) Q) Q ls st μ := ix_Ev.eqM H ((stL_19 L xs 850 (by decide)).trans (ix_lk_app1 rfl)) ls st μ
theorem e_L_851 {L : Nat} {xs : Nat → Int32} (H : ix_Mo (tL_0 L xs)) (Q : ix_R → Prop) (ls : ix_L) (st : List ix_V) (μ : ix_M) : ix_Ev (tL_0 L xs) Q (851, ls, st, μ) = (ix_bin (fun x y => x + y) 852) (ix_Ev (tL_0 L xs) Q) Q ls st μ := ix_Ev.eqM H ((stL_19 L xs 851 (by decide)).trans (ix_lk_app1 rfl)) ls st μ
theorem e_L_852 {L : Nat} {xs : Nat → Int32} (H : ix_Mo (tL_0 L xs)) (Q : ix_R → Prop) (ls : ix_L) (st : List ix_V) (μ : ix_M) : ix_Ev (tL_0 L xs) Q (852, ls, st, μ) = (ix_xld L xs 853) (ix_Ev (tL_0 L xs) Q) Q ls st μ := ix_Ev.eqM H ((stL_19 L xs 852 (by decide)).trans (ix_lk_app1 rfl)) ls st μ
theorem e_L_853 {L : Nat} {xs : Nat → Int32} (H : ix_Mo (tL_0 L xs)) (Q : ix_R → Prop) (ls : ix_L) (st : List ix_V) (μ : ix_M) : ix_Ev (tL_0 L xs) Q (853, ls, st, μ) = (ix_aload 0 854) (ix_Ev (tL_0 L xs) Q) Q ls st μ := ix_Ev.eqM H ((stL_19 L xs 853 (by decide)).trans (ix_lk_app1 rfl)) ls st μ
theorem e_L_854 {L : Nat} {xs : Nat → Int32} (H : ix_Mo (tL_0 L xs)) (Q : ix_R → Prop) (ls : ix_L) (st : List ix_V) (μ : ix_M) : ix_Ev (tL_0 L xs) Q (854, ls, st, μ) = (ix_iload 3 855) (ix_Ev (tL_0 L xs) Q) Q ls st μ := ix_Ev.eqM H ((stL_19 L xs 854 (by decide)).trans (ix_lk_app1 rfl)) ls st μ
theorem e_L_855 {L : Nat} {xs : Nat → Int32} (H : ix_Mo (tL_0 L xs)) (Q : ix_R → Prop) (ls : ix_L) (st : List ix_V) (μ : ix_M) : ix_Ev (tL_0 L xs) Q (855, ls, st, μ) = (ix_push (vi 2) 856) (ix_Ev (tL_0 L xs) Q) Q ls st μ := ix_Ev.eqM H ((stL_19 L xs 855 (by decide)).trans (ix_lk_app1 rfl)) ls st μ
theorem e_L_856 {L : Nat} {xs : Nat → Int32} (H : ix_Mo (tL_0 L xs)) (Q : ix_R → Prop) (ls : ix_L) (st : List ix_V) (μ : ix_M) : ix_Ev (tL_0 L xs) Q (856, ls, st, μ) = (ix_bin (fun x y => x + y) 857) (ix_Ev (tL_0 L xs) Q) Q ls st μ := ix_Ev.eqM H ((stL_19 L xs 856 (by decide)).trans (ix_lk_app1 rfl)) ls st μ
theorem e_L_857 {L : Nat} {xs : Nat → Int32} (H : ix_Mo (tL_0 L xs)) (Q : ix_R → Prop) (ls : ix_L) (st : List ix_V) (μ : ix_M) : ix_Ev (tL_0 L xs) Q (857, ls, st, μ) = (ix_xld L xs 858) (ix_Ev (tL_0 L xs) Q) Q ls st μ := ix_Ev.eqM H ((stL_19 L xs 857 (by decide)).trans (ix_lk_app1 rfl)) ls st μ
theorem e_L_858 {L : Nat} {xs : Nat → Int32} (H : ix_Mo (tL_0 L xs)) (Q : ix_R → Prop) (ls : ix_L) (st : List ix_V) (μ : ix_M) : ix_Ev (tL_0 L xs) Q (858, ls, st, μ) = (ix_aload 0 859) (ix_Ev (tL_0 L xs) Q) Q ls st μ := ix_Ev.eqM H ((stL_19 L xs 858 (by decide)).trans (ix_lk_app1 rfl)) ls st μ
theorem e_L_859 {L : Nat} {xs : Nat → Int32} (H : ix_Mo (tL_0 L xs)) (Q : ix_R → Prop) (ls : ix_L) (st : List ix_V) (μ : ix_M) : ix_Ev (tL_0 L xs) Q (859, ls, st, μ) = (ix_iload 3 860) (ix_Ev (tL_0 L xs) Q) Q ls st μ := ix_Ev.eqM H ((stL_19 L xs 859 (by decide)).trans (ix_lk_app1 rfl)) ls st μ
theorem e_L_860 {L : Nat} {xs : Nat → Int32} (H : ix_Mo (tL_0 L xs)) (Q : ix_R → Prop) (ls : ix_L) (st : List ix_V) (μ : ix_M) : ix_Ev (tL_0 L xs) Q (860, ls, st, μ) = (ix_push (vi 3) 861) (ix_Ev (tL_0 L xs) Q) Q ls st μ := ix_Ev.eqM H ((stL_19 L xs 860 (by decide)).trans (ix_lk_app1 rfl)) ls st μ
theorem e_L_861 {L : Nat} {xs : Nat → Int32} (H : ix_Mo (tL_0 L xs)) (Q : ix_R → Prop) (ls : ix_L) (st : List ix_V) (μ : ix_M) : ix_Ev (tL_0 L xs) Q (861, ls, st, μ) = (ix_bin (fun x y => x + y) 862) (ix_Ev (tL_0 L xs) Q) Q ls st μ := ix_Ev.eqM H ((stL_19 L xs 861 (by decide)).trans (ix_lk_app1 rfl)) ls st μ
theorem e_L_862 {L : Nat} {xs : Nat → Int32} (H : ix_Mo (tL_0 L xs)) (Q : ix_R → Prop) (ls : ix_L) (st : List ix_V) (μ : ix_M) : ix_Ev (tL_0 L xs) Q (862, ls, st, μ) = (ix_xld L xs 863) (ix_Ev (tL_0 L xs) Q) Q ls st μ := ix_Ev.eqM H ((stL_19 L xs 862 (by decide)).trans (ix_lk_app1 rfl)) ls st μ
theorem e_L_863 {L : Nat} {xs : Nat → Int32} (H : ix_Mo (tL_0 L xs)) (Q : ix_R → Prop) (ls : ix_L) (st : List ix_V) (μ : ix_M) : ix_Ev (tL_0 L xs) Q (863, ls, st, μ) = (oc_X11_on 866) (ix_Ev (tL_0 L xs) Q) Q ls st μ := ix_Ev.eqM H ((stL_19 L xs 863 (by decide)).trans (ix_lk_app1 rfl)) ls st μ
theorem e_L_866 {L : Nat} {xs : Nat → Int32} (H : ix_Mo (tL_0 L xs)) (Q : ix_R → Prop) (ls : ix_L) (st : List ix_V) (μ : ix_M) : ix_Ev (tL_0 L xs) Q (866, ls, st, μ) = (ix_cmp (fun x y => x = y) 1636 869) (ix_Ev (tL_0 L xs) Q) Q ls st μ := ix_Ev.eqM H ((stL_19 L xs 866 (by decide)).trans (ix_lk_app1 rfl)) ls st μ
theorem e_L_869 {L : Nat} {xs : Nat → Int32} (H : ix_Mo (tL_0 L xs)) (Q : ix_R → Prop) (ls : ix_L) (st : List ix_V) (μ : ix_M) : ix_Ev (tL_0 L xs) Q (869, ls, st, μ) = (ix_push (vi 0) 870) (ix_Ev (tL_0 L xs) Q) Q ls st μ := ix_Ev.eqM H ((stL_19 L xs 869 (by decide)).trans (ix_lk_app1 rfl)) ls st μ
theorem e_L_870 {L : Nat} {xs : Nat → Int32} (H : ix_Mo (tL_0 L xs)) (Q : ix_R → Prop) (ls : ix_L) (st : List ix_V) (μ : ix_M) : ix_Ev (tL_0 L xs) Q (870, ls, st, μ) = ix_zret (ix_Ev (tL_0 L xs) Q) Q ls st μ := ix_Ev.eqM H ((stL_19 L xs 870 (by decide)).trans (ix_lk_app1 rfl)) ls st μ
theorem e_L_871 {L : Nat} {xs : Nat → Int32} (H : ix_Mo (tL_0 L xs)) (Q : ix_R → Prop) (ls : ix_L) (st : List ix_V) (μ : ix_M) : ix_Ev (tL_0 L xs) Q (871, ls, st, μ) = (ix_aload 1 872) (ix_Ev (tL_0 L xs) Q) Q ls st μ := ix_Ev.eqM H ((stL_20 L xs 871 (by decide)).trans (ix_lk_app1 rfl)) ls st μ
theorem e_L_872 {L : Nat} {xs : Nat → Int32} (H : ix_Mo (tL_0 L xs)) (Q : ix_R → Prop) (ls : ix_L) (st : List ix_V) (μ : ix_M) : ix_Ev (tL_0 L xs) Q (872, ls, st, μ) = (ix_aload 0 873) (ix_Ev (tL_0 L xs) Q) Q ls st μ := ix_Ev.eqM H ((stL_20 L xs 872 (by decide)).trans (ix_lk_app1 rfl)) ls st μ
theorem e_L_873 {L : Nat} {xs : Nat → Int32} (H : ix_Mo (tL_0 L xs)) (Q : ix_R → Prop) (ls : ix_L) (st : List ix_V) (μ : ix_M) : ix_Ev (tL_0 L xs) Q (873, ls, st, μ) = (ix_iload 3 874) (ix_Ev (tL_0 L xs) Q) Q ls st μ := ix_Ev.eqM H ((stL_20 L xs 873 (by decide)).trans (ix_lk_app1 rfl)) ls st μ
theorem e_L_874 {L : Nat} {xs : Nat → Int32} (H : ix_Mo (tL_0 L xs)) (Q : ix_R → Prop) (ls : ix_L) (st : List ix_V) (μ : ix_M) : ix_Ev (tL_0 L xs) Q (874, ls, st, μ) = (ix_push (vi 1) 875) (ix_Ev (tL_0 L xs) Q) Q ls st μ := ix_Ev.eqM H ((stL_20 L xs 874 (by decide)).trans (ix_lk_app1 rfl)) ls st μ
theorem e_L_875 {L : Nat} {xs : Nat → Int32} (H : ix_Mo (tL_0 L xs)) (Q : ix_R → Prop) (ls : ix_L) (st : List ix_V) (μ : ix_M) : ix_Ev (tL_0 L xs) Q (875, ls, st, μ) = (ix_bin (fun x y => x + y) 876) (ix_Ev (tL_0 L xs) Q) Q ls st μ := ix_Ev.eqM H ((stL_20 L xs 875 (by decide)).trans (ix_lk_app1 rfl)) ls st μ
theorem e_L_876 {L : Nat} {xs : Nat → Int32} (H : ix_Mo (tL_0 L xs)) (Q : ix_R → Prop) (ls : ix_L) (st : List ix_V) (μ : ix_M) : ix_Ev (tL_0 L xs) Q (876, ls, st, μ) = (ix_xld L xs 877) (ix_Ev (tL_0 L xs) Q) Q ls st μ := ix_Ev.eqM H ((stL_20 L xs 876 (by decide)).trans (ix_lk_app1 rfl)) ls st μ
theorem e_L_877 {L : Nat} {xs : Nat → Int32} (H : ix_Mo (tL_0 L xs)) (Q : ix_R → Prop) (ls : ix_L) (st : List ix_V) (μ : ix_M) : ix_Ev (tL_0 L xs) Q (877, ls, st, μ) = (ix_aload 0 878) (ix_Ev (tL_0 L xs) Q) Q ls st μ := ix_Ev.eqM H ((stL_20 L xs 877 (by decide)).trans (ix_lk_app1 rfl)) ls st μ
theorem e_L_878 {L : Nat} {xs : Nat → Int32} (H : ix_Mo (tL_0 L xs)) (Q : ix_R → Prop) (ls : ix_L) (st : List ix_V) (μ : ix_M) : ix_Ev (tL_0 L xs) Q (878, ls, st, μ) = (ix_iload 3 879) (ix_Ev (tL_0 L xs) Q) Q ls st μ := ix_Ev.eqM H ((stL_20 L xs 878 (by decide)).trans (ix_lk_app1 rfl)) ls st μ
theorem e_L_879 {L : Nat} {xs : Nat → Int32} (H : ix_Mo (tL_0 L xs)) (Q : ix_R → Prop) (ls : ix_L) (st : List ix_V) (μ : ix_M) : ix_Ev (tL_0 L xs) Q (879, ls, st, μ) = (ix_push (vi 2) 880) (ix_Ev (tL_0 L xs) Q) Q ls st μ := ix_Ev.eqM H ((stL_20 L xs 879 (by decide)).trans (ix_lk_app1 rfl)) ls st μ
theorem e_L_880 {L : Nat} {xs : Nat → Int32} (H : ix_Mo (tL_0 L xs)) (Q : ix_R → Prop) (ls : ix_L) (st : List ix_V) (μ : ix_M) : ix_Ev (tL_0 L xs) Q (880, ls, st, μ) = (ix_bin (fun x y => x + y) 881) (ix_Ev (tL_0 L xs) Q) Q ls st μ := ix_Ev.eqM H ((stL_20 L xs 880 (by decide)).trans (ix_lk_app1 rfl)) ls st μ
theorem e_L_881 {L : Nat} {xs : Nat → Int32} (H : ix_Mo (tL_0 L xs)) (Q : ix_R → Prop) (ls : ix_L) (st : List ix_V) (μ : ix_M) : ix_Ev (tL_0 L xs) Q (881, ls, st, μ) = (ix_xld L xs 882) (ix_Ev (tL_0 L xs) Q) Q ls st μ := ix_Ev.eqM H ((stL_20 L xs 881 (by decide)).trans (ix_lk_app1 rfl)) ls st μ
theorem e_L_882 {L : Nat} {xs : Nat → Int32} (H : ix_Mo (tL_0 L xs)) (Q : ix_R → Prop) (ls : ix_L) (st : List ix_V) (μ : ix_M) : ix_Ev (tL_0 L xs) Q (882, ls, st, μ) = (oc_X10_full 885) (ix_Ev (tL_0 L xs) Q) Q ls st μ := ix_Ev.eqM H ((stL_20 L xs 882 (by decide)).trans (ix_lk_app1 rfl)) ls st μ
theorem e_L_885 {L : Nat} {xs : Nat → Int32} (H : ix_Mo (tL_0 L xs)) (Q : ix_R → Prop) (ls : ix_L) (st : List ix_V) (μ : ix_M) : ix_Ev (tL_0 L xs) Q (885, ls, st, μ) = (ix_aload 2 886) (ix_Ev (tL_0 L xs) Q) Q ls st μ := ix_Ev.eqM H ((stL_20 L xs 885 (by decide)).trans (ix_lk_app1 rfl)) ls st μ
theorem e_L_886 {L : Nat} {xs : Nat → Int32} (H : ix_Mo (tL_0 L xs)) (Q : ix_R → Prop) (ls : ix_L) (st : List ix_V) (μ : ix_M) : ix_Ev (tL_0 L xs) Q (886, ls, st, μ) = (ix_aload 0 887) (ix_Ev (tL_0 L xs) Q) Q ls st μ := ix_Ev.eqM H ((stL_20 L xs 886 (by decide)).trans (ix_lk_app1 rfl)) ls st μ
theorem e_L_887 {L : Nat} {xs : Nat → Int32} (H : ix_Mo (tL_0 L xs)) (Q : ix_R → Prop) (ls : ix_L) (st : List ix_V) (μ : ix_M) : ix_Ev (tL_0 L xs) Q (887, ls, st, μ) = (ix_iload 3 888) (ix_Ev (tL_0 L xs) Q) Q ls st μ := ix_Ev.eqM H ((stL_20 L xs 887 (by decide)).trans (ix_lk_app1 rfl)) ls st μ
theorem e_L_888 {L : Nat} {xs : Nat → Int32} (H : ix_Mo (tL_0 L xs)) (Q : ix_R → Prop) (ls : ix_L) (st : List ix_V) (μ : ix_M) : ix_Ev (tL_0 L xs) Q (888, ls, st, μ) = (ix_push (vi 1) 889) (ix_Ev (tL_0 L xs) Q) Q ls st μ := ix_Ev.eqM H ((stL_20 L xs 888 (by decide)).trans (ix_lk_app1 rfl)) ls st μ
theorem e_L_889 {L : Nat} {xs : Nat → Int32} (H : ix_Mo (tL_0 L xs)) (Q : ix_R → Prop) (ls : ix_L) (st : List ix_V) (μ : ix_M) : ix_Ev (tL_0 L xs) Q (889, ls, st, μ) = (ix_bin (fun x y => x + y) 890) (ix_Ev (tL_0 L xs) Q) Q ls st μ := ix_Ev.eqM H ((stL_20 L xs 889 (by decide)).trans (ix_lk_app1 rfl)) ls st μ
theorem e_L_890 {L : Nat} {xs : Nat → Int32} (H : ix_Mo (tL_0 L xs)) (Q : ix_R → Prop) (ls : ix_L) (st : List ix_V) (μ : ix_M) : ix_Ev (tL_0 L xs) Q (890, ls, st, μ) = (ix_xld L xs 891) (ix_Ev (tL_0 L xs) Q) Q ls st μ := ix_Ev.eqM H ((stL_20 L xs 890 (by decide)).trans (ix_lk_app1 rfl)) ls st μ
theorem e_L_891 {L : Nat} {xs : Nat → Int32} (H : ix_Mo (tL_0 L xs)) (Q : ix_R → Prop) (ls : ix_L) (st : List ix_V) (μ : ix_M) : ix_Ev (tL_0 L xs) Q (891, ls, st, μ) = (ix_aload 0 892) (ix_Ev (tL_0 L xs) Q) Q ls st μ := ix_Ev.eqM H ((stL_20 L xs 891 (by decide)).trans (ix_lk_app1 rfl)) ls st μ
theorem e_L_892 {L : Nat} {xs : Nat → Int32} (H : ix_Mo (tL_0 L xs)) (Q : ix_R → Prop) (ls : ix_L) (st : List ix_V) (μ : ix_M) : ix_Ev (tL_0 L xs) Q (892, ls, st, μ) = (ix_iload 3 893) (ix_Ev (tL_0 L xs) Q) Q ls st μ := ix_Ev.eqM H ((stL_20 L xs 892 (by decide)).trans (ix_lk_app1 rfl)) ls st μ
theorem e_L_893 {L : Nat} {xs : Nat → Int32} (H : ix_Mo (tL_0 L xs)) (Q : ix_R → Prop) (ls : ix_L) (st : List ix_V) (μ : ix_M) : ix_Ev (tL_0 L xs) Q (893, ls, st, μ) = (ix_push (vi 2) 894) (ix_Ev (tL_0 L xs) Q) Q ls st μ := ix_Ev.eqM H ((stL_20 L xs 893 (by decide)).trans (ix_lk_app1 rfl)) ls st μ
theorem e_L_894 {L : Nat} {xs : Nat → Int32} (H : ix_Mo (tL_0 L xs)) (Q : ix_R → Prop) (ls : ix_L) (st : List ix_V) (μ : ix_M) : ix_Ev (tL_0 L xs) Q (894, ls, st, μ) = (ix_bin (fun x y => x + y) 895) (ix_Ev (tL_0 L xs) Q) Q ls st μ := ix_Ev.eqM H ((stL_20 L xs 894 (by decide)).trans (ix_lk_app1 rfl)) ls st μ
theorem e_L_895 {L : Nat} {xs : Nat → Int32} (H : ix_Mo (tL_0 L xs)) (Q : ix_R → Prop) (ls : ix_L) (st : List ix_V) (μ : ix_M) : ix_Ev (tL_0 L xs) Q (895, ls, st, μ) = (ix_xld L xs 896) (ix_Ev (tL_0 L xs) Q) Q ls st μ := ix_Ev.eqM H ((stL_20 L xs 895 (by decide)).trans (ix_lk_app1 rfl)) ls st μ
theorem e_L_896 {L : Nat} {xs : Nat → Int32} (H : ix_Mo (tL_0 L xs)) (Q : ix_R → Prop) (ls : ix_L) (st : List ix_V) (μ : ix_M) : ix_Ev (tL_0 L xs) Q (896, ls, st, μ) = (oc_X11_full 899) (ix_Ev (tL_0 L xs) Q) Q ls st μ := ix_Ev.eqM H ((stL_20 L xs 896 (by decide)).trans (ix_lk_app1 rfl)) ls st μ
theorem e_L_899 {L : Nat} {xs : Nat → Int32} (H : ix_Mo (tL_0 L xs)) (Q : ix_R → Prop) (ls : ix_L) (st : List ix_V) (μ : ix_M) : ix_Ev (tL_0 L xs) Q (899, ls, st, μ) = (ix_cmp (fun x y => x = y) 1636 902) (ix_Ev (tL_0 L xs) Q) Q ls st μ := ix_Ev.eqM H ((stL_20 L xs 899 (by decide)).trans (ix_lk_app1 rfl)) ls st μ
theorem e_L_902 {L : Nat} {xs : Nat → Int32} (H : ix_Mo (tL_0 L xs)) (Q : ix_R → Prop) (ls : ix_L) (st : List ix_V) (μ : ix_M) : ix_Ev (tL_0 L xs) Q (902, ls, st, μ) = (ix_push (vi 0) 903) (ix_Ev (tL_0 L xs) Q) Q ls st μ := ix_Ev.eqM H ((stL_20 L xs 902 (by decide)).trans (ix_lk_app1 rfl)) ls st μ
theorem e_L_903 {L : Nat} {xs : Nat → Int32} (H : ix_Mo (tL_0 L xs)) (Q : ix_R → Prop) (ls : ix_L) (st : List ix_V) (μ : ix_M) : ix_Ev (tL_0 L xs) Q (903, ls, st, μ) = ix_zret (ix_Ev (tL_0 L xs) Q) Q ls st μ := ix_Ev.eqM H ((stL_20 L xs 903 (by decide)).trans (ix_lk_app1 rfl)) ls st μ
theorem e_L_904 {L : Nat} {xs : Nat → Int32} (H : ix_Mo (tL_0 L xs)) (Q : ix_R → Prop) (ls : ix_L) (st : List ix_V) (μ : ix_M) : ix_Ev (tL_0 L xs) Q (904, ls, st, μ) = (ix_aload 1 905) (ix_Ev (tL_0 L xs) Q) Q ls st μ := ix_Ev.eqM H ((stL_21 L xs 904 (by decide)).trans (ix_lk_app1 rfl)) ls st μ
theorem e_L_905 {L : Nat} {xs : Nat → Int32} (H : ix_Mo (tL_0 L xs)) (Q : ix_R → Prop) (ls : ix_L) (st : List ix_V) (μ : ix_M) : ix_Ev (tL_0 L xs) Q (905, ls, st, μ) = (ix_aload 0 906) (ix_Ev (tL_0 L xs) Q) Q ls st μ := ix_Ev.eqM H ((stL_21 L xs 905 (by decide)).trans (ix_lk_app1 rfl)) ls st μ
theorem e_L_906 {L : Nat} {xs : Nat → Int32} (H : ix_Mo (tL_0 L xs)) (Q : ix_R → Prop) (ls : ix_L) (st : List ix_V) (μ : ix_M) : ix_Ev (tL_0 L xs) Q (906, ls, st, μ) = (ix_iload 3 907) (ix_Ev (tL_0 L xs) Q) Q ls st μ := ix_Ev.eqM H ((stL_21 L xs 906 (by decide)).trans (ix_lk_app1 rfl)) ls st μ
theorem e_L_907 {L : Nat} {xs : Nat → Int32} (H : ix_Mo (tL_0 L xs)) (Q : ix_R → Prop) (ls : ix_L) (st : List ix_V) (μ : ix_M) : ix_Ev (tL_0 L xs) Q (907, ls, st, μ) = (ix_push (vi 1) 908) (ix_Ev (tL_0 L xs) Q) Q ls st μ := ix_Ev.eqM H ((stL_21 L xs 907 (by decide)).trans (ix_lk_app1 rfl)) ls st μ
theorem e_L_908 {L : Nat} {xs : Nat → Int32} (H : ix_Mo (tL_0 L xs)) (Q : ix_R → Prop) (ls : ix_L) (st : List ix_V) (μ : ix_M) : ix_Ev (tL_0 L xs) Q (908, ls, st, μ) = (ix_bin (fun x y => x + y) 909) (ix_Ev (tL_0 L xs) Q) Q ls st μ := ix_Ev.eqM H ((stL_21 L xs 908 (by decide)).trans (ix_lk_app1 rfl)) ls st μ
theorem e_L_909 {L : Nat} {xs : Nat → Int32} (H : ix_Mo (tL_0 L xs)) (Q : ix_R → Prop) (ls : ix_L) (st : List ix_V) (μ : ix_M) : ix_Ev (tL_0 L xs) Q (909, ls, st, μ) = (ix_xld L xs 910) (ix_Ev (tL_0 L xs) Q) Q ls st μ := ix_Ev.eqM H ((stL_21 L xs 909 (by decide)).trans (ix_lk_app1 rfl)) ls st μ
theorem e_L_910 {L : Nat} {xs : Nat → Int32} (H : ix_Mo (tL_0 L xs)) (Q : ix_R → Prop) (ls : ix_L) (st : List ix_V) (μ : ix_M) : ix_Ev (tL_0 L xs) Q (910, ls, st, μ) = (ix_aload 0 911) (ix_Ev (tL_0 L xs) Q) Q ls st μ := ix_Ev.eqM H ((stL_21 L xs 910 (by decide)).trans (ix_lk_app1 rfl)) ls st μ
theorem e_L_911 {L : Nat} {xs : Nat → Int32} (H : ix_Mo (tL_0 L xs)) (Q : ix_R → Prop) (ls : ix_L) (st : List ix_V) (μ : ix_M) : ix_Ev (tL_0 L xs) Q (911, ls, st, μ) = (ix_iload 3 912) (ix_Ev (tL_0 L xs) Q) Q ls st μ := ix_Ev.eqM H ((stL_21 L xs 911 (by decide)).trans (ix_lk_app1 rfl)) ls st μ
theorem e_L_912 {L : Nat} {xs : Nat → Int32} (H : ix_Mo (tL_0 L xs)) (Q : ix_R → Prop) (ls : ix_L) (st : List ix_V) (μ : ix_M) : ix_Ev (tL_0 L xs) Q (912, ls, st, μ) = (ix_push (vi 2) 913) (ix_Ev (tL_0 L xs) Q) Q ls st μ := ix_Ev.eqM H ((stL_21 L xs 912 (by decide)).trans (ix_lk_app1 rfl)) ls st μ
theorem e_L_913 {L : Nat} {xs : Nat → Int32} (H : ix_Mo (tL_0 L xs)) (Q : ix_R → Prop) (ls : ix_L) (st : List ix_V) (μ : ix_M) : ix_Ev (tL_0 L xs) Q (913, ls, st, μ) = (ix_bin (fun x y => x + y) 914) (ix_Ev (tL_0 L xs) Q) Q ls st μ := ix_Ev.eqM H ((stL_21 L xs 913 (by decide)).trans (ix_lk_app1 rfl)) ls st μ
theorem e_L_914 {L : Nat} {xs : Nat → Int32} (H : ix_Mo (tL_0 L xs)) (Q : ix_R → Prop) (ls : ix_L) (st : List ix_V) (μ : ix_M) : ix_Ev (tL_0 L xs) Q (914, ls, st, μ) = (ix_xld L xs 915) (ix_Ev (tL_0 L xs) Q) Q ls st μ := ix_Ev.eqM H ((stL_21 L xs 914 (by decide)).trans (ix_lk_app1 rfl)) ls st μ
theorem e_L_915 {L : Nat} {xs : Nat → Int32} (H : ix_Mo (tL_0 L xs)) (Q : ix_R → Prop) (ls : ix_L) (st : List ix_V) (μ : ix_M) : ix_Ev (tL_0 L xs) Q (915, ls, st, μ) = (oc_X10_wayFor 918) (ix_Ev (tL_0 L xs) Q) Q ls st μ := ix_Ev.eqM H ((stL_21 L xs 915 (by decide)).trans (ix_lk_app1 rfl)) ls st μ
theorem e_L_918 {L : Nat} {xs : Nat → Int32} (H : ix_Mo (tL_0 L xs)) (Q : ix_R → Prop) (ls : ix_L) (st : List ix_V) (μ : ix_M) : ix_Ev (tL_0 L xs) Q (918, ls, st, μ) = (ix_aload 2 919) (ix_Ev (tL_0 L xs) Q) Q ls st μ := ix_Ev.eqM H ((stL_21 L xs 918 (by decide)).trans (ix_lk_app1 rfl)) ls st μ
theorem e_L_919 {L : Nat} {xs : Nat → Int32} (H : ix_Mo (tL_0 L xs)) (Q : ix_R → Prop) (ls : ix_L) (st : List ix_V) (μ : ix_M) : ix_Ev (tL_0 L xs) Q (919, ls, st, μ) = (ix_aload 0 920) (ix_Ev (tL_0 L xs) Q) Q ls st μ := ix_Ev.eqM H ((stL_21 L xs 919 (by decide)).trans (ix_lk_app1 rfl)) ls st μ
theorem e_L_920 {L : Nat} {xs : Nat → Int32} (H : ix_Mo (tL_0 L xs)) (Q : ix_R → Prop) (ls : ix_L) (st : List ix_V) (μ : ix_M) : ix_Ev (tL_0 L xs) Q (920, ls, st, μ) = (ix_iload 3 921) (ix_Ev (tL_0 L xs) Q) Q ls st μ := ix_Ev.eqM H ((stL_21 L xs 920 (by decide)).trans (ix_lk_app1 rfl)) ls st μ
theorem e_L_921 {L : Nat} {xs : Nat → Int32} (H : ix_Mo (tL_0 L xs)) (Q : ix_R → Prop) (ls : ix_L) (st : List ix_V) (μ : ix_M) : ix_Ev (tL_0 L xs) Q (921, ls, st, μ) = (ix_push (vi 1) 922) (ix_Ev (tL_0 L xs) Q) Q ls st μ := ix_Ev.eqM H ((stL_21 L xs 921 (by decide)).trans (ix_lk_app1 rfl)) ls st μ
theorem e_L_922 {L : Nat} {xs : Nat → Int32} (H : ix_Mo (tL_0 L xs)) (Q : ix_R → Prop) (ls : ix_L) (st : List ix_V) (μ : ix_M) : ix_Ev (tL_0 L xs) Q (922, ls, st, μ) = (ix_bin (fun x y => x + y) 923) (ix_Ev (tL_0 L xs) Q) Q ls st μ := ix_Ev.eqM H ((stL_21 L xs 922 (by decide)).trans (ix_lk_app1 rfl)) ls st μ
theorem e_L_923 {L : Nat} {xs : Nat → Int32} (H : ix_Mo (tL_0 L xs)) (Q : ix_R → Prop) (ls : ix_L) (st : List ix_V) (μ : ix_M) : ix_Ev (tL_0 L xs) Q (923, ls, st, μ) = (ix_xld L xs 924) (ix_Ev (tL_0 L xs) Q) Q ls st μ := ix_Ev.eqM H ((stL_21 L xs 923 (by decide)).trans (ix_lk_app1 rfl)) ls st μ
theorem e_L_924 {L : Nat} {xs : Nat → Int32} (H : ix_Mo (tL_0 L xs)) (Q : ix_R → Prop) (ls : ix_L) (st : List ix_V) (μ : ix_M) : ix_Ev (tL_0 L xs) Q (924, ls, st, μ) = (ix_aload 0 925) (ix_Ev (tL_0 L xs) Q) Q ls st μ := ix_Ev.eqM H ((stL_21 L xs 924 (by decide)).trans (ix_lk_app1 rfl)) ls st μ
theorem e_L_925 {L : Nat} {xs : Nat → Int32} (H : ix_Mo (tL_0 L xs)) (Q : ix_R → Prop) (ls : ix_L) (st : List ix_V) (μ : ix_M) : ix_Ev (tL_0 L xs) Q (925, ls, st, μ) = (ix_iload 3 926) (ix_Ev (tL_0 L xs) Q) Q ls st μ := ix_Ev.eqM H ((stL_21 L xs 925 (by decide)).trans (ix_lk_app1 rfl)) ls st μ
theorem e_L_926 {L : Nat} {xs : Nat → Int32} (H : ix_Mo (tL_0 L xs)) (Q : ix_R → Prop) (ls : ix_L) (st : List ix_V) (μ : ix_M) : ix_Ev (tL_0 L xs) Q (926, ls, st, μ) = (ix_push (vi 2) 927) (ix_Ev (tL_0 L xs) Q) Q ls st μ := ix_Ev.eqM H ((stL_21 L xs 926 (by decide)).trans (ix_lk_app1 rfl)) ls st μ
theorem e_L_927 {L : Nat} {xs : Nat → Int32} (H : ix_Mo (tL_0 L xs)) (Q : ix_R → Prop) (ls : ix_L) (st : List ix_V) (μ : ix_M) : ix_Ev (tL_0 L xs) Q (927, ls, st, μ) = (ix_bin (fun x y => x + y) 928) (ix_Ev (tL_0 L xs) Q) Q ls st μ := ix_Ev.eqM H ((stL_21 L xs 927 (by decide)).trans (ix_lk_app1 rfl)) ls st μ
theorem e_L_928 {L : Nat} {xs : Nat → Int32} (H : ix_Mo (tL_0 L xs)) (Q : ix_R → Prop) (ls : ix_L) (st : List ix_V) (μ : ix_M) : ix_Ev (tL_0 L xs) Q (928, ls, st, μ) = (ix_xld L xs 929) (ix_Ev (tL_0 L xs) Q) Q ls st μ := ix_Ev.eqM H ((stL_21 L xs 928 (by decide)).trans (ix_lk_app1 rfl)) ls st μ
theorem e_L_929 {L : Nat} {xs : Nat → Int32} (H : ix_Mo (tL_0 L xs)) (Q : ix_R → Prop) (ls : ix_L) (st : List ix_V) (μ : ix_M) : ix_Ev (tL_0 L xs) Q (929, ls, st, μ) = (oc_X11_wayFor 932) (ix_Ev (tL_0 L xs) Q) Q ls st μ := ix_Ev.eqM H ((stL_21 L xs 929 (by decide)).trans (ix_lk_app1 rfl)) ls st μ
theorem e_L_932 {L : Nat} {xs : Nat → Int32} (H : ix_Mo (tL_0 L xs)) (Q : ix_R → Prop) (ls : ix_L) (st : List ix_V) (μ : ix_M) : ix_Ev (tL_0 L xs) Q (932, ls, st, μ) = (ix_cmp (fun x y => x = y) 1636 935) (ix_Ev (tL_0 L xs) Q) Q ls st μ := ix_Ev.eqM H ((stL_21 L xs 932 (by decide)).trans (ix_lk_app1 rfl)) ls st μ
theorem e_L_935 {L : Nat} {xs : Nat → Int32} (H : ix_Mo (tL_0 L xs)) (Q : ix_R → Prop) (ls : ix_L) (st : List ix_V) (μ : ix_M) : ix_Ev (tL_0 L xs) Q (935, ls, st, μ) = (ix_push (vi 0) 936) (ix_Ev (tL_0 L xs) Q) Q ls st μ := ix_Ev.eqM H ((stL_21 L xs 935 (by decide)).trans (ix_lk_app1 rfl)) ls st μ
theorem e_L_936 {L : Nat} {xs : Nat → Int32} (H : ix_Mo (tL_0 L xs)) (Q : ix_R → Prop) (ls : ix_L) (st : List ix_V) (μ : ix_M) : ix_Ev (tL_0 L xs) Q (936, ls, st, μ) = ix_zret (ix_Ev (tL_0 L xs) Q) Q ls st μ := ix_Ev.eqM H ((stL_21 L xs 936 (by decide)).trans (ix_lk_app1 rfl)) ls st μ
theorem e_L_937 {L : Nat} {xs : Nat → Int32} (H : ix_Mo (tL_0 L xs)) (Q : ix_R → Prop) (ls : ix_L) (st : List ix_V) (μ : ix_M) : ix_Ev (tL_0 L xs) Q (937, ls, st, μ) = (ix_aload 1 938) (ix_Ev (tL_0 L xs) Q) Q ls st μ := ix_Ev.eqM H ((stL_22 L xs 937 (by decide)).trans (ix_lk_app1 rfl)) ls st μ
theorem e_L_938 {L : Nat} {xs : Nat → Int32} (H : ix_Mo (tL_0 L xs)) (Q : ix_R → Prop) (ls : ix_L) (st : List ix_V) (μ : ix_M) : ix_Ev (tL_0 L xs) Q (938, ls, st, μ) = (ix_aload 0 939) (ix_Ev (tL_0 L xs) Q) Q ls st μ := ix_Ev.eqM H ((stL_22 L xs 938 (by decide)).trans (ix_lk_app1 rfl)) ls st μ
theorem e_L_939 {L : Nat} {xs : Nat → Int32} (H : ix_Mo (tL_0 L xs)) (Q : ix_R → Prop) (ls : ix_L) (st : List ix_V) (μ : ix_M) : ix_Ev (tL_0 L xs) Q (939, ls, st, μ) = (ix_iload 3 940) (ix_Ev (tL_0 L xs) Q) Q ls st μ := ix_Ev.eqM H ((stL_22 L xs 939 (by decide)).trans (ix_lk_app1 rfl)) ls st μ
theorem e_L_940 {L : Nat} {xs : Nat → Int32} (H : ix_Mo (tL_0 L xs)) (Q : ix_R → Prop) (ls : ix_L) (st : List ix_V) (μ : ix_M) : ix_Ev (tL_0 L xs) Q (940, ls, st, μ) = (ix_push (vi 1) 941) (ix_Ev (tL_0 L xs) Q) Q ls st μ := ix_Ev.eqM H ((stL_22 L xs 940 (by decide)).trans (ix_lk_app1 rfl)) ls st μ
theorem e_L_941 {L : Nat} {xs : Nat → Int32} (H : ix_Mo (tL_0 L xs)) (Q : ix_R → Prop) (ls : ix_L) (st : List ix_V) (μ : ix_M) : ix_Ev (tL_0 L xs) Q (941, ls, st, μ) = (ix_bin (fun x y => x + y) 942) (ix_Ev (tL_0 L xs) Q) Q ls st μ := ix_Ev.eqM H ((stL_22 L xs 941 (by decide)).trans (ix_lk_app1 rfl)) ls st μ
theorem e_L_942 {L : Nat} {xs : Nat → Int32} (H : ix_Mo (tL_0 L xs)) (Q : ix_R → Prop) (ls : ix_L) (st : List ix_V) (μ : ix_M) : ix_Ev (tL_0 L xs) Q (942, ls, st, μ) = (ix_xld L xs 943) (ix_Ev (tL_0 L xs) Q) Q ls st μ := ix_Ev.eqM H ((stL_22 L xs 942 (by decide)).trans (ix_lk_app1 rfl)) ls st μ
theorem e_L_943 {L : Nat} {xs : Nat → Int32} (H : ix_Mo (tL_0 L xs)) (Q : ix_R → Prop) (ls : ix_L) (st : List ix_V) (μ : ix_M) : ix_Ev (tL_0 L xs) Q (943, ls, st, μ) = (ix_aload 0 944) (ix_Ev (tL_0 L xs) Q) Q ls st μ := ix_Ev.eqM H ((stL_22 L xs 943 (by decide)).trans (ix_lk_app1 rfl)) ls st μ
theorem e_L_944 {L : Nat} {xs : Nat → Int32} (H : ix_Mo (tL_0 L xs)) (Q : ix_R → Prop) (ls : ix_L) (st : List ix_V) (μ : ix_M) : ix_Ev (tL_0 L xs) Q (944, ls, st, μ) = (ix_iload 3 945) (ix_Ev (tL_0 L xs) Q) Q ls st μ := ix_Ev.eqM H ((stL_22 L xs 944 (by decide)).trans (ix_lk_app1 rfl)) ls st μ
theorem e_L_945 {L : Nat} {xs : Nat → Int32} (H : ix_Mo (tL_0 L xs)) (Q : ix_R → Prop) (ls : ix_L) (st : List ix_V) (μ : ix_M) : ix_Ev (tL_0 L xs) Q (945, ls, st, μ) = (ix_push (vi 2) 946) (ix_Ev (tL_0 L xs) Q) Q ls st μ := ix_Ev.eqM H ((stL_22 L xs 945 (by decide)).trans (ix_lk_app1 rfl)) ls st μ
theorem e_L_946 {L : Nat} {xs : Nat → Int32} (H : ix_Mo (tL_0 L xs)) (Q : ix_R → Prop) (ls : ix_L) (st : List ix_V) (μ : ix_M) : ix_Ev (tL_0 L xs) Q (946, ls, st, μ) = (ix_bin (fun x y => x + y) 947) (ix_Ev (tL_0 L xs) Q) Q ls st μ := ix_Ev.eqM H ((stL_22 L xs 946 (by decide)).trans (ix_lk_app1 rfl)) ls st μ
theorem e_L_947 {L : Nat} {xs : Nat → Int32} (H : ix_Mo (tL_0 L xs)) (Q : ix_R → Prop) (ls : ix_L) (st : List ix_V) (μ : ix_M) : ix_Ev (tL_0 L xs) Q (947, ls, st, μ) = (ix_xld L xs 948) (ix_Ev (tL_0 L xs) Q) Q ls st μ := ix_Ev.eqM H ((stL_22 L xs 947 (by decide)).trans (ix_lk_app1 rfl)) ls st μ
theorem e_L_948 {L : Nat} {xs : Nat → Int32} (H : ix_Mo (tL_0 L xs)) (Q : ix_R → Prop) (ls : ix_L) (st : List ix_V) (μ : ix_M) : ix_Ev (tL_0 L xs) Q (948, ls, st, μ) = (oc_X10_cellFor 951) (ix_Ev (tL_0 L xs) Q) Q ls st μ := ix_Ev.eqM H ((stL_22 L xs 948 (by decide)).trans (ix_lk_app1 rfl)) ls st μ
theorem e_L_951 {L : Nat} {xs : Nat → Int32} (H : ix_Mo (tL_0 L xs)) (Q : ix_R → Prop) (ls : ix_L) (st : List ix_V) (μ : ix_M) : ix_Ev (tL_0 L xs) Q (951, ls, st, μ) = (ix_aload 2 952) (ix_Ev (tL_0 L xs) Q) Q ls st μ := ix_Ev.eqM H ((stL_22 L xs 951 (by decide)).trans (ix_lk_app1 rfl)) ls st μ
theorem e_L_952 {L : Nat} {xs : Nat → Int32} (H : ix_Mo (tL_0 L xs)) (Q : ix_R → Prop) (ls : ix_L) (st : List ix_V) (μ : ix_M) : ix_Ev (tL_0 L xs) Q (952, ls, st, μ) = (ix_aload 0 953) (ix_Ev (tL_0 L xs) Q) Q ls st μ := ix_Ev.eqM H ((stL_22 L xs 952 (by decide)).trans (ix_lk_app1 rfl)) ls st μ
theorem e_L_953 {L : Nat} {xs : Nat → Int32} (H : ix_Mo (tL_0 L xs)) (Q : ix_R → Prop) (ls : ix_L) (st : List ix_V) (μ : ix_M) : ix_Ev (tL_0 L xs) Q (953, ls, st, μ) = (ix_iload 3 954) (ix_Ev (tL_0 L xs) Q) Q ls st μ := ix_Ev.eqM H ((stL_22 L xs 953 (by decide)).trans (ix_lk_app1 rfl)) ls st μ
theorem e_L_954 {L : Nat} {xs : Nat → Int32} (H : ix_Mo (tL_0 L xs)) (Q : ix_R → Prop) (ls : ix_L) (st : List ix_V) (μ : ix_M) : ix_Ev (tL_0 L xs) Q (954, ls, st, μ) = (ix_push (vi 1) 955) (ix_Ev (tL_0 L xs) Q) Q ls st μ := ix_Ev.eqM H ((stL_22 L xs 954 (by decide)).trans (ix_lk_app1 rfl)) ls st μ
theorem e_L_955 {L : Nat} {xs : Nat → Int32} (H : ix_Mo (tL_0 L xs)) (Q : ix_R → Prop) (ls : ix_L) (st : List ix_V) (μ : ix_M) : ix_Ev (tL_0 L xs) Q (955, ls, st, μ) = (ix_bin (fun x y => x + y) 956) (ix_Ev (tL_0 L xs) Q) Q ls st μ := ix_Ev.eqM H ((stL_22 L xs 955 (by decide)).trans (ix_lk_app1 rfl)) ls st μ
theorem e_L_956 {L : Nat} {xs : Nat → Int32} (H : ix_Mo (tL_0 L xs)) (Q : ix_R → Prop) (ls : ix_L) (st : List ix_V) (μ : ix_M) : ix_Ev (tL_0 L xs) Q (956, ls, st, μ) = (ix_xld L xs 957) (ix_Ev (tL_0 L xs) Q) Q ls st μ := ix_Ev.eqM H ((stL_22 L xs 956 (by decide)).trans (ix_lk_app1 rfl)) ls st μ
theorem e_L_957 {L : Nat} {xs : Nat → Int32} (H : ix_Mo (tL_0 L xs)) (Q : ix_R → Prop) (ls : ix_L) (st : List ix_V) (μ : ix_M) : ix_Ev (tL_0 L xs) Q (957, ls, st, μ) = (ix_aload 0 958) (ix_Ev (tL_0 L xs) Q) Q ls st μ := ix_Ev.eqM H ((stL_22 L xs 957 (by decide)).trans (ix_lk_app1 rfl)) ls st μ
theorem e_L_958 {L : Nat} {xs : Nat → Int32} (H : ix_Mo (tL_0 L xs)) (Q : ix_R → Prop) (ls : ix_L) (st : List ix_V) (μ : ix_M) : ix_Ev (tL_0 L xs) Q (958, ls, st, μ) = (ix_iload 3 959) (ix_Ev (tL_0 L xs) Q) Q ls st μ := ix_Ev.eqM H ((stL_22 L xs 958 (by decide)).trans (ix_lk_app1 rfl)) ls st μ
theorem e_L_959 {L : Nat} {xs : Nat → Int32} (H : ix_Mo (tL_0 L xs)) (Q : ix_R → Prop) (ls : ix_L) (st : List ix_V) (μ : ix_M) : ix_Ev (tL_0 L xs) Q (959, ls, st, μ) = (ix_push (vi 2) 960) (ix_Ev (tL_0 L xs) Q) Q ls st μ := ix_Ev.eqM H ((stL_22 L xs 959 (by decide)).trans (ix_lk_app1 rfl)) ls st μ
theorem e_L_960 {L : Nat} {xs : Nat → Int32} (H : ix_Mo (tL_0 L xs)) (Q : ix_R → Prop) (ls : ix_L) (st : List ix_V) (μ : ix_M) : ix_Ev (tL_0 L xs) Q (960, ls, st, μ) = (ix_bin (fun x y => x + y) 961) (ix_Ev (tL_0 L xs) Q) Q ls st μ := ix_Ev.eqM H ((stL_22 L xs 960 (by decide)).trans (ix_lk_app1 rfl)) ls st μ
theorem e_L_961 {L : Nat} {xs : Nat → Int32} (H : ix_Mo (tL_0 L xs)) (Q : ix_R → Prop) (ls : ix_L) (st : List ix_V) (μ : ix_M) : ix_Ev (tL_0 L xs) Q (961, ls, st, μ) = (ix_xld L xs 962) (ix_Ev (tL_0 L xs) Q) Q ls st μ := ix_Ev.eqM H ((stL_22 L xs 961 (by decide)).trans (ix_lk_app1 rfl)) ls st μ
theorem e_L_962 {L : Nat} {xs : Nat → Int32} (H : ix_Mo (tL_0 L xs)) (Q : ix_R → Prop) (ls : ix_L) (st : List ix_V) (μ : ix_M) : ix_Ev (tL_0 L xs) Q (962, ls, st, μ) = (oc_X11_cellFor 965) (ix_Ev (tL_0 L xs) Q) Q ls st μ := ix_Ev.eqM H ((stL_22 L xs 962 (by decide)).trans (ix_lk_app1 rfl)) ls st μ
theorem e_L_965 {L : Nat} {xs : Nat → Int32} (H : ix_Mo (tL_0 L xs)) (Q : ix_R → Prop) (ls : ix_L) (st : List ix_V) (μ : ix_M) : ix_Ev (tL_0 L xs) Q (965, ls, st, μ) = (ix_cmp (fun x y => x = y) 1636 968) (ix_Ev (tL_0 L xs) Q) Q ls st μ := ix_Ev.eqM H ((stL_22 L xs 965 (by decide)).trans (ix_lk_app1 rfl)) ls st μ
theorem e_L_968 {L : Nat} {xs : Nat → Int32} (H : ix_Mo (tL_0 L xs)) (Q : ix_R → Prop) (ls : ix_L) (st : List ix_V) (μ : ix_M) : ix_Ev (tL_0 L xs) Q (968, ls, st, μ) = (ix_push (vi 0) 969) (ix_Ev (tL_0 L xs) Q) Q ls st μ := ix_Ev.eqM H ((stL_22 L xs 968 (by decide)).trans (ix_lk_app1 rfl)) ls st μ
theorem e_L_969 {L : Nat} {xs : Nat → Int32} (H : ix_Mo (tL_0 L xs)) (Q : ix_R → Prop) (ls : ix_L) (st : List ix_V) (μ : ix_M) : ix_Ev (tL_0 L xs) Q (969, ls, st, μ) = ix_zret (ix_Ev (tL_0 L xs) Q) Q ls st μ := ix_Ev.eqM H ((stL_22 L xs 969 (by decide)).trans (ix_lk_app1 rfl)) ls st μ
theorem e_L_970 {L : Nat} {xs : Nat → Int32} (H : ix_Mo (tL_0 L xs)) (Q : ix_R → Prop) (ls : ix_L) (st : List ix_V) (μ : ix_M) : ix_Ev (tL_0 L xs) Q (970, ls, st, μ) = (ix_aload 1 971) (ix_Ev (tL_0 L xs) Q) Q ls st μ := ix_Ev.eqM H ((stL_23 L xs 970 (by decide)).trans (ix_lk_app1 rfl)) ls st μ
theorem e_L_971 {L : Nat} {xs : Nat → Int32} (H : ix_Mo (tL_0 L xs)) (Q : ix_R → Prop) (ls : ix_L) (st : List ix_V) (μ : ix_M) : ix_Ev (tL_0 L xs) Q (971, ls, st, μ) = (ix_aload 0 972) (ix_Ev (tL_0 L xs) Q) Q ls st μ := ix_Ev.eqM H ((stL_23 L xs 971 (by decide)).trans (ix_lk_app1 rfl)) ls st μ
theorem e_L_972 {L : Nat} {xs : Nat → Int32} (H : ix_Mo (tL_0 L xs)) (Q : ix_R → Prop) (ls : ix_L) (st : List ix_V) (μ : ix_M) : ix_Ev (tL_0 L xs) Q (972, ls, st, μ) = (ix_iload 3 973) (ix_Ev (tL_0 L xs) Q) Q ls st μ := ix_Ev.eqM H ((stL_23 L xs 972 (by decide)).trans (ix_lk_app1 rfl)) ls st μ
theorem e_L_973 {L : Nat} {xs : Nat → Int32} (H : ix_Mo (tL_0 L xs)) (Q : ix_R → Prop) (ls : ix_L) (st : List ix_V) (μ : ix_M) : ix_Ev (tL_0 L xs) Q (973, ls, st, μ) = (ix_push (vi 1) 974) (ix_Ev (tL_0 L xs) Q) Q ls st μ := ix_Ev.eqM H ((stL_23 L xs 973 (by decide)).trans (ix_lk_app1 rfl)) ls st μ
theorem e_L_974 {L : Nat} {xs : Nat → Int32} (H : ix_Mo (tL_0 L xs)) (Q : ix_R → Prop) (ls : ix_L) (st : List ix_V) (μ : ix_M) : ix_Ev (tL_0 L xs) Q (974, ls, st, μ) = (ix_bin (fun x y => x + y) 975) (ix_Ev (tL_0 L xs) Q) Q ls st μ := ix_Ev.eqM H ((stL_23 L xs 974 (by decide)).trans (ix_lk_app1 rfl)) ls st μ
theorem e_L_975 {L : Nat} {xs : Nat → Int32} (H : ix_Mo (tL_0 L xs)) (Q : ix_R → Prop) (ls : ix_L) (st : List ix_V) (μ : ix_M) : ix_Ev (tL_0 L xs) Q (975, ls, st, μ) = (ix_xld L xs 976) (ix_Ev (tL_0 L xs) Q) Q ls st μ := ix_Ev.eqM H ((stL_23 L xs 975 (by decide)).trans (ix_lk_app1 rfl)) ls st μ
theorem e_L_976 {L : Nat} {xs : Nat → Int32} (H : ix_Mo (tL_0 L xs)) (Q : ix_R → Prop) (ls : ix_L) (st : List ix_V) (μ : ix_M) : ix_Ev (tL_0 L xs) Q (976, ls, st, μ) = (ix_aload 0 977) (ix_Ev (tL_0 L xs) Q) Q ls st μ := ix_Ev.eqM H ((stL_23 L xs 976 (by decide)).trans (ix_lk_app1 rfl)) ls st μ
theorem e_L_977 {L : Nat} {xs : Nat → Int32} (H : ix_Mo (tL_0 L xs)) (Q : ix_R → Prop) (ls : ix_L) (st : List ix_V) (μ : ix_M) : ix_Ev (tL_0 L xs) Q (977, ls, st, μ) = (ix_iload 3 978) (ix_Ev (tL_0 L xs) Q) Q ls st μ := ix_Ev.eqM H ((stL_23 L xs 977 (by decide)).trans (ix_lk_app1 rfl)) ls st μ
theorem e_L_978 {L : Nat} {xs : Nat → Int32} (H : ix_Mo (tL_0 L xs)) (Q : ix_R → Prop) (ls : ix_L) (st : List ix_V) (μ : ix_M) : ix_Ev (tL_0 L xs) Q (978, ls, st, μ) = (ix_push (vi 2) 979) (ix_Ev (tL_0 L xs) Q) Q ls st μ := ix_Ev.eqM H ((stL_23 L xs 978 (by decide)).trans (ix_lk_app1 rfl)) ls st μ
theorem e_L_979 {L : Nat} {xs : Nat → Int32} (H : ix_Mo (tL_0 L xs)) (Q : ix_R → Prop) (ls : ix_L) (st : List ix_V) (μ : ix_M) : ix_Ev (tL_0 L xs) Q (979, ls, st, μ) = (ix_bin (fun x y => x + y) 980) (ix_Ev (tL_0 L xs) Q) Q ls st μ := ix_Ev.eqM H ((stL_23 L xs 979 (by decide)).trans (ix_lk_app1 rfl)) ls st μ
theorem e_L_980 {L : Nat} {xs : Nat → Int32} (H : ix_Mo (tL_0 L xs)) (Q : ix_R → Prop) (ls : ix_L) (st : List ix_V) (μ : ix_M) : ix_Ev (tL_0 L xs) Q (980, ls, st, μ) = (ix_xld L xs 981) (ix_Ev (tL_0 L xs) Q) Q ls st μ := ix_Ev.eqM H ((stL_23 L xs 980 (by decide)).trans (ix_lk_app1 rfl)) ls st μ
theorem e_L_981 {L : Nat} {xs : Nat → Int32} (H : ix_Mo (tL_0 L xs)) (Q : ix_R → Prop) (ls : ix_L) (st : List ix_V) (μ : ix_M) : ix_Ev (tL_0 L xs) Q (981, ls, st, μ) = (oc_X10_kindFor 984) (ix_Ev (tL_0 L xs) Q) Q ls st μ := ix_Ev.eqM H ((stL_23 L xs 981 (by decide)).trans (ix_lk_app1 rfl)) ls st μ
theorem e_L_984 {L : Nat} {xs : Nat → Int32} (H : ix_Mo (tL_0 L xs)) (Q : ix_R → Prop) (ls : ix_L) (st : List ix_V) (μ : ix_M) : ix_Ev (tL_0 L xs) Q (984, ls, st, μ) = (ix_aload 2 985) (ix_Ev (tL_0 L xs) Q) Q ls st μ := ix_Ev.eqM H ((stL_23 L xs 984 (by decide)).trans (ix_lk_app1 rfl)) ls st μ
theorem e_L_985 {L : Nat} {xs : Nat → Int32} (H : ix_Mo (tL_0 L xs)) (Q : ix_R → Prop) (ls : ix_L) (st : List ix_V) (μ : ix_M) : ix_Ev (tL_0 L xs) Q (985, ls, st, μ) = (ix_aload 0 986) (ix_Ev (tL_0 L xs) Q) Q ls st μ := ix_Ev.eqM H ((stL_23 L xs 985 (by decide)).trans (ix_lk_app1 rfl)) ls st μ
theorem e_L_986 {L : Nat} {xs : Nat → Int32} (H : ix_Mo (tL_0 L xs)) (Q : ix_R → Prop) (ls : ix_L) (st : List ix_V) (μ : ix_M) : ix_Ev (tL_0 L xs) Q (986, ls, st, μ) = (ix_iload 3 987) (ix_Ev (tL_0 L xs) Q) Q ls st μ := ix_Ev.eqM H ((stL_23 L xs 986 (by decide)).trans (ix_lk_app1 rfl)) ls st μ
theorem e_L_987 {L : Nat} {xs : Nat → Int32} (H : ix_Mo (tL_0 L xs)) (Q : ix_R → Prop) (ls : ix_L) (st : List ix_V) (μ : ix_M) : ix_Ev (tL_0 L xs) Q (987, ls, st, μ) = (ix_push (vi 1) 988) (ix_Ev (tL_0 L xs) Q) Q ls st μ := ix_Ev.eqM H ((stL_23 L xs 987 (by decide)).trans (ix_lk_app1 rfl)) ls st μ
theorem e_L_988 {L : Nat} {xs : Nat → Int32} (H : ix_Mo (tL_0 L xs)) (Q : ix_R → Prop) (ls : ix_L) (st : List ix_V) (μ : ix_M) : ix_Ev (tL_0 L xs) Q (988, ls, st, μ) = (ix_bin (fun x y => x + y) 989) (ix_Ev (tL_0 L xs) Q) Q ls st μ := ix_Ev.eqM H ((stL_23 L xs 988 (by decide)).trans (ix_lk_app1 rfl)) ls st μ
theorem e_L_989 {L : Nat} {xs : Nat → Int32} (H : ix_Mo (tL_0 L xs)) (Q : ix_R → Prop) (ls : ix_L) (st : List ix_V) (μ : ix_M) : ix_Ev (tL_0 L xs) Q (989, ls, st, μ) = (ix_xld L xs 990) (ix_Ev (tL_0 L xs) Q) Q ls st μ := ix_Ev.eqM H ((stL_23 L xs 989 (by decide)).trans (ix_lk_app1 rfl)) ls st μ
theorem e_L_990 {L : Nat} {xs : Nat → Int32} (H : ix_Mo (tL_0 L xs)) (Q : ix_R → Prop) (ls : ix_L) (st : List ix_V) (μ : ix_M) : ix_Ev (tL_0 L xs) Q (990, ls, st, μ) = (ix_aload 0 991) (ix_Ev (tL_0 L xs) Q) Q ls st μ := ix_Ev.eqM H ((stL_23 L xs 990 (by decide)).trans (ix_lk_app1 rfl)) ls st μ
theorem e_L_991 {L : Nat} {xs : Nat → Int32} (H : ix_Mo (tL_0 L xs)) (Q : ix_R → Prop) (ls : ix_L) (st : List ix_V) (μ : ix_M) : ix_Ev (tL_0 L xs) Q (991, ls, st, μ) = (ix_iload 3 992) (ix_Ev (tL_0 L xs) Q) Q ls st μ := ix_Ev.eqM H ((stL_23 L xs 991 (by decide)).trans (ix_lk_app1 rfl)) ls st μ
theorem e_L_992 {L : Nat} {xs : Nat → Int32} (H : ix_Mo (tL_0 L xs)) (Q : ix_R → Prop) (ls : ix_L) (st : List ix_V) (μ : ix_M) : ix_Ev (tL_0 L xs) Q (992, ls, st, μ) = (ix_push (vi 2) 993) (ix_Ev (tL_0 L xs) Q) Q ls st μ := ix_Ev.eqM H ((stL_23 L xs 992 (by decide)).trans (ix_lk_app1 rfl)) ls st μ
theorem e_L_993 {L : Nat} {xs : Nat → Int32} (H : ix_Mo (tL_0 L xs)) (Q : ix_R → Prop) (ls : ix_L) (st : List ix_V) (μ : ix_M) : ix_Ev (tL_0 L xs) Q (993, ls, st, μ) = (ix_bin (fun x y => x + y) 994) (ix_Ev (tL_0 L xs) Q) Q ls st μ := ix_Ev.eqM H ((stL_23 L xs 993 (by decide)).trans (ix_lk_app1 rfl)) ls st μ
theorem e_L_994 {L : Nat} {xs : Nat → Int32} (H : ix_Mo (tL_0 L xs)) (Q : ix_R → Prop) (ls : ix_L) (st : List ix_V) (μ : ix_M) : ix_Ev (tL_0 L xs) Q (994, ls, st, μ) = (ix_xld L xs 995) (ix_Ev (tL_0 L xs) Q) Q ls st μ := ix_Ev.eqM H ((stL_23 L xs 994 (by decide)).trans (ix_lk_app1 rfl)) ls st μ
theorem e_L_995 {L : Nat} {xs : Nat → Int32} (H : ix_Mo (tL_0 L xs)) (Q : ix_R → Prop) (ls : ix_L) (st : List ix_V) (μ : ix_M) : ix_Ev (tL_0 L xs) Q (995, ls, st, μ) = (oc_X11_kindFor 998) (ix_Ev (tL_0 L xs) Q) Q ls st μ := ix_Ev.eqM H ((stL_23 L xs 995 (by decide)).trans (ix_lk_app1 rfl)) ls st μ
theorem e_L_998 {L : Nat} {xs : Nat → Int32} (H : ix_Mo (tL_0 L xs)) (Q : ix_R → Prop) (ls : ix_L) (st : List ix_V) (μ : ix_M) : ix_Ev (tL_0 L xs) Q (998, ls, st, μ) = (ix_cmp (fun x y => x = y) 1636 1001) (ix_Ev (tL_0 L xs) Q) Q ls st μ := ix_Ev.eqM H ((stL_23 L xs 998 (by decide)).trans (ix_lk_app1 rfl)) ls st μ
theorem e_L_1001 {L : Nat} {xs : Nat → Int32} (H : ix_Mo (tL_0 L xs)) (Q : ix_R → Prop) (ls : ix_L) (st : List ix_V) (μ : ix_M) : ix_Ev (tL_0 L xs) Q (1001, ls, st, μ) = (ix_push (vi 0) 1002) (ix_Ev (tL_0 L xs) Q) Q ls st μ := ix_Ev.eqM H ((stL_23 L xs 1001 (by decide)).trans (ix_lk_app1 rfl)) ls st μ
theorem e_L_1002 {L : Nat} {xs : Nat → Int32} (H : ix_Mo (tL_0 L xs)) (Q : ix_R → Prop) (ls : ix_L) (st : List ix_V) (μ : ix_M) : ix_Ev (tL_0 L xs) Q (1002, ls, st, μ) = ix_zret (ix_Ev (tL_0 L xs) Q) Q ls st μ := ix_Ev.eqM H ((stL_23 L xs 1002 (by decide)).trans (ix_lk_app1 rfl)) ls st μ
theorem e_L_1003 {L : Nat} {xs : Nat → Int32} (H : ix_Mo (tL_0 L xs)) (Q : ix_R → Prop) (ls : ix_L) (st : List ix_V) (μ : ix_M) : ix_Ev (tL_0 L xs) Q (1003, ls, st, μ) = (ix_aload 1 1004) (ix_Ev (tL_0 L xs) Q) Q ls st μ := ix_Ev.eqM H ((stL_24 L xs 1003 (by decide)).trans (ix_lk_app1 rfl)) ls st μ
theorem e_L_1004 {L : Nat} {xs : Nat → Int32} (H : ix_Mo (tL_0 L xs)) (Q : ix_R → Prop) (ls : ix_L) (st : List ix_V) (μ : ix_M) : ix_Ev (tL_0 L xs) Q (1004, ls, st, μ) = (ix_aload 0 1005) (ix_Ev (tL_0 L xs) Q) Q ls st μ := ix_Ev.eqM H ((stL_24 L xs 1004 (by decide)).trans (ix_lk_app1 rfl)) ls st μ
theorem e_L_1005 {L : Nat} {xs : Nat → Int32} (H : ix_Mo (tL_0 L xs)) (Q : ix_R → Prop) (ls : ix_L) (st : List ix_V) (μ : ix_M) : ix_Ev (tL_0 L xs) Q (1005, ls, st, μ) = (ix_iload 3 1006) (ix_Ev (tL_0 L xs) Q) Q ls st μ := ix_Ev.eqM H ((stL_24 L xs 1005 (by decide)).trans (ix_lk_app1 rfl)) ls st μ
theorem e_L_1006 {L : Nat} {xs : Nat → Int32} (H : ix_Mo (tL_0 L xs)) (Q : ix_R → Prop) (ls : ix_L) (st : List ix_V) (μ : ix_M) : ix_Ev (tL_0 L xs) Q (1006, ls, st, μ) = (ix_push (vi 1) 1007) (ix_Ev (tL_0 L xs) Q) Q ls st μ := ix_Ev.eqM H ((stL_24 L xs 1006 (by decide)).trans (ix_lk_app1 rfl)) ls st μ
theorem e_L_1007 {L : Nat} {xs : Nat → Int32} (H : ix_Mo (tL_0 L xs)) (Q : ix_R → Prop) (ls : ix_L) (st : List ix_V) (μ : ix_M) : ix_Ev (tL_0 L xs) Q (1007, ls, st, μ) = (ix_bin (fun x y => x + y) 1008) (ix_Ev (tL_0 L xs) Q) Q ls st μ := ix_Ev.eqM H ((stL_24 L xs 1007 (by decide)).trans (ix_lk_app1 rfl)) ls st μ
theorem e_L_1008 {L : Nat} {xs : Nat → Int32} (H : ix_Mo (tL_0 L xs)) (Q : ix_R → Prop) (ls : ix_L) (st : List ix_V) (μ : ix_M) : ix_Ev (tL_0 L xs) Q (1008, ls, st, μ) = (ix_xld L xs 1009) (ix_Ev (tL_0 L xs) Q) Q ls st μ := ix_Ev.eqM H ((stL_24 L xs 1008 (by decide)).trans (ix_lk_app1 rfl)) ls st μ
theorem e_L_1009 {L : Nat} {xs : Nat → Int32} (H : ix_Mo (tL_0 L xs)) (Q : ix_R → Prop) (ls : ix_L) (st : List ix_V) (μ : ix_M) : ix_Ev (tL_0 L xs) Q (1009, ls, st, μ) = (ix_aload 0 1010) (ix_Ev (tL_0 L xs) Q) Q ls st μ := ix_Ev.eqM H ((stL_24 L xs 1009 (by decide)).trans (ix_lk_app1 rfl)) ls st μ
theorem e_L_1010 {L : Nat} {xs : Nat → Int32} (H : ix_Mo (tL_0 L xs)) (Q : ix_R → Prop) (ls : ix_L) (st : List ix_V) (μ : ix_M) : ix_Ev (tL_0 L xs) Q (1010, ls, st, μ) = (ix_iload 3 1011) (ix_Ev (tL_0 L xs) Q) Q ls st μ := ix_Ev.eqM H ((stL_24 L xs 1010 (by decide)).trans (ix_lk_app1 rfl)) ls st μ
theorem e_L_1011 {L : Nat} {xs : Nat → Int32} (H : ix_Mo (tL_0 L xs)) (Q : ix_R → Prop) (ls : ix_L) (st : List ix_V) (μ : ix_M) : ix_Ev (tL_0 L xs) Q (1011, ls, st, μ) = (ix_push (vi 2) 1012) (ix_Ev (tL_0 L xs) Q) Q ls st μ := ix_Ev.eqM H ((stL_24 L xs 1011 (by decide)).trans (ix_lk_app1 rfl)) ls st μ
theorem e_L_1012 {L : Nat} {xs : Nat → Int32} (H : ix_Mo (tL_0 L xs)) (Q : ix_R → Prop) (ls : ix_L) (st : List ix_V) (μ : ix_M) : ix_Ev (tL_0 L xs) Q (1012, ls, st, μ) = (ix_bin (fun x y => x + y) 1013) (ix_Ev (tL_0 L xs) Q) Q ls st μ := ix_Ev.eqM H ((stL_24 L xs 1012 (by decide)).trans (ix_lk_app1 rfl)) ls st μ
theorem e_L_1013 {L : Nat} {xs : Nat → Int32} (H : ix_Mo (tL_0 L xs)) (Q : ix_R → Prop) (ls : ix_L) (st : List ix_V) (μ : ix_M) : ix_Ev (tL_0 L xs) Q (1013, ls, st, μ) = (ix_xld L xs 1014) (ix_Ev (tL_0 L xs) Q) Q ls st μ := ix_Ev.eqM H ((stL_24 L xs 1013 (by decide)).trans (ix_lk_app1 rfl)) ls st μ
theorem e_L_1014 {L : Nat} {xs : Nat → Int32} (H : ix_Mo (tL_0 L xs)) (Q : ix_R → Prop) (ls : ix_L) (st : List ix_V) (μ : ix_M) : ix_Ev (tL_0 L xs) Q (1014, ls, st, μ) = (ix_aload 0 1015) (ix_Ev (tL_0 L xs) Q) Q ls st μ := ix_Ev.eqM H ((stL_24 L xs 1014 (by decide)).trans (ix_lk_app1 rfl)) ls st μ
theorem e_L_1015 {L : Nat} {xs : Nat → Int32} (H : ix_Mo (tL_0 L xs)) (Q : ix_R → Prop) (ls : ix_L) (st : List ix_V) (μ : ix_M) : ix_Ev (tL_0 L xs) Q (1015, ls, st, μ) = (ix_iload 3 1016) (ix_Ev (tL_0 L xs) Q) Q ls st μ := ix_Ev.eqM H ((stL_24 L xs 1015 (by decide)).trans (ix_lk_app1 rfl)) ls st μ
theorem e_L_1016 {L : Nat} {xs : Nat → Int32} (H : ix_Mo (tL_0 L xs)) (Q : ix_R → Prop) (ls : ix_L) (st : List ix_V) (μ : ix_M) : ix_Ev (tL_0 L xs) Q (1016, ls, st, μ) = (ix_push (vi 3) 1017) (ix_Ev (tL_0 L xs) Q) Q ls st μ := ix_Ev.eqM H ((stL_24 L xs 1016 (by decide)).trans (ix_lk_app1 rfl)) ls st μ
theorem e_L_1017 {L : Nat} {xs : Nat → Int32} (H : ix_Mo (tL_0 L xs)) (Q : ix_R → Prop) (ls : ix_L) (st : List ix_V) (μ : ix_M) : ix_Ev (tL_0 L xs) Q (1017, ls, st, μ) = (ix_bin (fun x y => x + y) 1018) (ix_Ev (tL_0 L xs) Q) Q ls st μ := ix_Ev.eqM H ((stL_24 L xs 1017 (by decide)).trans (ix_lk_app1 rfl)) ls st μ
theorem e_L_1018 {L : Nat} {xs : Nat → Int32} (H : ix_Mo (tL_0 L xs)) (Q : ix_R → Prop) (ls : ix_L) (st : List ix_V) (μ : ix_M) : ix_Ev (tL_0 L xs) Q (1018, ls, st, μ) = (ix_xld L xs 1019) (ix_Ev (tL_0 L xs) Q) Q ls st μ := ix_Ev.eqM H ((stL_24 L xs 1018 (by decide)).trans (ix_lk_app1 rfl)) ls st μ
theorem e_L_1019 {L : Nat} {xs : Nat → Int32} (H : ix_Mo (tL_0 L xs)) (Q : ix_R → Prop) (ls : ix_L) (st : List ix_V) (μ : ix_M) : ix_Ev (tL_0 L xs) Q (1019, ls, st, μ) = (oc_X10_route 1022) (ix_Ev (tL_0 L xs) Q) Q ls st μ := ix_Ev.eqM H ((stL_24 L xs 1019 (by decide)).trans (ix_lk_app1 rfl)) ls st μ
theorem e_L_1022 {L : Nat} {xs : Nat → Int32} (H : ix_Mo (tL_0 L xs)) (Q : ix_R → Prop) (ls : ix_L) (st : List ix_V) (μ : ix_M) : ix_Ev (tL_0 L xs) Q (1022, ls, st, μ) = (ix_aload 2 1023) (ix_Ev (tL_0 L xs) Q) Q ls st μ := ix_Ev.eqM H ((stL_24 L xs 1022 (by decide)).trans (ix_lk_app1 rfl)) ls st μ
theorem e_L_1023 {L : Nat} {xs : Nat → Int32} (H : ix_Mo (tL_0 L xs)) (Q : ix_R → Prop) (ls : ix_L) (st : List ix_V) (μ : ix_M) : ix_Ev (tL_0 L xs) Q (1023, ls, st, μ) = (ix_aload 0 1024) (ix_Ev (tL_0 L xs) Q) Q ls st μ := ix_Ev.eqM H ((stL_24 L xs 1023 (by decide)).trans (ix_lk_app1 rfl)) ls st μ
theorem e_L_1024 {L : Nat} {xs : Nat → Int32} (H : ix_Mo (tL_0 L xs)) (Q : ix_R → Prop) (ls : ix_L) (st : List ix_V) (μ : ix_M) : ix_Ev (tL_0 L xs) Q (1024, ls, st, μ) = (ix_iload 3 1025) (ix_Ev (tL_0 L xs) Q) Q ls st μ := ix_Ev.eqM H ((stL_24 L xs 1024 (by decide)).trans (ix_lk_app1 rfl)) ls st μ
theorem e_L_1025 {L : Nat} {xs : Nat → Int32} (H : ix_Mo (tL_0 L xs)) (Q : ix_R → Prop) (ls : ix_L) (st : List ix_V) (μ : ix_M) : ix_Ev (tL_0 L xs) Q (1025, ls, st, μ) = (ix_push (vi 1) 1026) (ix_Ev (tL_0 L xs) Q) Q ls st μ := ix_Ev.eqM H ((stL_24 L xs 1025 (by decide)).trans (ix_lk_app1 rfl)) ls st μ
theorem e_L_1026 {L : Nat} {xs : Nat → Int32} (H : ix_Mo (tL_0 L xs)) (Q : ix_R → Prop) (ls : ix_L) (st : List ix_V) (μ : ix_M) : ix_Ev (tL_0 L xs) Q (1026, ls, st, μ) = (ix_bin (fun x y => x + y) 1027) (ix_Ev (tL_0 L xs) Q) Q ls st μ := ix_Ev.eqM H ((stL_24 L xs 1026 (by decide)).trans (ix_lk_app1 rfl)) ls st μ
theorem e_L_1027 {L : Nat} {xs : Nat → Int32} (H : ix_Mo (tL_0 L xs)) (Q : ix_R → Prop) (ls : ix_L) (st : List ix_V) (μ : ix_M) : ix_Ev (tL_0 L xs) Q (1027, ls, st, μ) = (ix_xld L xs 1028) (ix_Ev (tL_0 L xs) Q) Q ls st μ := ix_Ev.eqM H ((stL_24 L xs 1027 (by decide)).trans (ix_lk_app1 rfl)) ls st μ
theorem e_L_1028 {L : Nat} {xs : Nat → Int32} (H : ix_Mo (tL_0 L xs)) (Q : ix_R → Prop) (ls : ix_L) (st : List ix_V) (μ : ix_M) : ix_Ev (tL_0 L xs) Q (1028, ls, st, μ) = (ix_aload 0 1029) (ix_Ev (tL_0 L xs) Q) Q ls st μ := ix_Ev.eqM H ((stL_24 L xs 1028 (by decide)).trans (ix_lk_app1 rfl)) ls st μ
theorem e_L_1029 {L : Nat} {xs : Nat → Int32} (H : ix_Mo (tL_0 L xs)) (Q : ix_R → Prop) (ls : ix_L) (st : List ix_V) (μ : ix_M) : ix_Ev (tL_0 L xs) Q (1029, ls, st, μ) = (ix_iload 3 1030) (ix_Ev (tL_0 L xs) Q) Q ls st μ := ix_Ev.eqM H ((stL_24 L xs 1029 (by decide)).trans (ix_lk_app1 rfl)) ls st μ
theorem e_L_1030 {L : Nat} {xs : Nat → Int32} (H : ix_Mo (tL_0 L xs)) (Q : ix_R → Prop) (ls : ix_L) (st : List ix_V) (μ : ix_M) : ix_Ev (tL_0 L xs) Q (1030, ls, st, μ) = (ix_push (vi 2) 1031) (ix_Ev (tL_0 L xs) Q) Q ls st μ := ix_Ev.eqM H ((stL_24 L xs 1030 (by decide)).trans (ix_lk_app1 rfl)) ls st μ
theorem e_L_1031 {L : Nat} {xs : Nat → Int32} (H : ix_Mo (tL_0 L xs)) (Q : ix_R → Prop) (ls : ix_L) (st : List ix_V) (μ : ix_M) : ix_Ev (tL_0 L xs) Q (1031, ls, st, μ) = (ix_bin (fun x y => x + y) 1032) (ix_Ev (tL_0 L xs) Q) Q ls st μ := ix_Ev.eqM H ((stL_24 L xs 1031 (by decide)).trans (ix_lk_app1 rfl)) ls st μ
theorem e_L_1032 {L : Nat} {xs : Nat → Int32} (H : ix_Mo (tL_0 L xs)) (Q : ix_R → Prop) (ls : ix_L) (st : List ix_V) (μ : ix_M) : ix_Ev (tL_0 L xs) Q (1032, ls, st, μ) = (ix_xld L xs 1033) (ix_Ev (tL_0 L xs) Q) Q ls st μ := ix_Ev.eqM H ((stL_24 L xs 1032 (by decide)).trans (ix_lk_app1 rfl)) ls st μ
theorem e_L_1033 {L : Nat} {xs : Nat → Int32} (H : ix_Mo (tL_0 L xs)) (Q : ix_R → Prop) (ls : ix_L) (st : List ix_V) (μ : ix_M) : ix_Ev (tL_0 L xs) Q (1033, ls, st, μ) = (ix_aload 0 1034) (ix_Ev (tL_0 L xs) Q) Q ls st μ := ix_Ev.eqM H ((stL_24 L xs 1033 (by decide)).trans (ix_lk_app1 rfl)) ls st μ
theorem e_L_1034 {L : Nat} {xs : Nat → Int32} (H : ix_Mo (tL_0 L xs)) (Q : ix_R → Prop) (ls : ix_L) (st : List ix_V) (μ : ix_M) : ix_Ev (tL_0 L xs) Q (1034, ls, st, μ) = (ix_iload 3 1035) (ix_Ev (tL_0 L xs) Q) Q ls st μ := ix_Ev.eqM H ((stL_24 L xs 1034 (by decide)).trans (ix_lk_app1 rfl)) ls st μ
theorem e_L_1035 {L : Nat} {xs : Nat → Int32} (H : ix_Mo (tL_0 L xs)) (Q : ix_R → Prop) (ls : ix_L) (st : List ix_V) (μ : ix_M) : ix_Ev (tL_0 L xs) Q (1035, ls, st, μ) = (ix_push (vi 3) 1036) (ix_Ev (tL_0 L xs) Q) Q ls st μ := ix_Ev.eqM H ((stL_24 L xs 1035 (by decide)).trans (ix_lk_app1 rfl)) ls st μ
theorem e_L_1036 {L : Nat} {xs : Nat → Int32} (H : ix_Mo (tL_0 L xs)) (Q : ix_R → Prop) (ls : ix_L) (st : List ix_V) (μ : ix_M) : ix_Ev (tL_0 L xs) Q (1036, ls, st, μ) = (ix_bin (fun x y => x + y) 1037) (ix_Ev (tL_0 L xs) Q) Q ls st μ := ix_Ev.eqM H ((stL_24 L xs 1036 (by decide)).trans (ix_lk_app1 rfl)) ls st μ
theorem e_L_1037 {L : Nat} {xs : Nat → Int32} (H : ix_Mo (tL_0 L xs)) (Q : ix_R → Prop) (ls : ix_L) (st : List ix_V) (μ : ix_M) : ix_Ev (tL_0 L xs) Q (1037, ls, st, μ) = (ix_xld L xs 1038) (ix_Ev (tL_0 L xs) Q) Q ls st μ := ix_Ev.eqM H ((stL_24 L xs 1037 (by decide)).trans (ix_lk_app1 rfl)) ls st μ
theorem e_L_1038 {L : Nat} {xs : Nat → Int32} (H : ix_Mo (tL_0 L xs)) (Q : ix_R → Prop) (ls : ix_L) (st : List ix_V) (μ : ix_M) : ix_Ev (tL_0 L xs) Q (1038, ls, st, μ) = (oc_X11_route 1041) (ix_Ev (tL_0 L xs) Q) Q ls st μ := ix_Ev.eqM H ((stL_24 L xs 1038 (by decide)).trans (ix_lk_app1 rfl)) ls st μ
theorem e_L_1041 {L : Nat} {xs : Nat → Int32} (H : ix_Mo (tL_0 L xs)) (Q : ix_R → Prop) (ls : ix_L) (st : List ix_V) (μ : ix_M) : ix_Ev (tL_0 L xs) Q (1041, ls, st, μ) = (ix_cmp (fun x y => x = y) 1636 1044) (ix_Ev (tL_0 L xs) Q) Q ls st μ := ix_Ev.eqM H ((stL_24 L xs 1041 (by decide)).trans (ix_lk_app1 rfl)) ls st μ
theorem e_L_1044 {L : Nat} {xs : Nat → Int32} (H : ix_Mo (tL_0 L xs)) (Q : ix_R → Prop) (ls : ix_L) (st : List ix_V) (μ : ix_M) : ix_Ev (tL_0 L xs) Q (1044, ls, st, μ) = (ix_push (vi 0) 1045) (ix_Ev (tL_0 L xs) Q) Q ls st μ := ix_Ev.eqM H ((stL_24 L xs 1044 (by decide)).trans (ix_lk_app1 rfl)) ls st μ
theorem e_L_1045 {L : Nat} {xs : Nat → Int32} (H : ix_Mo (tL_0 L xs)) (Q : ix_R → Prop) (ls : ix_L) (st : List ix_V) (μ : ix_M) : ix_Ev (tL_0 L xs) Q (1045, ls, st, μ) = ix_zret (ix_Ev (tL_0 L xs) Q) Q ls st μ := ix_Ev.eqM H ((stL_24 L xs 1045 (by decide)).trans (ix_lk_app1 rfl)) ls st μ
theorem e_L_1046 {L : Nat} {xs : Nat → Int32} (H : ix_Mo (tL_0 L xs)) (Q : ix_R → Prop) (ls : ix_L) (st : List ix_V) (μ : ix_M) : ix_Ev (tL_0 L xs) Q (1046, ls, st, μ) = (ix_aload 1 1047) (ix_Ev (tL_0 L xs) Q) Q ls st μ := ix_Ev.eqM H ((stL_25 L xs 1046 (by decide)).trans (ix_lk_app1 rfl)) ls st μ
theorem e_L_1047 {L : Nat} {xs : Nat → Int32} (H : ix_Mo (tL_0 L xs)) (Q : ix_R → Prop) (ls : ix_L) (st : List ix_V) (μ : ix_M) : ix_Ev (tL_0 L xs) Q (1047, ls, st, μ) = (ix_aload 0 1048) (ix_Ev (tL_0 L xs) Q) Q ls st μ := ix_Ev.eqM H ((stL_25 L xs 1047 (by decide)).trans (ix_lk_app1 rfl)) ls st μ
theorem e_L_1048 {L : Nat} {xs : Nat → Int32} (H : ix_Mo (tL_0 L xs)) (Q : ix_R → Prop) (ls : ix_L) (st : List ix_V) (μ : ix_M) : ix_Ev (tL_0 L xs) Q (1048, ls, st, μ) = (ix_iload 3 1049) (ix_Ev (tL_0 L xs) Q) Q ls st μ := ix_Ev.eqM H ((stL_25 L xs 1048 (by decide)).trans (ix_lk_app1 rfl)) ls st μ
theorem e_L_1049 {L : Nat} {xs : Nat → Int32} (H : ix_Mo (tL_0 L xs)) (Q : ix_R → Prop) (ls : ix_L) (st : List ix_V) (μ : ix_M) : ix_Ev (tL_0 L xs) Q (1049, ls, st, μ) = (ix_push (vi 1) 1050) (ix_Ev (tL_0 L xs) Q) Q ls st μ := ix_Ev.eqM H ((stL_25 L xs 1049 (by decide)).trans (ix_lk_app1 rfl)) ls st μ
theorem e_L_1050 {L : Nat} {xs : Nat → Int32} (H : ix_Mo (tL_0 L xs)) (Q : ix_R → Prop) (ls : ix_L) (st : List ix_V) (μ : ix_M) : ix_Ev (tL_0 L xs) Q (1050, ls, st, μ) = (ix_bin (fun x y => x + y) 1051) (ix_Ev (tL_0 L xs) Q) Q ls st μ := ix_Ev.eqM H ((stL_25 L xs 1050 (by decide)).trans (ix_lk_app1 rfl)) ls st μ
theorem e_L_1051 {L : Nat} {xs : Nat → Int32} (H : ix_Mo (tL_0 L xs)) (Q : ix_R → Prop) (ls : ix_L) (st : List ix_V) (μ : ix_M) : ix_Ev (tL_0 L xs) Q (1051, ls, st, μ) = (ix_xld L xs 1052) (ix_Ev (tL_0 L xs) Q) Q ls st μ := ix_Ev.eqM H ((stL_25 L xs 1051 (by decide)).trans (ix_lk_app1 rfl)) ls st μ
theorem e_L_1052 {L : Nat} {xs : Nat → Int32} (H : ix_Mo (tL_0 L xs)) (Q : ix_R → Prop) (ls : ix_L) (st : List ix_V) (μ : ix_M) : ix_Ev (tL_0 L xs) Q (1052, ls, st, μ) = (ix_aload 0 1053) (ix_Ev (tL_0 L xs) Q) Q ls st μ := ix_Ev.eqM H ((stL_25 L xs 1052 (by decide)).trans (ix_lk_app1 rfl)) ls st μ
theorem e_L_1053 {L : Nat} {xs : Nat → Int32} (H : ix_Mo (tL_0 L xs)) (Q : ix_R → Prop) (ls : ix_L) (st : List ix_V) (μ : ix_M) : ix_Ev (tL_0 L xs) Q (1053, ls, st, μ) = (ix_iload 3 1054) (ix_Ev (tL_0 L xs) Q) Q ls st μ := ix_Ev.eqM H ((stL_25 L xs 1053 (by decide)).trans (ix_lk_app1 rfl)) ls st μ
theorem e_L_1054 {L : Nat} {xs : Nat → Int32} (H : ix_Mo (tL_0 L xs)) (Q : ix_R → Prop) (ls : ix_L) (st : List ix_V) (μ : ix_M) : ix_Ev (tL_0 L xs) Q (1054, ls, st, μ) = (ix_push (vi 2) 1055) (ix_Ev (tL_0 L xs) Q) Q ls st μ := ix_Ev.eqM H ((stL_25 L xs 1054 (by decide)).trans (ix_lk_app1 rfl)) ls st μ
theorem e_L_1055 {L : Nat} {xs : Nat → Int32} (H : ix_Mo (tL_0 L xs)) (Q : ix_R → Prop) (ls : ix_L) (st : List ix_V) (μ : ix_M) : ix_Ev (tL_0 L xs) Q (1055, ls, st, μ) = (ix_bin (fun x y => x + y) 1056) (ix_Ev (tL_0 L xs) Q) Q ls st μ := ix_Ev.eqM H ((stL_25 L xs 1055 (by decide)).trans (ix_lk_app1 rfl)) ls st μ
theorem e_L_1056 {L : Nat} {xs : Nat → Int32} (H : ix_Mo (tL_0 L xs)) (Q : ix_R → Prop) (ls : ix_L) (st : List ix_V) (μ : ix_M) : ix_Ev (tL_0 L xs) Q (1056, ls, st, μ) = (ix_xld L xs 1057) (ix_Ev (tL_0 L xs) Q) Q ls st μ := ix_Ev.eqM H ((stL_25 L xs 1056 (by decide)).trans (ix_lk_app1 rfl)) ls st μ
theorem e_L_1057 {L : Nat} {xs : Nat → Int32} (H : ix_Mo (tL_0 L xs)) (Q : ix_R → Prop) (ls : ix_L) (st : List ix_V) (μ : ix_M) : ix_Ev (tL_0 L xs) Q (1057, ls, st, μ) = (oc_X10_darkFor 1060) (ix_Ev (tL_0 L xs) Q) Q ls st μ := ix_Ev.eqM H ((stL_25 L xs 1057 (by decide)).trans (ix_lk_app1 rfl)) ls st μ
theorem e_L_1060 {L : Nat} {xs : Nat → Int32} (H : ix_Mo (tL_0 L xs)) (Q : ix_R → Prop) (ls : ix_L) (st : List ix_V) (μ : ix_M) : ix_Ev (tL_0 L xs) Q (1060, ls, st, μ) = (ix_aload 2 1061) (ix_Ev (tL_0 L xs) Q) Q ls st μ := ix_Ev.eqM H ((stL_25 L xs 1060 (by decide)).trans (ix_lk_app1 rfl)) ls st μ
theorem e_L_1061 {L : Nat} {xs : Nat → Int32} (H : ix_Mo (tL_0 L xs)) (Q : ix_R → Prop) (ls : ix_L) (st : List ix_V) (μ : ix_M) : ix_Ev (tL_0 L xs) Q (1061, ls, st, μ) = (ix_aload 0 1062) (ix_Ev (tL_0 L xs) Q) Q ls st μ := ix_Ev.eqM H ((stL_25 L xs 1061 (by decide)).trans (ix_lk_app1 rfl)) ls st μ
theorem e_L_1062 {L : Nat} {xs : Nat → Int32} (H : ix_Mo (tL_0 L xs)) (Q : ix_R → Prop) (ls : ix_L) (st : List ix_V) (μ : ix_M) : ix_Ev (tL_0 L xs) Q (1062, ls, st, μ) = (ix_iload 3 1063) (ix_Ev (tL_0 L xs) Q) Q ls st μ := ix_Ev.eqM H ((stL_25 L xs 1062 (by decide)).trans (ix_lk_app1 rfl)) ls st μ
theorem e_L_1063 {L : Nat} {xs : Nat → Int32} (H : ix_Mo (tL_0 L xs)) (Q : ix_R → Prop) (ls : ix_L) (st : List ix_V) (μ : ix_M) : ix_Ev (tL_0 L xs) Q (1063, ls, st, μ) = (ix_push (vi 1) 1064) (ix_Ev (tL_0 L xs) Q) Q ls st μ := ix_Ev.eqM H ((stL_25 L xs 1063 (by decide)).trans (ix_lk_app1 rfl)) ls st μ
theorem e_L_1064 {L : Nat} {xs : Nat → Int32} (H : ix_Mo (tL_0 L xs)) (Q : ix_R → Prop) (ls : ix_L) (st : List ix_V) (μ : ix_M) : ix_Ev (tL_0 L xs) Q (1064, ls, st, μ) = (ix_bin (fun x y => x + y) 1065) (ix_Ev (tL_0 L xs) Q) Q ls st μ := ix_Ev.eqM H ((stL_25 L xs 1064 (by decide)).trans (ix_lk_app1 rfl)) ls st μ
theorem e_L_1065 {L : Nat} {xs : Nat → Int32} (H : ix_Mo (tL_0 L xs)) (Q : ix_R → Prop) (ls : ix_L) (st : List ix_V) (μ : ix_M) : ix_Ev (tL_0 L xs) Q (1065, ls, st, μ) = (ix_xld L xs 1066) (ix_Ev (tL_0 L xs) Q) Q ls st μ := ix_Ev.eqM H ((stL_25 L xs 1065 (by decide)).trans (ix_lk_app1 rfl)) ls st μ
theorem e_L_1066 {L : Nat} {xs : Nat → Int32} (H : ix_Mo (tL_0 L xs)) (Q : ix_R → Prop) (ls : ix_L) (st : List ix_V) (μ : ix_M) : ix_Ev (tL_0 L xs) Q (1066, ls, st, μ) = (ix_aload 0 1067) (ix_Ev (tL_0 L xs) Q) Q ls st μ := ix_Ev.eqM H ((stL_25 L xs 1066 (by decide)).trans (ix_lk_app1 rfl)) ls st μ
theorem e_L_1067 {L : Nat} {xs : Nat → Int32} (H : ix_Mo (tL_0 L xs)) (Q : ix_R → Prop) (ls : ix_L) (st : List ix_V) (μ : ix_M) : ix_Ev (tL_0 L xs) Q (1067, ls, st, μ) = (ix_iload 3 1068) (ix_Ev (tL_0 L xs) Q) Q ls st μ := ix_Ev.eqM H ((stL_25 L xs 1067 (by decide)).trans (ix_lk_app1 rfl)) ls st μ
theorem e_L_1068 {L : Nat} {xs : Nat → Int32} (H : ix_Mo (tL_0 L xs)) (Q : ix_R → Prop) (ls : ix_L) (st : List ix_V) (μ : ix_M) : ix_Ev (tL_0 L xs) Q (1068, ls, st, μ) = (ix_push (vi 2) 1069) (ix_Ev (tL_0 L xs) Q) Q ls st μ := ix_Ev.eqM H ((stL_25 L xs 1068 (by decide)).trans (ix_lk_app1 rfl)) ls st μ
theorem e_L_1069 {L : Nat} {xs : Nat → Int32} (H : ix_Mo (tL_0 L xs)) (Q : ix_R → Prop) (ls : ix_L) (st : List ix_V) (μ : ix_M) : ix_Ev (tL_0 L xs) Q (1069, ls, st, μ) = (ix_bin (fun x y => x + y) 1070) (ix_Ev (tL_0 L xs) Q) Q ls st μ := ix_Ev.eqM H ((stL_25 L xs 1069 (by decide)).trans (ix_lk_app1 rfl)) ls st μ
theorem e_L_1070 {L : Nat} {xs : Nat → Int32} (H : ix_Mo (tL_0 L xs)) (Q : ix_R → Prop) (ls : ix_L) (st : List ix_V) (μ : ix_M) : ix_Ev (tL_0 L xs) Q (1070, ls, st, μ) = (ix_xld L xs 1071) (ix_Ev (tL_0 L xs) Q) Q ls st μ := ix_Ev.eqM H ((stL_25 L xs 1070 (by decide)).trans (ix_lk_app1 rfl)) ls st μ
theorem e_L_1071 {L : Nat} {xs : Nat → Int32} (H : ix_Mo (tL_0 L xs)) (Q : ix_R → Prop) (ls : ix_L) (st : List ix_V) (μ : ix_M) : ix_Ev (tL_0 L xs) Q (1071, ls, st, μ) = (oc_X11_darkFor 1074) (ix_Ev (tL_0 L xs) Q) Q ls st μ := ix_Ev.eqM H ((stL_25 L xs 1071 (by decide)).trans (ix_lk_app1 rfl)) ls st μ
theorem e_L_1074 {L : Nat} {xs : Nat → Int32} (H : ix_Mo (tL_0 L xs)) (Q : ix_R → Prop) (ls : ix_L) (st : List ix_V) (μ : ix_M) : ix_Ev (tL_0 L xs) Q (1074, ls, st, μ) = (ix_cmp (fun x y => x = y) 1636 1077) (ix_Ev (tL_0 L xs) Q) Q ls st μ := ix_Ev.eqM H ((stL_25 L xs 1074 (by decide)).trans (ix_lk_app1 rfl)) ls st μ
theorem e_L_1077 {L : Nat} {xs : Nat → Int32} (H : ix_Mo (tL_0 L xs)) (Q : ix_R → Prop) (ls : ix_L) (st : List ix_V) (μ : ix_M) : ix_Ev (tL_0 L xs) Q (1077, ls, st, μ) = (ix_push (vi 0) 1078) (ix_Ev (tL_0 L xs) Q) Q ls st μ := ix_Ev.eqM H ((stL_25 L xs 1077 (by decide)).trans (ix_lk_app1 rfl)) ls st μ
theorem e_L_1078 {L : Nat} {xs : Nat → Int32} (H : ix_Mo (tL_0 L xs)) (Q : ix_R → Prop) (ls : ix_L) (st : List ix_V) (μ : ix_M) : ix_Ev (tL_0 L xs) Q (1078, ls, st, μ) = ix_zret (ix_Ev (tL_0 L xs) Q) Q ls st μ := ix_Ev.eqM H ((stL_25 L xs 1078 (by decide)).trans (ix_lk_app1 rfl)) ls st μ
theorem e_L_1079 {L : Nat} {xs : Nat → Int32} (H : ix_Mo (tL_0 L xs)) (Q : ix_R → Prop) (ls : ix_L) (st : List ix_V) (μ : ix_M) : ix_Ev (tL_0 L xs) Q (1079, ls, st, μ) = (ix_aload 1 1080) (ix_Ev (tL_0 L xs) Q) Q ls st μ := ix_Ev.eqM H ((stL_26 L xs 1079 (by decide)).trans (ix_lk_app1 rfl)) ls st μ
theorem e_L_1080 {L : Nat} {xs : Nat → Int32} (H : ix_Mo (tL_0 L xs)) (Q : ix_R → Prop) (ls : ix_L) (st : List ix_V) (μ : ix_M) : ix_Ev (tL_0 L xs) Q (1080, ls, st, μ) = (ix_aload 0 1081) (ix_Ev (tL_0 L xs) Q) Q ls st μ := ix_Ev.eqM H ((stL_26 L xs 1080 (by decide)).trans (ix_lk_app1 rfl)) ls st μ
theorem e_L_1081 {L : Nat} {xs : Nat → Int32} (H : ix_Mo (tL_0 L xs)) (Q : ix_R → Prop) (ls : ix_L) (st : List ix_V) (μ : ix_M) : ix_Ev (tL_0 L xs) Q (1081, ls, st, μ) = (ix_iload 3 1082) (ix_Ev (tL_0 L xs) Q) Q ls st μ := ix_Ev.eqM H ((stL_26 L xs 1081 (by decide)).trans (ix_lk_app1 rfl)) ls st μ
theorem e_L_1082 {L : Nat} {xs : Nat → Int32} (H : ix_Mo (tL_0 L xs)) (Q : ix_R → Prop) (ls : ix_L) (st : List ix_V) (μ : ix_M) : ix_Ev (tL_0 L xs) Q (1082, ls, st, μ) = (ix_push (vi 1) 1083) (ix_Ev (tL_0 L xs) Q) Q ls st μ := ix_Ev.eqM H ((stL_26 L xs 1082 (by decide)).trans (ix_lk_app1 rfl)) ls st μ
theorem e_L_1083 {L : Nat} {xs : Nat → Int32} (H : ix_Mo (tL_0 L xs)) (Q : ix_R → Prop) (ls : ix_L) (st : List ix_V) (μ : ix_M) : ix_Ev (tL_0 L xs) Q (1083, ls, st, μ) = (ix_bin (fun x y => x + y) 1084) (ix_Ev (tL_0 L xs) Q) Q ls st μ := ix_Ev.eqM H ((stL_26 L xs 1083 (by decide)).trans (ix_lk_app1 rfl)) ls st μ
theorem e_L_1084 {L : Nat} {xs : Nat → Int32} (H : ix_Mo (tL_0 L xs)) (Q : ix_R → Prop) (ls : ix_L) (st : List ix_V) (μ : ix_M) : ix_Ev (tL_0 L xs) Q (1084, ls, st, μ) = (ix_xld L xs 1085) (ix_Ev (tL_0 L xs) Q) Q ls st μ := ix_Ev.eqM H ((stL_26 L xs 1084 (by decide)).trans (ix_lk_app1 rfl)) ls st μ
theorem e_L_1085 {L : Nat} {xs : Nat → Int32} (H : ix_Mo (tL_0 L xs)) (Q : ix_R → Prop) (ls : ix_L) (st : List ix_V) (μ : ix_M) : ix_Ev (tL_0 L xs) Q (1085, ls, st, μ) = (oc_X10_match 1088) (ix_Ev (tL_0 L xs) Q) Q ls st μ := ix_Ev.eqM H ((stL_26 L xs 1085 (by decide)).trans (ix_lk_app1 rfl)) ls st μ
theorem e_L_1088 {L : Nat} {xs : Nat → Int32} (H : ix_Mo (tL_0 L xs)) (Q : ix_R → Prop) (ls : ix_L) (st : List ix_V) (μ : ix_M) : ix_Ev (tL_0 L xs) Q (1088, ls, st, μ) = (ix_aload 2 1089) (ix_Ev (tL_0 L xs) Q) Q ls st μ := ix_Ev.eqM H ((stL_26 L xs 1088 (by decide)).trans (ix_lk_app1 rfl)) ls st μ
theorem e_L_1089 {L : Nat} {xs : Nat → Int32} (H : ix_Mo (tL_0 L xs)) (Q : ix_R → Prop) (ls : ix_L) (st : List ix_V) (μ : ix_M) : ix_Ev (tL_0 L xs) Q (1089, ls, st, μ) = (ix_aload 0 1090) (ix_Ev (tL_0 L xs) Q) Q ls st μ := ix_Ev.eqM H ((stL_26 L xs 1089 (by decide)).trans (ix_lk_app1 rfl)) ls st μ
theorem e_L_1090 {L : Nat} {xs : Nat → Int32} (H : ix_Mo (tL_0 L xs)) (Q : ix_R → Prop) (ls : ix_L) (st : List ix_V) (μ : ix_M) : ix_Ev (tL_0 L xs) Q (1090, ls, st, μ) = (ix_iload 3 1091) (ix_Ev (tL_0 L xs) Q) Q ls st μ := ix_Ev.eqM H ((stL_26 L xs 1090 (by decide)).trans (ix_lk_app1 rfl)) ls st μ
theorem e_L_1091 {L : Nat} {xs : Nat → Int32} (H : ix_Mo (tL_0 L xs)) (Q : ix_R → Prop) (ls : ix_L) (st : List ix_V) (μ : ix_M) : ix_Ev (tL_0 L xs) Q (1091, ls, st, μ) = (ix_push (vi 1) 1092) (ix_Ev (tL_0 L xs) Q) Q ls st μ := ix_Ev.eqM H ((stL_26 L xs 1091 (by decide)).trans (ix_lk_app1 rfl)) ls st μ
theorem e_L_1092 {L : Nat} {xs : Nat → Int32} (H : ix_Mo (tL_0 L xs)) (Q : ix_R → Prop) (ls : ix_L) (st : List ix_V) (μ : ix_M) : ix_Ev (tL_0 L xs) Q (1092, ls, st, μ) = (ix_bin (fun x y => x + y) 1093) (ix_Ev (tL_0 L xs) Q) Q ls st μ := ix_Ev.eqM H ((stL_26 L xs 1092 (by decide)).trans (ix_lk_app1 rfl)) ls st μ
theorem e_L_1093 {L : Nat} {xs : Nat → Int32} (H : ix_Mo (tL_0 L xs)) (Q : ix_R → Prop) (ls : ix_L) (st : List ix_V) (μ : ix_M) : ix_Ev (tL_0 L xs) Q (1093, ls, st, μ) = (ix_xld L xs 1094) (ix_Ev (tL_0 L xs) Q) Q ls st μ := ix_Ev.eqM H ((stL_26 L xs 1093 (by decide)).trans (ix_lk_app1 rfl)) ls st μ
theorem e_L_1094 {L : Nat} {xs : Nat → Int32} (H : ix_Mo (tL_0 L xs)) (Q : ix_R → Prop) (ls : ix_L) (st : List ix_V) (μ : ix_M) : ix_Ev (tL_0 L xs) Q (1094, ls, st, μ) = (oc_X11_match 1097) (ix_Ev (tL_0 L xs) Q) Q ls st μ := ix_Ev.eqM H ((stL_26 L xs 1094 (by decide)).trans (ix_lk_app1 rfl)) ls st μ
theorem e_L_1097 {L : Nat} {xs : Nat → Int32} (H : ix_Mo (tL_0 L xs)) (Q : ix_R → Prop) (ls : ix_L) (st : List ix_V) (μ : ix_M) : ix_Ev (tL_0 L xs) Q (1097, ls, st, μ) = (ix_cmp (fun x y => x = y) 1636 1100) (ix_Ev (tL_0 L xs) Q) Q ls st μ := ix_Ev.eqM H ((stL_26 L xs 1097 (by decide)).trans (ix_lk_app1 rfl)) ls st μ
theorem e_L_1100 {L : Nat} {xs : Nat → Int32} (H : ix_Mo (tL_0 L xs)) (Q : ix_R → Prop) (ls : ix_L) (st : List ix_V) (μ : ix_M) : ix_Ev (tL_0 L xs) Q (1100, ls, st, μ) = (ix_push (vi 0) 1101) (ix_Ev (tL_0 L xs) Q) Q ls st μ := ix_Ev.eqM H ((stL_26 L xs 1100 (by decide)).trans (ix_lk_app1 rfl)) ls st μ
theorem e_L_1101 {L : Nat} {xs : Nat → Int32} (H : ix_Mo (tL_0 L xs)) (Q : ix_R → Prop) (ls : ix_L) (st : List ix_V) (μ : ix_M) : ix_Ev (tL_0 L xs) Q (1101, ls, st, μ) = ix_zret (ix_Ev (tL_0 L xs) Q) Q ls st μ := ix_Ev.eqM H ((stL_26 L xs 1101 (by decide)).trans (ix_lk_app1 rfl)) ls st μ
theorem e_L_1102 {L : Nat} {xs : Nat → Int32} (H : ix_Mo (tL_0 L xs)) (Q : ix_R → Prop) (ls : ix_L) (st : List ix_V) (μ : ix_M) : ix_Ev (tL_0 L xs) Q (1102, ls, st, μ) = (ix_aload 1 1103) (ix_Ev (tL_0 L xs) Q) Q ls st μ := ix_Ev.eqM H ((stL_27 L xs 1102 (by decide)).trans (ix_lk_app1 rfl)) ls st μ
theorem e_L_1103 {L : Nat} {xs : Nat → Int32} (H : ix_Mo (tL_0 L xs)) (Q : ix_R → Prop) (ls : ix_L) (st : List ix_V) (μ : ix_M) : ix_Ev (tL_0 L xs) Q (1103, ls, st, μ) = (ix_aload 0 1104) (ix_Ev (tL_0 L xs) Q) Q ls st μ := ix_Ev.eqM H ((stL_27 L xs 1103 (by decide)).trans (ix_lk_app1 rfl)) ls st μ
theorem e_L_1104 {L : Nat} {xs : Nat → Int32} (H : ix_Mo (tL_0 L xs)) (Q : ix_R → Prop) (ls : ix_L) (st : List ix_V) (μ : ix_M) : ix_Ev (tL_0 L xs) Q (1104, ls, st, μ) = (ix_iload 3 1105) (ix_Ev (tL_0 L xs) Q) Q ls st μ := ix_Ev.eqM H ((stL_27 L xs 1104 (by decide)).trans (ix_lk_app1 rfl)) ls st μ
theorem e_L_1105 {L : Nat} {xs : Nat → Int32} (H : ix_Mo (tL_0 L xs)) (Q : ix_R → Prop) (ls : ix_L) (st : List ix_V) (μ : ix_M) : ix_Ev (tL_0 L xs) Q (1105, ls, st, μ) = (ix_push (vi 1) 1106) (ix_Ev (tL_0 L xs) Q) Q ls st μ := ix_Ev.eqM H ((stL_27 L xs 1105 (by decide)).trans (ix_lk_app1 rfl)) ls st μ
theorem e_L_1106 {L : Nat} {xs : Nat → Int32} (H : ix_Mo (tL_0 L xs)) (Q : ix_R → Prop) (ls : ix_L) (st : List ix_V) (μ : ix_M) : ix_Ev (tL_0 L xs) Q (1106, ls, st, μ) = (ix_bin (fun x y => x + y) 1107) (ix_Ev (tL_0 L xs) Q) Q ls st μ := ix_Ev.eqM H ((stL_27 L xs 1106 (by decide)).trans (ix_lk_app1 rfl)) ls st μ
theorem e_L_1107 {L : Nat} {xs : Nat → Int32} (H : ix_Mo (tL_0 L xs)) (Q : ix_R → Prop) (ls : ix_L) (st : List ix_V) (μ : ix_M) : ix_Ev (tL_0 L xs) Q (1107, ls, st, μ) = (ix_xld L xs 1108) (ix_Ev (tL_0 L xs) Q) Q ls st μ := ix_Ev.eqM H ((stL_27 L xs 1107 (by decide)).trans (ix_lk_app1 rfl)) ls st μ
theorem e_L_1108 {L : Nat} {xs : Nat → Int32} (H : ix_Mo (tL_0 L xs)) (Q : ix_R → Prop) (ls : ix_L) (st : List ix_V) (μ : ix_M) : ix_Ev (tL_0 L xs) Q (1108, ls, st, μ) = (oc_X10_blend 1111) (ix_Ev (tL_0 L xs) Q) Q ls st μ := ix_Ev.eqM H ((stL_27 L xs 1108 (by decide)).trans (ix_lk_app1 rfl)) ls st μ
theorem e_L_1111 {L : Nat} {xs : Nat → Int32} (H : ix_Mo (tL_0 L xs)) (Q : ix_R → Prop) (ls : ix_L) (st : List ix_V) (μ : ix_M) : ix_Ev (tL_0 L xs) Q (1111, ls, st, μ) = (ix_aload 2 1112) (ix_Ev (tL_0 L xs) Q) Q ls st μ := ix_Ev.eqM H ((stL_27 L xs 1111 (by decide)).trans (ix_lk_app1 rfl)) ls st μ
theorem e_L_1112 {L : Nat} {xs : Nat → Int32} (H : ix_Mo (tL_0 L xs)) (Q : ix_R → Prop) (ls : ix_L) (st : List ix_V) (μ : ix_M) : ix_Ev (tL_0 L xs) Q (1112, ls, st, μ) = (ix_aload 0 1113) (ix_Ev (tL_0 L xs) Q) Q ls st μ := ix_Ev.eqM H ((stL_27 L xs 1112 (by decide)).trans (ix_lk_app1 rfl)) ls st μ
theorem e_L_1113 {L : Nat} {xs : Nat → Int32} (H : ix_Mo (tL_0 L xs)) (Q : ix_R → Prop) (ls : ix_L) (st : List ix_V) (μ : ix_M) : ix_Ev (tL_0 L xs) Q (1113, ls, st, μ) = (ix_iload 3 1114) (ix_Ev (tL_0 L xs) Q) Q ls st μ := ix_Ev.eqM H ((stL_27 L xs 1113 (by decide)).trans (ix_lk_app1 rfl)) ls st μ
theorem e_L_1114 {L : Nat} {xs : Nat → Int32} (H : ix_Mo (tL_0 L xs)) (Q : ix_R → Prop) (ls : ix_L) (st : List ix_V) (μ : ix_M) : ix_Ev (tL_0 L xs) Q (1114, ls, st, μ) = (ix_push (vi 1) 1115) (ix_Ev (tL_0 L xs) Q) Q ls st μ := ix_Ev.eqM H ((stL_27 L xs 1114 (by decide)).trans (ix_lk_app1 rfl)) ls st μ
theorem e_L_1115 {L : Nat} {xs : Nat → Int32} (H : ix_Mo (tL_0 L xs)) (Q : ix_R → Prop) (ls : ix_L) (st : List ix_V) (μ : ix_M) : ix_Ev (tL_0 L xs) Q (1115, ls, st, μ) = (ix_bin (fun x y => x + y) 1116) (ix_Ev (tL_0 L xs) Q) Q ls st μ := ix_Ev.eqM H ((stL_27 L xs 1115 (by decide)).trans (ix_lk_app1 rfl)) ls st μ
theorem e_L_1116 {L : Nat} {xs : Nat → Int32} (H : ix_Mo (tL_0 L xs)) (Q : ix_R → Prop) (ls : ix_L) (st : List ix_V) (μ : ix_M) : ix_Ev (tL_0 L xs) Q (1116, ls, st, μ) = (ix_xld L xs 1117) (ix_Ev (tL_0 L xs) Q) Q ls st μ := ix_Ev.eqM H ((stL_27 L xs 1116 (by decide)).trans (ix_lk_app1 rfl)) ls st μ
theorem e_L_1117 {L : Nat} {xs : Nat → Int32} (H : ix_Mo (tL_0 L xs)) (Q : ix_R → Prop) (ls : ix_L) (st : List ix_V) (μ : ix_M) : ix_Ev (tL_0 L xs) Q (1117, ls, st, μ) = (oc_X11_blend 1120) (ix_Ev (tL_0 L xs) Q) Q ls st μ := ix_Ev.eqM H ((stL_27 L xs 1117 (by decide)).trans (ix_lk_app1 rfl)) ls st μ
theorem e_L_1120 {L : Nat} {xs : Nat → Int32} (H : ix_Mo (tL_0 L xs)) (Q : ix_R → Prop) (ls : ix_L) (st : List ix_V) (μ : ix_M) : ix_Ev (tL_0 L xs) Q (1120, ls, st, μ) = (ix_cmp (fun x y => x = y) 1636 1123) (ix_Ev (tL_0 L xs) Q) Q ls st μ := ix_Ev.eqM H ((stL_27 L xs 1120 (by decide)).trans (ix_lk_app1 rfl)) ls st μ
theorem e_L_1123 {L : Nat} {xs : Nat → Int32} (H : ix_Mo (tL_0 L xs)) (Q : ix_R → Prop) (ls : ix_L) (st : List ix_V) (μ : ix_M) : ix_Ev (tL_0 L xs) Q (1123, ls, st, μ) = (ix_push (vi 0) 1124) (ix_Ev (tL_0 L xs) Q) Q ls st μ := ix_Ev.eqM H ((stL_27 L xs 1123 (by decide)).trans (ix_lk_app1 rfl)) ls st μ
theorem e_L_1124 {L : Nat} {xs : Nat → Int32} (H : ix_Mo (tL_0 L xs)) (Q : ix_R → Prop) (ls : ix_L) (st : List ix_V) (μ : ix_M) : ix_Ev (tL_0 L xs) Q (1124, ls, st, μ) = ix_zret (ix_Ev (tL_0 L xs) Q) Q ls st μ := ix_Ev.eqM H ((stL_27 L xs 1124 (by decide)).trans (ix_lk_app1 rfl)) ls st μ
theorem e_L_1125 {L : Nat} {xs : Nat → Int32} (H : ix_Mo (tL_0 L xs)) (Q : ix_R → Prop) (ls : ix_L) (st : List ix_V) (μ : ix_M) : ix_Ev (tL_0 L xs) Q (1125, ls, st, μ) = (ix_aload 1 1126) (ix_Ev (tL_0 L xs) Q) Q ls st μ := ix_Ev.eqM H ((stL_28 L xs 1125 (by decide)).trans (ix_lk_app1 rfl)) ls st μ
theorem e_L_1126 {L : Nat} {xs : Nat → Int32} (H : ix_Mo (tL_0 L xs)) (Q : ix_R → Prop) (ls : ix_L) (st : List ix_V) (μ : ix_M) : ix_Ev (tL_0 L xs) Q (1126, ls, st, μ) = (ix_aload 0 1127) (ix_Ev (tL_0 L xs) Q) Q ls st μ := ix_Ev.eqM H ((stL_28 L xs 1126 (by decide)).trans (ix_lk_app1 rfl)) ls st μ
theorem e_L_1127 {L : Nat} {xs : Nat → Int32} (H : ix_Mo (tL_0 L xs)) (Q : ix_R → Prop) (ls : ix_L) (st : List ix_V) (μ : ix_M) : ix_Ev (tL_0 L xs) Q (1127, ls, st, μ) = (ix_iload 3 1128) (ix_Ev (tL_0 L xs) Q) Q ls st μ := ix_Ev.eqM H ((stL_28 L xs 1127 (by decide)).trans (ix_lk_app1 rfl)) ls st μ
theorem e_L_1128 {L : Nat} {xs : Nat → Int32} (H : ix_Mo (tL_0 L xs)) (Q : ix_R → Prop) (ls : ix_L) (st : List ix_V) (μ : ix_M) : ix_Ev (tL_0 L xs) Q (1128, ls, st, μ) = (ix_push (vi 1) 1129) (ix_Ev (tL_0 L xs) Q) Q ls st μ := ix_Ev.eqM H ((stL_28 L xs 1128 (by decide)).trans (ix_lk_app1 rfl)) ls st μ
theorem e_L_1129 {L : Nat} {xs : Nat → Int32} (H : ix_Mo (tL_0 L xs)) (Q : ix_R → Prop) (ls : ix_L) (st : List ix_V) (μ : ix_M) : ix_Ev (tL_0 L xs) Q (1129, ls, st, μ) = (ix_bin (fun x y => x + y) 1130) (ix_Ev (tL_0 L xs) Q) Q ls st μ := ix_Ev.eqM H ((stL_28 L xs 1129 (by decide)).trans (ix_lk_app1 rfl)) ls st μ
theorem e_L_1130 {L : Nat} {xs : Nat → Int32} (H : ix_Mo (tL_0 L xs)) (Q : ix_R → Prop) (ls : ix_L) (st : List ix_V) (μ : ix_M) : ix_Ev (tL_0 L xs) Q (1130, ls, st, μ) = (ix_xld L xs 1131) (ix_Ev (tL_0 L xs) Q) Q ls st μ := ix_Ev.eqM H ((stL_28 L xs 1130 (by decide)).trans (ix_lk_app1 rfl)) ls st μ
theorem e_L_1131 {L : Nat} {xs : Nat → Int32} (H : ix_Mo (tL_0 L xs)) (Q : ix_R → Prop) (ls : ix_L) (st : List ix_V) (μ : ix_M) : ix_Ev (tL_0 L xs) Q (1131, ls, st, μ) = (ix_aload 0 1132) (ix_Ev (tL_0 L xs) Q) Q ls st μ := ix_Ev.eqM H ((stL_28 L xs 1131 (by decide)).trans (ix_lk_app1 rfl)) ls st μ
theorem e_L_1132 {L : Nat} {xs : Nat → Int32} (H : ix_Mo (tL_0 L xs)) (Q : ix_R → Prop) (ls : ix_L) (st : List ix_V) (μ : ix_M) : ix_Ev (tL_0 L xs) Q (1132, ls, st, μ) = (ix_iload 3 1133) (ix_Ev (tL_0 L xs) Q) Q ls st μ := ix_Ev.eqM H ((stL_28 L xs 1132 (by decide)).trans (ix_lk_app1 rfl)) ls st μ
theorem e_L_1133 {L : Nat} {xs : Nat → Int32} (H : ix_Mo (tL_0 L xs)) (Q : ix_R → Prop) (ls : ix_L) (st : List ix_V) (μ : ix_M) : ix_Ev (tL_0 L xs) Q (1133, ls, st, μ) = (ix_push (vi 2) 1134) (ix_Ev (tL_0 L xs) Q) Q ls st μ := ix_Ev.eqM H ((stL_28 L xs 1133 (by decide)).trans (ix_lk_app1 rfl)) ls st μ
theorem e_L_1134 {L : Nat} {xs : Nat → Int32} (H : ix_Mo (tL_0 L xs)) (Q : ix_R → Prop) (ls : ix_L) (st : List ix_V) (μ : ix_M) : ix_Ev (tL_0 L xs) Q (1134, ls, st, μ) = (ix_bin (fun x y => x + y) 1135) (ix_Ev (tL_0 L xs) Q) Q ls st μ := ix_Ev.eqM H ((stL_28 L xs 1134 (by decide)).trans (ix_lk_app1 rfl)) ls st μ
theorem e_L_1135 {L : Nat} {xs : Nat → Int32} (H : ix_Mo (tL_0 L xs)) (Q : ix_R → Prop) (ls : ix_L) (st : List ix_V) (μ : ix_M) : ix_Ev (tL_0 L xs) Q (1135, ls, st, μ) = (ix_xld L xs 1136) (ix_Ev (tL_0 L xs) Q) Q ls st μ := ix_Ev.eqM H ((stL_28 L xs 1135 (by decide)).trans (ix_lk_app1 rfl)) ls st μ
theorem e_L_1136 {L : Nat} {xs : Nat → Int32} (H : ix_Mo (tL_0 L xs)) (Q : ix_R → Prop) (ls : ix_L) (st : List ix_V) (μ : ix_M) : ix_Ev (tL_0 L xs) Q (1136, ls, st, μ) = (oc_X10_which 1139) (ix_Ev (tL_0 L xs) Q) Q ls st μ := ix_Ev.eqM H ((stL_28 L xs 1136 (by decide)).trans (ix_lk_app1 rfl)) ls st μ
theorem e_L_1139 {L : Nat} {xs : Nat → Int32} (H : ix_Mo (tL_0 L xs)) (Q : ix_R → Prop) (ls : ix_L) (st : List ix_V) (μ : ix_M) : ix_Ev (tL_0 L xs) Q (1139, ls, st, μ) = (ix_aload 2 1140) (ix_Ev (tL_0 L xs) Q) Q ls st μ := ix_Ev.eqM H ((stL_28 L xs 1139 (by decide)).trans (ix_lk_app1 rfl)) ls st μ
theorem e_L_1140 {L : Nat} {xs : Nat → Int32} (H : ix_Mo (tL_0 L xs)) (Q : ix_R → Prop) (ls : ix_L) (st : List ix_V) (μ : ix_M) : ix_Ev (tL_0 L xs) Q (1140, ls, st, μ) = (ix_aload 0 1141) (ix_Ev (tL_0 L xs) Q) Q ls st μ := ix_Ev.eqM H ((stL_28 L xs 1140 (by decide)).trans (ix_lk_app1 rfl)) ls st μ
theorem e_L_1141 {L : Nat} {xs : Nat → Int32} (H : ix_Mo (tL_0 L xs)) (Q : ix_R → Prop) (ls : ix_L) (st : List ix_V) (μ : ix_M) : ix_Ev (tL_0 L xs) Q (1141, ls, st, μ) = (ix_iload 3 1142) (ix_Ev (tL_0 L xs) Q) Q ls st μ := ix_Ev.eqM H ((stL_28 L xs 1141 (by decide)).trans (ix_lk_app1 rfl)) ls st μ
theorem e_L_1142 {L : Nat} {xs : Nat → Int32} (H : ix_Mo (tL_0 L xs)) (Q : ix_R → Prop) (ls : ix_L) (st : List ix_V) (μ : ix_M) : ix_Ev (tL_0 L xs) Q (1142, ls, st, μ) = (ix_push (vi 1) 1143) (ix_Ev (tL_0 L xs) Q) Q ls st μ := ix_Ev.eqM H ((stL_28 L xs 1142 (by decide)).trans (ix_lk_app1 rfl)) ls st μ
theorem e_L_1143 {L : Nat} {xs : Nat → Int32} (H : ix_Mo (tL_0 L xs)) (Q : ix_R → Prop) (ls : ix_L) (st : List ix_V) (μ : ix_M) : ix_Ev (tL_0 L xs) Q (1143, ls, st, μ) = (ix_bin (fun x y => x + y) 1144) (ix_Ev (tL_0 L xs) Q) Q ls st μ := ix_Ev.eqM H ((stL_28 L xs 1143 (by decide)).trans (ix_lk_app1 rfl)) ls st μ
theorem e_L_1144 {L : Nat} {xs : Nat → Int32} (H : ix_Mo (tL_0 L xs)) (Q : ix_R → Prop) (ls : ix_L) (st : List ix_V) (μ : ix_M) : ix_Ev (tL_0 L xs) Q (1144, ls, st, μ) = (ix_xld L xs 1145) (ix_Ev (tL_0 L xs) Q) Q ls st μ := ix_Ev.eqM H ((stL_28 L xs 1144 (by decide)).trans (ix_lk_app1 rfl)) ls st μ
theorem e_L_1145 {L : Nat} {xs : Nat → Int32} (H : ix_Mo (tL_0 L xs)) (Q : ix_R → Prop) (ls : ix_L) (st : List ix_V) (μ : ix_M) : ix_Ev (tL_0 L xs) Q (1145, ls, st, μ) = (ix_aload 0 1146) (ix_Ev (tL_0 L xs) Q) Q ls st μ := ix_Ev.eqM H ((stL_28 L xs 1145 (by decide)).trans (ix_lk_app1 rfl)) ls st μ
theorem e_L_1146 {L : Nat} {xs : Nat → Int32} (H : ix_Mo (tL_0 L xs)) (Q : ix_R → Prop) (ls : ix_L) (st : List ix_V) (μ : ix_M) : ix_Ev (tL_0 L xs) Q (1146, ls, st, μ) = (ix_iload 3 1147) (ix_Ev (tL_0 L xs) Q) Q ls st μ := ix_Ev.eqM H ((stL_28 L xs 1146 (by decide)).trans (ix_lk_app1 rfl)) ls st μ
theorem e_L_1147 {L : Nat} {xs : Nat → Int32} (H : ix_Mo (tL_0 L xs)) (Q : ix_R → Prop) (ls : ix_L) (st : List ix_V) (μ : ix_M) : ix_Ev (tL_0 L xs) Q (1147, ls, st, μ) = (ix_push (vi 2) 1148) (ix_Ev (tL_0 L xs) Q) Q ls st μ := ix_Ev.eqM H ((stL_28 L xs 1147 (by decide)).trans (ix_lk_app1 rfl)) ls st μ
theorem e_L_1148 {L : Nat} {xs : Nat → Int32} (H : ix_Mo (tL_0 L xs)) (Q : ix_R → Prop) (ls : ix_L) (st : List ix_V) (μ : ix_M) : ix_Ev (tL_0 L xs) Q (1148, ls, st, μ) = (ix_bin (fun x y => x + y) 1149) (ix_Ev (tL_0 L xs) Q) Q ls st μ := ix_Ev.eqM H ((stL_28 L xs 1148 (by decide)).trans (ix_lk_app1 rfl)) ls st μ
theorem e_L_1149 {L : Nat} {xs : Nat → Int32} (H : ix_Mo (tL_0 L xs)) (Q : ix_R → Prop) (ls : ix_L) (st : List ix_V) (μ : ix_M) : ix_Ev (tL_0 L xs) Q (1149, ls, st, μ) = (ix_xld L xs 1150) (ix_Ev (tL_0 L xs) Q) Q ls st μ := ix_Ev.eqM H ((stL_28 L xs 1149 (by decide)).trans (ix_lk_app1 rfl)) ls st μ
theorem e_L_1150 {L : Nat} {xs : Nat → Int32} (H : ix_Mo (tL_0 L xs)) (Q : ix_R → Prop) (ls : ix_L) (st : List ix_V) (μ : ix_M) : ix_Ev (tL_0 L xs) Q (1150, ls, st, μ) = (oc_X11_which 1153) (ix_Ev (tL_0 L xs) Q) Q ls st μ := ix_Ev.eqM H ((stL_28 L xs 1150 (by decide)).trans (ix_lk_app1 rfl)) ls st μ
theorem e_L_1153 {L : Nat} {xs : Nat → Int32} (H : ix_Mo (tL_0 L xs)) (Q : ix_R → Prop) (ls : ix_L) (st : List ix_V) (μ : ix_M) : ix_Ev (tL_0 L xs) Q (1153, ls, st, μ) = (ix_cmp (fun x y => x = y) 1636 1156) (ix_Ev (tL_0 L xs) Q) Q ls st μ := ix_Ev.eqM H ((stL_28 L xs 1153 (by decide)).trans (ix_lk_app1 rfl)) ls st μ
theorem e_L_1156 {L : Nat} {xs : Nat → Int32} (H : ix_Mo (tL_0 L xs)) (Q : ix_R → Prop) (ls : ix_L) (st : List ix_V) (μ : ix_M) : ix_Ev (tL_0 L xs) Q (1156, ls, st, μ) = (ix_push (vi 0) 1157) (ix_Ev (tL_0 L xs) Q) Q ls st μ := ix_Ev.eqM H ((stL_28 L xs 1156 (by decide)).trans (ix_lk_app1 rfl)) ls st μ
theorem e_L_1157 {L : Nat} {xs : Nat → Int32} (H : ix_Mo (tL_0 L xs)) (Q : ix_R → Prop) (ls : ix_L) (st : List ix_V) (μ : ix_M) : ix_Ev (tL_0 L xs) Q (1157, ls, st, μ) = ix_zret (ix_Ev (tL_0 L xs) Q) Q ls st μ := ix_Ev.eqM H ((stL_28 L xs 1157 (by decide)).trans (ix_lk_app1 rfl)) ls st μ
theorem e_L_1158 {L : Nat} {xs : Nat → Int32} (H : ix_Mo (tL_0 L xs)) (Q : ix_R → Prop) (ls : ix_L) (st : List ix_V) (μ : ix_M) : ix_Ev (tL_0 L xs) Q (1158, ls, st, μ) = (ix_aload 1 1159) (ix_Ev (tL_0 L xs) Q) Q ls st μ := ix_Ev.eqM H ((stL_29 L xs 1158 (by decide)).trans (ix_lk_app1 rfl)) ls st μ
theorem e_L_1159 {L : Nat} {xs : Nat → Int32} (H : ix_Mo (tL_0 L xs)) (Q : ix_R → Prop) (ls : ix_L) (st : List ix_V) (μ : ix_M) : ix_Ev (tL_0 L xs) Q (1159, ls, st, μ) = (ix_aload 0 1160) (ix_Ev (tL_0 L xs) Q) Q ls st μ := ix_Ev.eqM H ((stL_29 L xs 1159 (by decide)).trans (ix_lk_app1 rfl)) ls st μ
theorem e_L_1160 {L : Nat} {xs : Nat → Int32} (H : ix_Mo (tL_0 L xs)) (Q : ix_R → Prop) (ls : ix_L) (st : List ix_V) (μ : ix_M) : ix_Ev (tL_0 L xs) Q (1160, ls, st, μ) = (ix_iload 3 1161) (ix_Ev (tL_0 L xs) Q) Q ls st μ := ix_Ev.eqM H ((stL_29 L xs 1160 (by decide)).trans (ix_lk_app1 rfl)) ls st μ
theorem e_L_1161 {L : Nat} {xs : Nat → Int32} (H : ix_Mo (tL_0 L xs)) (Q : ix_R → Prop) (ls : ix_L) (st : List ix_V) (μ : ix_M) : ix_Ev (tL_0 L xs) Q (1161, ls, st, μ) = (ix_push (vi 1) 1162) (ix_Ev (tL_0 L xs) Q) Q ls st μ := ix_Ev.eqM H ((stL_29 L xs 1161 (by decide)).trans (ix_lk_app1 rfl)) ls st μ
theorem e_L_1162 {L : Nat} {xs : Nat → Int32} (H : ix_Mo (tL_0 L xs)) (Q : ix_R → Prop) (ls : ix_L) (st : List ix_V) (μ : ix_M) : ix_Ev (tL_0 L xs) Q (1162, ls, st, μ) = (ix_bin (fun x y => x + y) 1163) (ix_Ev (tL_0 L xs) Q) Q ls st μ := ix_Ev.eqM H ((stL_29 L xs 1162 (by decide)).trans (ix_lk_app1 rfl)) ls st μ
theorem e_L_1163 {L : Nat} {xs : Nat → Int32} (H : ix_Mo (tL_0 L xs)) (Q : ix_R → Prop) (ls : ix_L) (st : List ix_V) (μ : ix_M) : ix_Ev (tL_0 L xs) Q (1163, ls, st, μ) = (ix_xld L xs 1164) (ix_Ev (tL_0 L xs) Q) Q ls st μ := ix_Ev.eqM H ((stL_29 L xs 1163 (by decide)).trans (ix_lk_app1 rfl)) ls st μ
theorem e_L_1164 {L : Nat} {xs : Nat → Int32} (H : ix_Mo (tL_0 L xs)) (Q : ix_R → Prop) (ls : ix_L) (st : List ix_V) (μ : ix_M) : ix_Ev (tL_0 L xs) Q (1164, ls, st, μ) = (ix_aload 0 1165) (ix_Ev (tL_0 L xs) Q) Q ls st μ := ix_Ev.eqM H ((stL_29 L xs 1164 (by decide)).trans (ix_lk_app1 rfl)) ls st μ
theorem e_L_1165 {L : Nat} {xs : Nat → Int32} (H : ix_Mo (tL_0 L xs)) (Q : ix_R → Prop) (ls : ix_L) (st : List ix_V) (μ : ix_M) : ix_Ev (tL_0 L xs) Q (1165, ls, st, μ) = (ix_iload 3 1166) (ix_Ev (tL_0 L xs) Q) Q ls st μ := ix_Ev.eqM H ((stL_29 L xs 1165 (by decide)).trans (ix_lk_app1 rfl)) ls st μ
theorem e_L_1166 {L : Nat} {xs : Nat → Int32} (H : ix_Mo (tL_0 L xs)) (Q : ix_R → Prop) (ls : ix_L) (st : List ix_V) (μ : ix_M) : ix_Ev (tL_0 L xs) Q (1166, ls, st, μ) = (ix_push (vi 2) 1167) (ix_Ev (tL_0 L xs) Q) Q ls st μ := ix_Ev.eqM H ((stL_29 L xs 1166 (by decide)).trans (ix_lk_app1 rfl)) ls st μ
theorem e_L_1167 {L : Nat} {xs : Nat → Int32} (H : ix_Mo (tL_0 L xs)) (Q : ix_R → Prop) (ls : ix_L) (st : List ix_V) (μ : ix_M) : ix_Ev (tL_0 L xs) Q (1167, ls, st, μ) = (ix_bin (fun x y => x + y) 1168) (ix_Ev (tL_0 L xs) Q) Q ls st μ := ix_Ev.eqM H ((stL_29 L xs 1167 (by decide)).trans (ix_lk_app1 rfl)) ls st μ
theorem e_L_1168 {L : Nat} {xs : Nat → Int32} (H : ix_Mo (tL_0 L xs)) (Q : ix_R → Prop) (ls : ix_L) (st : List ix_V) (μ : ix_M) : ix_Ev (tL_0 L xs) Q (1168, ls, st, μ) = (ix_xld L xs 1169) (ix_Ev (tL_0 L xs) Q) Q ls st μ := ix_Ev.eqM H ((stL_29 L xs 1168 (by decide)).trans (ix_lk_app1 rfl)) ls st μ
theorem e_L_1169 {L : Nat} {xs : Nat → Int32} (H : ix_Mo (tL_0 L xs)) (Q : ix_R → Prop) (ls : ix_L) (st : List ix_V) (μ : ix_M) : ix_Ev (tL_0 L xs) Q (1169, ls, st, μ) = (ix_aload 0 1170) (ix_Ev (tL_0 L xs) Q) Q ls st μ := ix_Ev.eqM H ((stL_29 L xs 1169 (by decide)).trans (ix_lk_app1 rfl)) ls st μ
theorem e_L_1170 {L : Nat} {xs : Nat → Int32} (H : ix_Mo (tL_0 L xs)) (Q : ix_R → Prop) (ls : ix_L) (st : List ix_V) (μ : ix_M) : ix_Ev (tL_0 L xs) Q (1170, ls, st, μ) = (ix_iload 3 1171) (ix_Ev (tL_0 L xs) Q) Q ls st μ := ix_Ev.eqM H ((stL_29 L xs 1170 (by decide)).trans (ix_lk_app1 rfl)) ls st μ
theorem e_L_1171 {L : Nat} {xs : Nat → Int32} (H : ix_Mo (tL_0 L xs)) (Q : ix_R → Prop) (ls : ix_L) (st : List ix_V) (μ : ix_M) : ix_Ev (tL_0 L xs) Q (1171, ls, st, μ) = (ix_push (vi 3) 1172) (ix_Ev (tL_0 L xs) Q) Q ls st μ := ix_Ev.eqM H ((stL_29 L xs 1171 (by decide)).trans (ix_lk_app1 rfl)) ls st μ
theorem e_L_1172 {L : Nat} {xs : Nat → Int32} (H : ix_Mo (tL_0 L xs)) (Q : ix_R → Prop) (ls : ix_L) (st : List ix_V) (μ : ix_M) : ix_Ev (tL_0 L xs) Q (1172, ls, st, μ) = (ix_bin (fun x y => x + y) 1173) (ix_Ev (tL_0 L xs) Q) Q ls st μ := ix_Ev.eqM H ((stL_29 L xs 1172 (by decide)).trans (ix_lk_app1 rfl)) ls st μ
theorem e_L_1173 {L : Nat} {xs : Nat → Int32} (H : ix_Mo (tL_0 L xs)) (Q : ix_R → Prop) (ls : ix_L) (st : List ix_V) (μ : ix_M) : ix_Ev (tL_0 L xs) Q (1173, ls, st, μ) = (ix_xld L xs 1174) (ix_Ev (tL_0 L xs) Q) Q ls st μ := ix_Ev.eqM H ((stL_29 L xs 1173 (by decide)).trans (ix_lk_app1 rfl)) ls st μ
theorem e_L_1174 {L : Nat} {xs : Nat → Int32} (H : ix_Mo (tL_0 L xs)) (Q : ix_R → Prop) (ls : ix_L) (st : List ix_V) (μ : ix_M) : ix_Ev (tL_0 L xs) Q (1174, ls, st, μ) = (oc_X10_lay 1177) (ix_Ev (tL_0 L xs) Q) Q ls st μ := ix_Ev.eqM H ((stL_29 L xs 1174 (by decide)).trans (ix_lk_app1 rfl)) ls st μ
theorem e_L_1177 {L : Nat} {xs : Nat → Int32} (H : ix_Mo (tL_0 L xs)) (Q : ix_R → Prop) (ls : ix_L) (st : List ix_V) (μ : ix_M) : ix_Ev (tL_0 L xs) Q (1177, ls, st, μ) = (ix_aload 2 1178) (ix_Ev (tL_0 L xs) Q) Q ls st μ := ix_Ev.eqM H ((stL_29 L xs 1177 (by decide)).trans (ix_lk_app1 rfl)) ls st μ
theorem e_L_1178 {L : Nat} {xs : Nat → Int32} (H : ix_Mo (tL_0 L xs)) (Q : ix_R → Prop) (ls : ix_L) (st : List ix_V) (μ : ix_M) : ix_Ev (tL_0 L xs) Q (1178, ls, st, μ) = (ix_aload 0 1179) (ix_Ev (tL_0 L xs) Q) Q ls st μ := ix_Ev.eqM H ((stL_29 L xs 1178 (by decide)).trans (ix_lk_app1 rfl)) ls st μ
theorem e_L_1179 {L : Nat} {xs : Nat → Int32} (H : ix_Mo (tL_0 L xs)) (Q : ix_R → Prop) (ls : ix_L) (st : List ix_V) (μ : ix_M) : ix_Ev (tL_0 L xs) Q (1179, ls, st, μ) = (ix_iload 3 1180) (ix_Ev (tL_0 L xs) Q) Q ls st μ := ix_Ev.eqM H ((stL_29 L xs 1179 (by decide)).trans (ix_lk_app1 rfl)) ls st μ
theorem e_L_1180 {L : Nat} {xs : Nat → Int32} (H : ix_Mo (tL_0 L xs)) (Q : ix_R → Prop) (ls : ix_L) (st : List ix_V) (μ : ix_M) : ix_Ev (tL_0 L xs) Q (1180, ls, st, μ) = (ix_push (vi 1) 1181) (ix_Ev (tL_0 L xs) Q) Q ls st μ := ix_Ev.eqM H ((stL_29 L xs 1180 (by decide)).trans (ix_lk_app1 rfl)) ls st μ
theorem e_L_1181 {L : Nat} {xs : Nat → Int32} (H : ix_Mo (tL_0 L xs)) (Q : ix_R → Prop) (ls : ix_L) (st : List ix_V) (μ : ix_M) : ix_Ev (tL_0 L xs) Q (1181, ls, st, μ) = (ix_bin (fun x y => x + y) 1182) (ix_Ev (tL_0 L xs) Q) Q ls st μ := ix_Ev.eqM H ((stL_29 L xs 1181 (by decide)).trans (ix_lk_app1 rfl)) ls st μ
theorem e_L_1182 {L : Nat} {xs : Nat → Int32} (H : ix_Mo (tL_0 L xs)) (Q : ix_R → Prop) (ls : ix_L) (st : List ix_V) (μ : ix_M) : ix_Ev (tL_0 L xs) Q (1182, ls, st, μ) = (ix_xld L xs 1183) (ix_Ev (tL_0 L xs) Q) Q ls st μ := ix_Ev.eqM H ((stL_29 L xs 1182 (by decide)).trans (ix_lk_app1 rfl)) ls st μ
theorem e_L_1183 {L : Nat} {xs : Nat → Int32} (H : ix_Mo (tL_0 L xs)) (Q : ix_R → Prop) (ls : ix_L) (st : List ix_V) (μ : ix_M) : ix_Ev (tL_0 L xs) Q (1183, ls, st, μ) = (ix_aload 0 1184) (ix_Ev (tL_0 L xs) Q) Q ls st μ := ix_Ev.eqM H ((stL_29 L xs 1183 (by decide)).trans (ix_lk_app1 rfl)) ls st μ
theorem e_L_1184 {L : Nat} {xs : Nat → Int32} (H : ix_Mo (tL_0 L xs)) (Q : ix_R → Prop) (ls : ix_L) (st : List ix_V) (μ : ix_M) : ix_Ev (tL_0 L xs) Q (1184, ls, st, μ) = (ix_iload 3 1185) (ix_Ev (tL_0 L xs) Q) Q ls st μ := ix_Ev.eqM H ((stL_29 L xs 1184 (by decide)).trans (ix_lk_app1 rfl)) ls st μ
theorem e_L_1185 {L : Nat} {xs : Nat → Int32} (H : ix_Mo (tL_0 L xs)) (Q : ix_R → Prop) (ls : ix_L) (st : List ix_V) (μ : ix_M) : ix_Ev (tL_0 L xs) Q (1185, ls, st, μ) = (ix_push (vi 2) 1186) (ix_Ev (tL_0 L xs) Q) Q ls st μ := ix_Ev.eqM H ((stL_29 L xs 1185 (by decide)).trans (ix_lk_app1 rfl)) ls st μ
theorem e_L_1186 {L : Nat} {xs : Nat → Int32} (H : ix_Mo (tL_0 L xs)) (Q : ix_R → Prop) (ls : ix_L) (st : List ix_V) (μ : ix_M) : ix_Ev (tL_0 L xs) Q (1186, ls, st, μ) = (ix_bin (fun x y => x + y) 1187) (ix_Ev (tL_0 L xs) Q) Q ls st μ := ix_Ev.eqM H ((stL_29 L xs 1186 (by decide)).trans (ix_lk_app1 rfl)) ls st μ
theorem e_L_1187 {L : Nat} {xs : Nat → Int32} (H : ix_Mo (tL_0 L xs)) (Q : ix_R → Prop) (ls : ix_L) (st : List ix_V) (μ : ix_M) : ix_Ev (tL_0 L xs) Q (1187, ls, st, μ) = (ix_xld L xs 1188) (ix_Ev (tL_0 L xs) Q) Q ls st μ := ix_Ev.eqM H ((stL_29 L xs 1187 (by decide)).trans (ix_lk_app1 rfl)) ls st μ
theorem e_L_1188 {L : Nat} {xs : Nat → Int32} (H : ix_Mo (tL_0 L xs)) (Q : ix_R → Prop) (ls : ix_L) (st : List ix_V) (μ : ix_M) : ix_Ev (tL_0 L xs) Q (1188, ls, st, μ) = (ix_aload 0 1189) (ix_Ev (tL_0 L xs) Q) Q ls st μ := ix_Ev.eqM H ((stL_29 L xs 1188 (by decide)).trans (ix_lk_app1 rfl)) ls st μ
theorem e_L_1189 {L : Nat} {xs : Nat → Int32} (H : ix_Mo (tL_0 L xs)) (Q : ix_R → Prop) (ls : ix_L) (st : List ix_V) (μ : ix_M) : ix_Ev (tL_0 L xs) Q (1189, ls, st, μ) = (ix_iload 3 1190) (ix_Ev (tL_0 L xs) Q) Q ls st μ := ix_Ev.eqM H ((stL_29 L xs 1189 (by decide)).trans (ix_lk_app1 rfl)) ls st μ
theorem e_L_1190 {L : Nat} {xs : Nat → Int32} (H : ix_Mo (tL_0 L xs)) (Q : ix_R → Prop) (ls : ix_L) (st : List ix_V) (μ : ix_M) : ix_Ev (tL_0 L xs) Q (1190, ls, st, μ) = (ix_push (vi 3) 1191) (ix_Ev (tL_0 L xs) Q) Q ls st μ := ix_Ev.eqM H ((stL_29 L xs 1190 (by decide)).trans (ix_lk_app1 rfl)) ls st μ
theorem e_L_1191 {L : Nat} {xs : Nat → Int32} (H : ix_Mo (tL_0 L xs)) (Q : ix_R → Prop) (ls : ix_L) (st : List ix_V) (μ : ix_M) : ix_Ev (tL_0 L xs) Q (1191, ls, st, μ) = (ix_bin (fun x y => x + y) 1192) (ix_Ev (tL_0 L xs) Q) Q ls st μ := ix_Ev.eqM H ((stL_29 L xs 1191 (by decide)).trans (ix_lk_app1 rfl)) ls st μ
theorem e_L_1192 {L : Nat} {xs : Nat → Int32} (H : ix_Mo (tL_0 L xs)) (Q : ix_R → Prop) (ls : ix_L) (st : List ix_V) (μ : ix_M) : ix_Ev (tL_0 L xs) Q (1192, ls, st, μ) = (ix_xld L xs 1193) (ix_Ev (tL_0 L xs) Q) Q ls st μ := ix_Ev.eqM H ((stL_29 L xs 1192 (by decide)).trans (ix_lk_app1 rfl)) ls st μ
theorem e_L_1193 {L : Nat} {xs : Nat → Int32} (H : ix_Mo (tL_0 L xs)) (Q : ix_R → Prop) (ls : ix_L) (st : List ix_V) (μ : ix_M) : ix_Ev (tL_0 L xs) Q (1193, ls, st, μ) = (oc_X11_lay 1196) (ix_Ev (tL_0 L xs) Q) Q ls st μ := ix_Ev.eqM H ((stL_29 L xs 1193 (by decide)).trans (ix_lk_app1 rfl)) ls st μ
theorem e_L_1196 {L : Nat} {xs : Nat → Int32} (H : ix_Mo (tL_0 L xs)) (Q : ix_R → Prop) (ls : ix_L) (st : List ix_V) (μ : ix_M) : ix_Ev (tL_0 L xs) Q (1196, ls, st, μ) = (ix_cmp (fun x y => x = y) 1636 1199) (ix_Ev (tL_0 L xs) Q) Q ls st μ := ix_Ev.eqM H ((stL_29 L xs 1196 (by decide)).trans (ix_lk_app1 rfl)) ls st μ
theorem e_L_1199 {L : Nat} {xs : Nat → Int32} (H : ix_Mo (tL_0 L xs)) (Q : ix_R → Prop) (ls : ix_L) (st : List ix_V) (μ : ix_M) : ix_Ev (tL_0 L xs) Q (1199, ls, st, μ) = (ix_push (vi 0) 1200) (ix_Ev (tL_0 L xs) Q) Q ls st μ := ix_Ev.eqM H ((stL_29 L xs 1199 (by decide)).trans (ix_lk_app1 rfl)) ls st μ
theorem e_L_1200 {L : Nat} {xs : Nat → Int32} (H : ix_Mo (tL_0 L xs)) (Q : ix_R → Prop) (ls : ix_L) (st : List ix_V) (μ : ix_M) : ix_Ev (tL_0 L xs) Q (1200, ls, st, μ) = ix_zret (ix_Ev (tL_0 L xs) Q) Q ls st μ := ix_Ev.eqM H ((stL_29 L xs 1200 (by decide)).trans (ix_lk_app1 rfl)) ls st μ
theorem e_L_1201 {L : Nat} {xs : Nat → Int32} (H : ix_Mo (tL_0 L xs)) (Q : ix_R → Prop) (ls : ix_L) (st : List ix_V) (μ : ix_M) : ix_Ev (tL_0 L xs) Q (1201, ls, st, μ) = (ix_aload 1 1202) (ix_Ev (tL_0 L xs) Q) Q ls st μ := ix_Ev.eqM H ((stL_30 L xs 1201 (by decide)).trans (ix_lk_app1 rfl)) ls st μ
theorem e_L_1202 {L : Nat} {xs : Nat → Int32} (H : ix_Mo (tL_0 L xs)) (Q : ix_R → Prop) (ls : ix_L) (st : List ix_V) (μ : ix_M) : ix_Ev (tL_0 L xs) Q (1202, ls, st, μ) = (ix_aload 0 1203) (ix_Ev (tL_0 L xs) Q) Q ls st μ := ix_Ev.eqM H ((stL_30 L xs 1202 (by decide)).trans (ix_lk_app1 rfl)) ls st μ
theorem e_L_1203 {L : Nat} {xs : Nat → Int32} (H : ix_Mo (tL_0 L xs)) (Q : ix_R → Prop) (ls : ix_L) (st : List ix_V) (μ : ix_M) : ix_Ev (tL_0 L xs) Q (1203, ls, st, μ) = (ix_iload 3 1204) (ix_Ev (tL_0 L xs) Q) Q ls st μ := ix_Ev.eqM H ((stL_30 L xs 1203 (by decide)).trans (ix_lk_app1 rfl)) ls st μ
theorem e_L_1204 {L : Nat} {xs : Nat → Int32} (H : ix_Mo (tL_0 L xs)) (Q : ix_R → Prop) (ls : ix_L) (st : List ix_V) (μ : ix_M) : ix_Ev (tL_0 L xs) Q (1204, ls, st, μ) = (ix_push (vi 1) 1205) (ix_Ev (tL_0 L xs) Q) Q ls st μ := ix_Ev.eqM H ((stL_30 L xs 1204 (by decide)).trans (ix_lk_app1 rfl)) ls st μ
theorem e_L_1205 {L : Nat} {xs : Nat → Int32} (H : ix_Mo (tL_0 L xs)) (Q : ix_R → Prop) (ls : ix_L) (st : List ix_V) (μ : ix_M) : ix_Ev (tL_0 L xs) Q (1205, ls, st, μ) = (ix_bin (fun x y => x + y) 1206) (ix_Ev (tL_0 L xs) Q) Q ls st μ := ix_Ev.eqM H ((stL_30 L xs 1205 (by decide)).trans (ix_lk_app1 rfl)) ls st μ
theorem e_L_1206 {L : Nat} {xs : Nat → Int32} (H : ix_Mo (tL_0 L xs)) (Q : ix_R → Prop) (ls : ix_L) (st : List ix_V) (μ : ix_M) : ix_Ev (tL_0 L xs) Q (1206, ls, st, μ) = (ix_xld L xs 1207) (ix_Ev (tL_0 L xs) Q) Q ls st μ := ix_Ev.eqM H ((stL_30 L xs 1206 (by decide)).trans (ix_lk_app1 rfl)) ls st μ
theorem e_L_1207 {L : Nat} {xs : Nat → Int32} (H : ix_Mo (tL_0 L xs)) (Q : ix_R → Prop) (ls : ix_L) (st : List ix_V) (μ : ix_M) : ix_Ev (tL_0 L xs) Q (1207, ls, st, μ) = (ix_aload 0 1208) (ix_Ev (tL_0 L xs) Q) Q ls st μ := ix_Ev.eqM H ((stL_30 L xs 1207 (by decide)).trans (ix_lk_app1 rfl)) ls st μ
theorem e_L_1208 {L : Nat} {xs : Nat → Int32} (H : ix_Mo (tL_0 L xs)) (Q : ix_R → Prop) (ls : ix_L) (st : List ix_V) (μ : ix_M) : ix_Ev (tL_0 L xs) Q (1208, ls, st, μ) = (ix_iload 3 1209) (ix_Ev (tL_0 L xs) Q) Q ls st μ := ix_Ev.eqM H ((stL_30 L xs 1208 (by decide)).trans (ix_lk_app1 rfl)) ls st μ
theorem e_L_1209 {L : Nat} {xs : Nat → Int32} (H : ix_Mo (tL_0 L xs)) (Q : ix_R → Prop) (ls : ix_L) (st : List ix_V) (μ : ix_M) : ix_Ev (tL_0 L xs) Q (1209, ls, st, μ) = (ix_push (vi 2) 1210) (ix_Ev (tL_0 L xs) Q) Q ls st μ := ix_Ev.eqM H ((stL_30 L xs 1209 (by decide)).trans (ix_lk_app1 rfl)) ls st μ
theorem e_L_1210 {L : Nat} {xs : Nat → Int32} (H : ix_Mo (tL_0 L xs)) (Q : ix_R → Prop) (ls : ix_L) (st : List ix_V) (μ : ix_M) : ix_Ev (tL_0 L xs) Q (1210, ls, st, μ) = (ix_bin (fun x y => x + y) 1211) (ix_Ev (tL_0 L xs) Q) Q ls st μ := ix_Ev.eqM H ((stL_30 L xs 1210 (by decide)).trans (ix_lk_app1 rfl)) ls st μ
theorem e_L_1211 {L : Nat} {xs : Nat → Int32} (H : ix_Mo (tL_0 L xs)) (Q : ix_R → Prop) (ls : ix_L) (st : List ix_V) (μ : ix_M) : ix_Ev (tL_0 L xs) Q (1211, ls, st, μ) = (ix_xld L xs 1212) (ix_Ev (tL_0 L xs) Q) Q ls st μ := ix_Ev.eqM H ((stL_30 L xs 1211 (by decide)).trans (ix_lk_app1 rfl)) ls st μ
theorem e_L_1212 {L : Nat} {xs : Nat → Int32} (H : ix_Mo (tL_0 L xs)) (Q : ix_R → Prop) (ls : ix_L) (st : List ix_V) (μ : ix_M) : ix_Ev (tL_0 L xs) Q (1212, ls, st, μ) = (ix_aload 0 1213) (ix_Ev (tL_0 L xs) Q) Q ls st μ := ix_Ev.eqM H ((stL_30 L xs 1212 (by decide)).trans (ix_lk_app1 rfl)) ls st μ
theorem e_L_1213 {L : Nat} {xs : Nat → Int32} (H : ix_Mo (tL_0 L xs)) (Q : ix_R → Prop) (ls : ix_L) (st : List ix_V) (μ : ix_M) : ix_Ev (tL_0 L xs) Q (1213, ls, st, μ) = (ix_iload 3 1214) (ix_Ev (tL_0 L xs) Q) Q ls st μ := ix_Ev.eqM H ((stL_30 L xs 1213 (by decide)).trans (ix_lk_app1 rfl)) ls st μ
theorem e_L_1214 {L : Nat} {xs : Nat → Int32} (H : ix_Mo (tL_0 L xs)) (Q : ix_R → Prop) (ls : ix_L) (st : List ix_V) (μ : ix_M) : ix_Ev (tL_0 L xs) Q (1214, ls, st, μ) = (ix_push (vi 3) 1215) (ix_Ev (tL_0 L xs) Q) Q ls st μ := ix_Ev.eqM H ((stL_30 L xs 1214 (by decide)).trans (ix_lk_app1 rfl)) ls st μ
theorem e_L_1215 {L : Nat} {xs : Nat → Int32} (H : ix_Mo (tL_0 L xs)) (Q : ix_R → Prop) (ls : ix_L) (st : List ix_V) (μ : ix_M) : ix_Ev (tL_0 L xs) Q (1215, ls, st, μ) = (ix_bin (fun x y => x + y) 1216) (ix_Ev (tL_0 L xs) Q) Q ls st μ := ix_Ev.eqM H ((stL_30 L xs 1215 (by decide)).trans (ix_lk_app1 rfl)) ls st μ
theorem e_L_1216 {L : Nat} {xs : Nat → Int32} (H : ix_Mo (tL_0 L xs)) (Q : ix_R → Prop) (ls : ix_L) (st : List ix_V) (μ : ix_M) : ix_Ev (tL_0 L xs) Q (1216, ls, st, μ) = (ix_xld L xs 1217) (ix_Ev (tL_0 L xs) Q) Q ls st μ := ix_Ev.eqM H ((stL_30 L xs 1216 (by decide)).trans (ix_lk_app1 rfl)) ls st μ
theorem e_L_1217 {L : Nat} {xs : Nat → Int32} (H : ix_Mo (tL_0 L xs)) (Q : ix_R → Prop) (ls : ix_L) (st : List ix_V) (μ : ix_M) : ix_Ev (tL_0 L xs) Q (1217, ls, st, μ) = (oc_X10_odds 1220) (ix_Ev (tL_0 L xs) Q) Q ls st μ := ix_Ev.eqM H ((stL_30 L xs 1217 (by decide)).trans (ix_lk_app1 rfl)) ls st μ
theorem e_L_1220 {L : Nat} {xs : Nat → Int32} (H : ix_Mo (tL_0 L xs)) (Q : ix_R → Prop) (ls : ix_L) (st : List ix_V) (μ : ix_M) : ix_Ev (tL_0 L xs) Q (1220, ls, st, μ) = (ix_aload 2 1221) (ix_Ev (tL_0 L xs) Q) Q ls st μ := ix_Ev.eqM H ((stL_30 L xs 1220 (by decide)).trans (ix_lk_app1 rfl)) ls st μ
theorem e_L_1221 {L : Nat} {xs : Nat → Int32} (H : ix_Mo (tL_0 L xs)) (Q : ix_R → Prop) (ls : ix_L) (st : List ix_V) (μ : ix_M) : ix_Ev (tL_0 L xs) Q (1221, ls, st, μ) = (ix_aload 0 1222) (ix_Ev (tL_0 L xs) Q) Q ls st μ := ix_Ev.eqM H ((stL_30 L xs 1221 (by decide)).trans (ix_lk_app1 rfl)) ls st μ
theorem e_L_1222 {L : Nat} {xs : Nat → Int32} (H : ix_Mo (tL_0 L xs)) (Q : ix_R → Prop) (ls : ix_L) (st : List ix_V) (μ : ix_M) : ix_Ev (tL_0 L xs) Q (1222, ls, st, μ) = (ix_iload 3 1223) (ix_Ev (tL_0 L xs) Q) Q ls st μ := ix_Ev.eqM H ((stL_30 L xs 1222 (by decide)).trans (ix_lk_app1 rfl)) ls st μ
theorem e_L_1223 {L : Nat} {xs : Nat → Int32} (H : ix_Mo (tL_0 L xs)) (Q : ix_R → Prop) (ls : ix_L) (st : List ix_V) (μ : ix_M) : ix_Ev (tL_0 L xs) Q (1223, ls, st, μ) = (ix_push (vi 1) 1224) (ix_Ev (tL_0 L xs) Q) Q ls st μ := ix_Ev.eqM H ((stL_30 L xs 1223 (by decide)).trans (ix_lk_app1 rfl)) ls st μ
theorem e_L_1224 {L : Nat} {xs : Nat → Int32} (H : ix_Mo (tL_0 L xs)) (Q : ix_R → Prop) (ls : ix_L) (st : List ix_V) (μ : ix_M) : ix_Ev (tL_0 L xs) Q (1224, ls, st, μ) = (ix_bin (fun x y => x + y) 1225) (ix_Ev (tL_0 L xs) Q) Q ls st μ := ix_Ev.eqM H ((stL_30 L xs 1224 (by decide)).trans (ix_lk_app1 rfl)) ls st μ
theorem e_L_1225 {L : Nat} {xs : Nat → Int32} (H : ix_Mo (tL_0 L xs)) (Q : ix_R → Prop) (ls : ix_L) (st : List ix_V) (μ : ix_M) : ix_Ev (tL_0 L xs) Q (1225, ls, st, μ) = (ix_xld L xs 1226) (ix_Ev (tL_0 L xs) Q) Q ls st μ := ix_Ev.eqM H ((stL_30 L xs 1225 (by decide)).trans (ix_lk_app1 rfl)) ls st μ
theorem e_L_1226 {L : Nat} {xs : Nat → Int32} (H : ix_Mo (tL_0 L xs)) (Q : ix_R → Prop) (ls : ix_L) (st : List ix_V) (μ : ix_M) : ix_Ev (tL_0 L xs) Q (1226, ls, st, μ) = (ix_aload 0 1227) (ix_Ev (tL_0 L xs) Q) Q ls st μ := ix_Ev.eqM H ((stL_30 L xs 1226 (by decide)).trans (ix_lk_app1 rfl)) ls st μ
theorem e_L_1227 {L : Nat} {xs : Nat → Int32} (H : ix_Mo (tL_0 L xs)) (Q : ix_R → Prop) (ls : ix_L) (st : List ix_V) (μ : ix_M) : ix_Ev (tL_0 L xs) Q (1227, ls, st, μ) = (ix_iload 3 1228) (ix_Ev (tL_0 L xs) Q) Q ls st μ := ix_Ev.eqM H ((stL_30 L xs 1227 (by decide)).trans (ix_lk_app1 rfl)) ls st μ
theorem e_L_1228 {L : Nat} {xs : Nat → Int32} (H : ix_Mo (tL_0 L xs)) (Q : ix_R → Prop) (ls : ix_L) (st : List ix_V) (μ : ix_M) : ix_Ev (tL_0 L xs) Q (1228, ls, st, μ) = (ix_push (vi 2) 1229) (ix_Ev (tL_0 L xs) Q) Q ls st μ := ix_Ev.eqM H ((stL_30 L xs 1228 (by decide)).trans (ix_lk_app1 rfl)) ls st μ
theorem e_L_1229 {L : Nat} {xs : Nat → Int32} (H : ix_Mo (tL_0 L xs)) (Q : ix_R → Prop) (ls : ix_L) (st : List ix_V) (μ : ix_M) : ix_Ev (tL_0 L xs) Q (1229, ls, st, μ) = (ix_bin (fun x y => x + y) 1230) (ix_Ev (tL_0 L xs) Q) Q ls st μ := ix_Ev.eqM H ((stL_30 L xs 1229 (by decide)).trans (ix_lk_app1 rfl)) ls st μ
theorem e_L_1230 {L : Nat} {xs : Nat → Int32} (H : ix_Mo (tL_0 L xs)) (Q : ix_R → Prop) (ls : ix_L) (st : List ix_V) (μ : ix_M) : ix_Ev (tL_0 L xs) Q (1230, ls, st, μ) = (ix_xld L xs 1231) (ix_Ev (tL_0 L xs) Q) Q ls st μ := ix_Ev.eqM H ((stL_30 L xs 1230 (by decide)).trans (ix_lk_app1 rfl)) ls st μ
theorem e_L_1231 {L : Nat} {xs : Nat → Int32} (H : ix_Mo (tL_0 L xs)) (Q : ix_R → Prop) (ls : ix_L) (st : List ix_V) (μ : ix_M) : ix_Ev (tL_0 L xs) Q (1231, ls, st, μ) = (ix_aload 0 1232) (ix_Ev (tL_0 L xs) Q) Q ls st μ := ix_Ev.eqM H ((stL_30 L xs 1231 (by decide)).trans (ix_lk_app1 rfl)) ls st μ
theorem e_L_1232 {L : Nat} {xs : Nat → Int32} (H : ix_Mo (tL_0 L xs)) (Q : ix_R → Prop) (ls : ix_L) (st : List ix_V) (μ : ix_M) : ix_Ev (tL_0 L xs) Q (1232, ls, st, μ) = (ix_iload 3 1233) (ix_Ev (tL_0 L xs) Q) Q ls st μ := ix_Ev.eqM H ((stL_30 L xs 1232 (by decide)).trans (ix_lk_app1 rfl)) ls st μ
theorem e_L_1233 {L : Nat} {xs : Nat → Int32} (H : ix_Mo (tL_0 L xs)) (Q : ix_R → Prop) (ls : ix_L) (st : List ix_V) (μ : ix_M) : ix_Ev (tL_0 L xs) Q (1233, ls, st, μ) = (ix_push (vi 3) 1234) (ix_Ev (tL_0 L xs) Q) Q ls st μ := ix_Ev.eqM H ((stL_30 L xs 1233 (by decide)).trans (ix_lk_app1 rfl)) ls st μ
theorem e_L_1234 {L : Nat} {xs : Nat → Int32} (H : ix_Mo (tL_0 L xs)) (Q : ix_R → Prop) (ls : ix_L) (st : List ix_V) (μ : ix_M) : ix_Ev (tL_0 L xs) Q (1234, ls, st, μ) = (ix_bin (fun x y => x + y) 1235) (ix_Ev (tL_0 L xs) Q) Q ls st μ := ix_Ev.eqM H ((stL_30 L xs 1234 (by decide)).trans (ix_lk_app1 rfl)) ls st μ
theorem e_L_1235 {L : Nat} {xs : Nat → Int32} (H : ix_Mo (tL_0 L xs)) (Q : ix_R → Prop) (ls : ix_L) (st : List ix_V) (μ : ix_M) : ix_Ev (tL_0 L xs) Q (1235, ls, st, μ) = (ix_xld L xs 1236) (ix_Ev (tL_0 L xs) Q) Q ls st μ := ix_Ev.eqM H ((stL_30 L xs 1235 (by decide)).trans (ix_lk_app1 rfl)) ls st μ
theorem e_L_1236 {L : Nat} {xs : Nat → Int32} (H : ix_Mo (tL_0 L xs)) (Q : ix_R → Prop) (ls : ix_L) (st : List ix_V) (μ : ix_M) : ix_Ev (tL_0 L xs) Q (1236, ls, st, μ) = (oc_X11_odds 1239) (ix_Ev (tL_0 L xs) Q) Q ls st μ := ix_Ev.eqM H ((stL_30 L xs 1236 (by decide)).trans (ix_lk_app1 rfl)) ls st μ
theorem e_L_1239 {L : Nat} {xs : Nat → Int32} (H : ix_Mo (tL_0 L xs)) (Q : ix_R → Prop) (ls : ix_L) (st : List ix_V) (μ : ix_M) : ix_Ev (tL_0 L xs) Q (1239, ls, st, μ) = (ix_cmp (fun x y => x = y) 1636 1242) (ix_Ev (tL_0 L xs) Q) Q ls st μ := ix_Ev.eqM H ((stL_30 L xs 1239 (by decide)).trans (ix_lk_app1 rfl)) ls st μ
theorem e_L_1242 {L : Nat} {xs : Nat → Int32} (H : ix_Mo (tL_0 L xs)) (Q : ix_R → Prop) (ls : ix_L) (st : List ix_V) (μ : ix_M) : ix_Ev (tL_0 L xs) Q (1242, ls, st, μ) = (ix_push (vi 0) 1243) (ix_Ev (tL_0 L xs) Q) Q ls st μ := ix_Ev.eqM H ((stL_30 L xs 1242 (by decide)).trans (ix_lk_app1 rfl)) ls st μ
theorem e_L_1243 {L : Nat} {xs : Nat → Int32} (H : ix_Mo (tL_0 L xs)) (Q : ix_R → Prop) (ls : ix_L) (st : List ix_V) (μ : ix_M) : ix_Ev (tL_0 L xs) Q (1243, ls, st, μ) = ix_zret (ix_Ev (tL_0 L xs) Q) Q ls st μ := ix_Ev.eqM H ((stL_30 L xs 1243 (by decide)).trans (ix_lk_app1 rfl)) ls st μ
theorem e_L_1244 {L : Nat} {xs : Nat → Int32} (H : ix_Mo (tL_0 L xs)) (Q : ix_R → Prop) (ls : ix_L) (st : List ix_V) (μ : ix_M) : ix_Ev (tL_0 L xs) Q (1244, ls, st, μ) = (ix_aload 1 1245) (ix_Ev (tL_0 L xs) Q) Q ls st μ := ix_Ev.eqM H ((stL_31 L xs 1244 (by decide)).trans (ix_lk_app1 rfl)) ls st μ
theorem e_L_1245 {L : Nat} {xs : Nat → Int32} (H : ix_Mo (tL_0 L xs)) (Q : ix_R → Prop) (ls : ix_L) (st : List ix_V) (μ : ix_M) : ix_Ev (tL_0 L xs) Q (1245, ls, st, μ) = (ix_aload 0 1246) (ix_Ev (tL_0 L xs) Q) Q ls st μ := ix_Ev.eqM H ((stL_31 L xs 1245 (by decide)).trans (ix_lk_app1 rfl)) ls st μ
theorem e_L_1246 {L : Nat} {xs : Nat → Int32} (H : ix_Mo (tL_0 L xs)) (Q : ix_R → Prop) (ls : ix_L) (st : List ix_V) (μ : ix_M) : ix_Ev (tL_0 L xs) Q (1246, ls, st, μ) = (ix_iload 3 1247) (ix_Ev (tL_0 L xs) Q) Q ls st μ := ix_Ev.eqM H ((stL_31 L xs 1246 (by decide)).trans (ix_lk_app1 rfl)) ls st μ
theorem e_L_1247 {L : Nat} {xs : Nat → Int32} (H : ix_Mo (tL_0 L xs)) (Q : ix_R → Prop) (ls : ix_L) (st : List ix_V) (μ : ix_M) : ix_Ev (tL_0 L xs) Q (1247, ls, st, μ) = (ix_push (vi 1) 1248) (ix_Ev (tL_0 L xs) Q) Q ls st μ := ix_Ev.eqM H ((stL_31 L xs 1247 (by decide)).trans (ix_lk_app1 rfl)) ls st μ
theorem e_L_1248 {L : Nat} {xs : Nat → Int32} (H : ix_Mo (tL_0 L xs)) (Q : ix_R → Prop) (ls : ix_L) (st : List ix_V) (μ : ix_M) : ix_Ev (tL_0 L xs) Q (1248, ls, st, μ) = (ix_bin (fun x y => x + y) 1249) (ix_Ev (tL_0 L xs) Q) Q ls st μ := ix_Ev.eqM H ((stL_31 L xs 1248 (by decide)).trans (ix_lk_app1 rfl)) ls st μ
theorem e_L_1249 {L : Nat} {xs : Nat → Int32} (H : ix_Mo (tL_0 L xs)) (Q : ix_R → Prop) (ls : ix_L) (st : List ix_V) (μ : ix_M) : ix_Ev (tL_0 L xs) Q (1249, ls, st, μ) = (ix_xld L xs 1250) (ix_Ev (tL_0 L xs) Q) Q ls st μ := ix_Ev.eqM H ((stL_31 L xs 1249 (by decide)).trans (ix_lk_app1 rfl)) ls st μ
theorem e_L_1250 {L : Nat} {xs : Nat → Int32} (H : ix_Mo (tL_0 L xs)) (Q : ix_R → Prop) (ls : ix_L) (st : List ix_V) (μ : ix_M) : ix_Ev (tL_0 L xs) Q (1250, ls, st, μ) = (oc_X10_seed 1253) (ix_Ev (tL_0 L xs) Q) Q ls st μ := ix_Ev.eqM H ((stL_31 L xs 1250 (by decide)).trans (ix_lk_app1 rfl)) ls st μ
theorem e_L_1253 {L : Nat} {xs : Nat → Int32} (H : ix_Mo (tL_0 L xs)) (Q : ix_R → Prop) (ls : ix_L) (st : List ix_V) (μ : ix_M) : ix_Ev (tL_0 L xs) Q (1253, ls, st, μ) = (ix_aload 2 1254) (ix_Ev (tL_0 L xs) Q) Q ls st μ := ix_Ev.eqM H ((stL_31 L xs 1253 (by decide)).trans (ix_lk_app1 rfl)) ls st μ
theorem e_L_1254 {L : Nat} {xs : Nat → Int32} (H : ix_Mo (tL_0 L xs)) (Q : ix_R → Prop) (ls : ix_L) (st : List ix_V) (μ : ix_M) : ix_Ev (tL_0 L xs) Q (1254, ls, st, μ) = (ix_aload 0 1255) (ix_Ev (tL_0 L xs) Q) Q ls st μ := ix_Ev.eqM H ((stL_31 L xs 1254 (by decide)).trans (ix_lk_app1 rfl)) ls st μ
theorem e_L_1255 {L : Nat} {xs : Nat → Int32} (H : ix_Mo (tL_0 L xs)) (Q : ix_R → Prop) (ls : ix_L) (st : List ix_V) (μ : ix_M) : ix_Ev (tL_0 L xs) Q (1255, ls, st, μ) = (ix_iload 3 1256) (ix_Ev (tL_0 L xs) Q) Q ls st μ := ix_Ev.eqM H ((stL_31 L xs 1255 (by decide)).trans (ix_lk_app1 rfl)) ls st μ
theorem e_L_1256 {L : Nat} {xs : Nat → Int32} (H : ix_Mo (tL_0 L xs)) (Q : ix_R → Prop) (ls : ix_L) (st : List ix_V) (μ : ix_M) : ix_Ev (tL_0 L xs) Q (1256, ls, st, μ) = (ix_push (vi 1) 1257) (ix_Ev (tL_0 L xs) Q) Q ls st μ := ix_Ev.eqM H ((stL_31 L xs 1256 (by decide)).trans (ix_lk_app1 rfl)) ls st μ
theorem e_L_1257 {L : Nat} {xs : Nat → Int32} (H : ix_Mo (tL_0 L xs)) (Q : ix_R → Prop) (ls : ix_L) (st : List ix_V) (μ : ix_M) : ix_Ev (tL_0 L xs) Q (1257, ls, st, μ) = (ix_bin (fun x y => x + y) 1258) (ix_Ev (tL_0 L xs) Q) Q ls st μ := ix_Ev.eqM H ((stL_31 L xs 1257 (by decide)).trans (ix_lk_app1 rfl)) ls st μ
theorem e_L_1258 {L : Nat} {xs : Nat → Int32} (H : ix_Mo (tL_0 L xs)) (Q : ix_R → Prop) (ls : ix_L) (st : List ix_V) (μ : ix_M) : ix_Ev (tL_0 L xs) Q (1258, ls, st, μ) = (ix_xld L xs 1259) (ix_Ev (tL_0 L xs) Q) Q ls st μ := ix_Ev.eqM H ((stL_31 L xs 1258 (by decide)).trans (ix_lk_app1 rfl)) ls st μ
theorem e_L_1259 {L : Nat} {xs : Nat → Int32} (H : ix_Mo (tL_0 L xs)) (Q : ix_R → Prop) (ls : ix_L) (st : List ix_V) (μ : ix_M) : ix_Ev (tL_0 L xs) Q (1259, ls, st, μ) = (oc_X11_seed 1262) (ix_Ev (tL_0 L xs) Q) Q ls st μ := ix_Ev.eqM H ((stL_31 L xs 1259 (by decide)).trans (ix_lk_app1 rfl)) ls st μ
theorem e_L_1262 {L : Nat} {xs : Nat → Int32} (H : ix_Mo (tL_0 L xs)) (Q : ix_R → Prop) (ls : ix_L) (st : List ix_V) (μ : ix_M) : ix_Ev (tL_0 L xs) Q (1262, ls, st, μ) = (ix_cmp (fun x y => x = y) 1636 1265) (ix_Ev (tL_0 L xs) Q) Q ls st μ := ix_Ev.eqM H ((stL_31 L xs 1262 (by decide)).trans (ix_lk_app1 rfl)) ls st μ
theorem e_L_1265 {L : Nat} {xs : Nat → Int32} (H : ix_Mo (tL_0 L xs)) (Q : ix_R → Prop) (ls : ix_L) (st : List ix_V) (μ : ix_M) : ix_Ev (tL_0 L xs) Q (1265, ls, st, μ) = (ix_push (vi 0) 1266) (ix_Ev (tL_0 L xs) Q) Q ls st μ := ix_Ev.eqM H ((stL_31 L xs 1265 (by decide)).trans (ix_lk_app1 rfl)) ls st μ
theorem e_L_1266 {L : Nat} {xs : Nat → Int32} (H : ix_Mo (tL_0 L xs)) (Q : ix_R → Prop) (ls : ix_L) (st : List ix_V) (μ : ix_M) : ix_Ev (tL_0 L xs) Q (1266, ls, st, μ) = ix_zret (ix_Ev (tL_0 L xs) Q) Q ls st μ := ix_Ev.eqM H ((stL_31 L xs 1266 (by decide)).trans (ix_lk_app1 rfl)) ls st μ
theorem e_L_1267 {L : Nat} {xs : Nat → Int32} (H : ix_Mo (tL_0 L xs)) (Q : ix_R → Prop) (ls : ix_L) (st : List ix_V) (μ : ix_M) : ix_Ev (tL_0 L xs) Q (1267, ls, st, μ) = (ix_aload 1 1268) (ix_Ev (tL_0 L xs) Q) Q ls st μ := ix_Ev.eqM H ((stL_32 L xs 1267 (by decide)).trans (ix_lk_app1 rfl)) ls st μ
theorem e_L_1268 {L : Nat} {xs : Nat → Int32} (H : ix_Mo (tL_0 L xs)) (Q : ix_R → Prop) (ls : ix_L) (st : List ix_V) (μ : ix_M) : ix_Ev (tL_0 L xs) Q (1268, ls, st, μ) = (ix_aload 0 1269) (ix_Ev (tL_0 L xs) Q) Q ls st μ := ix_Ev.eqM H ((stL_32 L xs 1268 (by decide)).trans (ix_lk_app1 rfl)) ls st μ
theorem e_L_1269 {L : Nat} {xs : Nat → Int32} (H : ix_Mo (tL_0 L xs)) (Q : ix_R → Prop) (ls : ix_L) (st : List ix_V) (μ : ix_M) : ix_Ev (tL_0 L xs) Q (1269, ls, st, μ) = (ix_iload 3 1270) (ix_Ev (tL_0 L xs) Q) Q ls st μ := ix_Ev.eqM H ((stL_32 L xs 1269 (by decide)).trans (ix_lk_app1 rfl)) ls st μ
theorem e_L_1270 {L : Nat} {xs : Nat → Int32} (H : ix_Mo (tL_0 L xs)) (Q : ix_R → Prop) (ls : ix_L) (st : List ix_V) (μ : ix_M) : ix_Ev (tL_0 L xs) Q (1270, ls, st, μ) = (ix_push (vi 1) 1271) (ix_Ev (tL_0 L xs) Q) Q ls st μ := ix_Ev.eqM H ((stL_32 L xs 1270 (by decide)).trans (ix_lk_app1 rfl)) ls st μ
theorem e_L_1271 {L : Nat} {xs : Nat → Int32} (H : ix_Mo (tL_0 L xs)) (Q : ix_R → Prop) (ls : ix_L) (st : List ix_V) (μ : ix_M) : ix_Ev (tL_0 L xs) Q (1271, ls, st, μ) = (ix_bin (fun x y => x + y) 1272) (ix_Ev (tL_0 L xs) Q) Q ls st μ := ix_Ev.eqM H ((stL_32 L xs 1271 (by decide)).trans (ix_lk_app1 rfl)) ls st μ
theorem e_L_1272 {L : Nat} {xs : Nat → Int32} (H : ix_Mo (tL_0 L xs)) (Q : ix_R → Prop) (ls : ix_L) (st : List ix_V) (μ : ix_M) : ix_Ev (tL_0 L xs) Q (1272, ls, st, μ) = (ix_xld L xs 1273) (ix_Ev (tL_0 L xs) Q) Q ls st μ := ix_Ev.eqM H ((stL_32 L xs 1272 (by decide)).trans (ix_lk_app1 rfl)) ls st μ
theorem e_L_1273 {L : Nat} {xs : Nat → Int32} (H : ix_Mo (tL_0 L xs)) (Q : ix_R → Prop) (ls : ix_L) (st : List ix_V) (μ : ix_M) : ix_Ev (tL_0 L xs) Q (1273, ls, st, μ) = (ix_aload 0 1274) (ix_Ev (tL_0 L xs) Q) Q ls st μ := ix_Ev.eqM H ((stL_32 L xs 1273 (by decide)).trans (ix_lk_app1 rfl)) ls st μ
theorem e_L_1274 {L : Nat} {xs : Nat → Int32} (H : ix_Mo (tL_0 L xs)) (Q : ix_R → Prop) (ls : ix_L) (st : List ix_V) (μ : ix_M) : ix_Ev (tL_0 L xs) Q (1274, ls, st, μ) = (ix_iload 3 1275) (ix_Ev (tL_0 L xs) Q) Q ls st μ := ix_Ev.eqM H ((stL_32 L xs 1274 (by decide)).trans (ix_lk_app1 rfl)) ls st μ
theorem e_L_1275 {L : Nat} {xs : Nat → Int32} (H : ix_Mo (tL_0 L xs)) (Q : ix_R → Prop) (ls : ix_L) (st : List ix_V) (μ : ix_M) : ix_Ev (tL_0 L xs) Q (1275, ls, st, μ) = (ix_push (vi 2) 1276) (ix_Ev (tL_0 L xs) Q) Q ls st μ := ix_Ev.eqM H ((stL_32 L xs 1275 (by decide)).trans (ix_lk_app1 rfl)) ls st μ
theorem e_L_1276 {L : Nat} {xs : Nat → Int32} (H : ix_Mo (tL_0 L xs)) (Q : ix_R → Prop) (ls : ix_L) (st : List ix_V) (μ : ix_M) : ix_Ev (tL_0 L xs) Q (1276, ls, st, μ) = (ix_bin (fun x y => x + y) 1277) (ix_Ev (tL_0 L xs) Q) Q ls st μ := ix_Ev.eqM H ((stL_32 L xs 1276 (by decide)).trans (ix_lk_app1 rfl)) ls st μ
theorem e_L_1277 {L : Nat} {xs : Nat → Int32} (H : ix_Mo (tL_0 L xs)) (Q : ix_R → Prop) (ls : ix_L) (st : List ix_V) (μ : ix_M) : ix_Ev (tL_0 L xs) Q (1277, ls, st, μ) = (ix_xld L xs 1278) (ix_Ev (tL_0 L xs) Q) Q ls st μ := ix_Ev.eqM H ((stL_32 L xs 1277 (by decide)).trans (ix_lk_app1 rfl)) ls st μ
theorem e_L_1278 {L : Nat} {xs : Nat → Int32} (H : ix_Mo (tL_0 L xs)) (Q : ix_R → Prop) (ls : ix_L) (st : List ix_V) (μ : ix_M) : ix_Ev (tL_0 L xs) Q (1278, ls, st, μ) = (ix_aload 0 1279) (ix_Ev (tL_0 L xs) Q) Q ls st μ := ix_Ev.eqM H ((stL_32 L xs 1278 (by decide)).trans (ix_lk_app1 rfl)) ls st μ
theorem e_L_1279 {L : Nat} {xs : Nat → Int32} (H : ix_Mo (tL_0 L xs)) (Q : ix_R → Prop) (ls : ix_L) (st : List ix_V) (μ : ix_M) : ix_Ev (tL_0 L xs) Q (1279, ls, st, μ) = (ix_iload 3 1280) (ix_Ev (tL_0 L xs) Q) Q ls st μ := ix_Ev.eqM H ((stL_32 L xs 1279 (by decide)).trans (ix_lk_app1 rfl)) ls st μ
theorem e_L_1280 {L : Nat} {xs : Nat → Int32} (H : ix_Mo (tL_0 L xs)) (Q : ix_R → Prop) (ls : ix_L) (st : List ix_V) (μ : ix_M) : ix_Ev (tL_0 L xs) Q (1280, ls, st, μ) = (ix_push (vi 3) 1281) (ix_Ev (tL_0 L xs) Q) Q ls st μ := ix_Ev.eqM H ((stL_32 L xs 1280 (by decide)).trans (ix_lk_app1 rfl)) ls st μ
theorem e_L_1281 {L : Nat} {xs : Nat → Int32} (H : ix_Mo (tL_0 L xs)) (Q : ix_R → Prop) (ls : ix_L) (st : List ix_V) (μ : ix_M) : ix_Ev (tL_0 L xs) Q (1281, ls, st, μ) = (ix_bin (fun x y => x + y) 1282) (ix_Ev (tL_0 L xs) Q) Q ls st μ := ix_Ev.eqM H ((stL_32 L xs 1281 (by decide)).trans (ix_lk_app1 rfl)) ls st μ
theorem e_L_1282 {L : Nat} {xs : Nat → Int32} (H : ix_Mo (tL_0 L xs)) (Q : ix_R → Prop) (ls : ix_L) (st : List ix_V) (μ : ix_M) : ix_Ev (tL_0 L xs) Q (1282, ls, st, μ) = (ix_xld L xs 1283) (ix_Ev (tL_0 L xs) Q) Q ls st μ := ix_Ev.eqM H ((stL_32 L xs 1282 (by decide)).trans (ix_lk_app1 rfl)) ls st μ
theorem e_L_1283 {L : Nat} {xs : Nat → Int32} (H : ix_Mo (tL_0 L xs)) (Q : ix_R → Prop) (ls : ix_L) (st : List ix_V) (μ : ix_M) : ix_Ev (tL_0 L xs) Q (1283, ls, st, μ) = (oc_X10_voice 1286) (ix_Ev (tL_0 L xs) Q) Q ls st μ := ix_Ev.eqM H ((stL_32 L xs 1283 (by decide)).trans (ix_lk_app1 rfl)) ls st μ
theorem e_L_1286 {L : Nat} {xs : Nat → Int32} (H : ix_Mo (tL_0 L xs)) (Q : ix_R → Prop) (ls : ix_L) (st : List ix_V) (μ : ix_M) : ix_Ev (tL_0 L xs) Q (1286, ls, st, μ) = (ix_aload 2 1287) (ix_Ev (tL_0 L xs) Q) Q ls st μ := ix_Ev.eqM H ((stL_32 L xs 1286 (by decide)).trans (ix_lk_app1 rfl)) ls st μ
theorem e_L_1287 {L : Nat} {xs : Nat → Int32} (H : ix_Mo (tL_0 L xs)) (Q : ix_R → Prop) (ls : ix_L) (st : List ix_V) (μ : ix_M) : ix_Ev (tL_0 L xs) Q (1287, ls, st, μ) = (ix_aload 0 1288) (ix_Ev (tL_0 L xs) Q) Q ls st μ := ix_Ev.eqM H ((stL_32 L xs 1287 (by decide)).trans (ix_lk_app1 rfl)) ls st μ
theorem e_L_1288 {L : Nat} {xs : Nat → Int32} (H : ix_Mo (tL_0 L xs)) (Q : ix_R → Prop) (ls : ix_L) (st : List ix_V) (μ : ix_M) : ix_Ev (tL_0 L xs) Q (1288, ls, st, μ) = (ix_iload 3 1289) (ix_Ev (tL_0 L xs) Q) Q ls st μ := ix_Ev.eqM H ((stL_32 L xs 1288 (by decide)).trans (ix_lk_app1 rfl)) ls st μ
theorem e_L_1289 {L : Nat} {xs : Nat → Int32} (H : ix_Mo (tL_0 L xs)) (Q : ix_R → Prop) (ls : ix_L) (st : List ix_V) (μ : ix_M) : ix_Ev (tL_0 L xs) Q (1289, ls, st, μ) = (ix_push (vi 1) 1290) (ix_Ev (tL_0 L xs) Q) Q ls st μ := ix_Ev.eqM H ((stL_32 L xs 1289 (by decide)).trans (ix_lk_app1 rfl)) ls st μ
theorem e_L_1290 {L : Nat} {xs : Nat → Int32} (H : ix_Mo (tL_0 L xs)) (Q : ix_R → Prop) (ls : ix_L) (st : List ix_V) (μ : ix_M) : ix_Ev (tL_0 L xs) Q (1290, ls, st, μ) = (ix_bin (fun x y => x + y) 1291) (ix_Ev (tL_0 L xs) Q) Q ls st μ := ix_Ev.eqM H ((stL_32 L xs 1290 (by decide)).trans (ix_lk_app1 rfl)) ls st μ
theorem e_L_1291 {L : Nat} {xs : Nat → Int32} (H : ix_Mo (tL_0 L xs)) (Q : ix_R → Prop) (ls : ix_L) (st : List ix_V) (μ : ix_M) : ix_Ev (tL_0 L xs) Q (1291, ls, st, μ) = (ix_xld L xs 1292) (ix_Ev (tL_0 L xs) Q) Q ls st μ := ix_Ev.eqM H ((stL_32 L xs 1291 (by decide)).trans (ix_lk_app1 rfl)) ls st μ
theorem e_L_1292 {L : Nat} {xs : Nat → Int32} (H : ix_Mo (tL_0 L xs)) (Q : ix_R → Prop) (ls : ix_L) (st : List ix_V) (μ : ix_M) : ix_Ev (tL_0 L xs) Q (1292, ls, st, μ) = (ix_aload 0 1293) (ix_Ev (tL_0 L xs) Q) Q ls st μ := ix_Ev.eqM H ((stL_32 L xs 1292 (by decide)).trans (ix_lk_app1 rfl)) ls st μ
theorem e_L_1293 {L : Nat} {xs : Nat → Int32} (H : ix_Mo (tL_0 L xs)) (Q : ix_R → Prop) (ls : ix_L) (st : List ix_V) (μ : ix_M) : ix_Ev (tL_0 L xs) Q (1293, ls, st, μ) = (ix_iload 3 1294) (ix_Ev (tL_0 L xs) Q) Q ls st μ := ix_Ev.eqM H ((stL_32 L xs 1293 (by decide)).trans (ix_lk_app1 rfl)) ls st μ
theorem e_L_1294 {L : Nat} {xs : Nat → Int32} (H : ix_Mo (tL_0 L xs)) (Q : ix_R → Prop) (ls : ix_L) (st : List ix_V) (μ : ix_M) : ix_Ev (tL_0 L xs) Q (1294, ls, st, μ) = (ix_push (vi 2) 1295) (ix_Ev (tL_0 L xs) Q) Q ls st μ := ix_Ev.eqM H ((stL_32 L xs 1294 (by decide)).trans (ix_lk_app1 rfl)) ls st μ
theorem e_L_1295 {L : Nat} {xs : Nat → Int32} (H : ix_Mo (tL_0 L xs)) (Q : ix_R → Prop) (ls : ix_L) (st : List ix_V) (μ : ix_M) : ix_Ev (tL_0 L xs) Q (1295, ls, st, μ) = (ix_bin (fun x y => x + y) 1296) (ix_Ev (tL_0 L xs) Q) Q ls st μ := ix_Ev.eqM H ((stL_32 L xs 1295 (by decide)).trans (ix_lk_app1 rfl)) ls st μ
theorem e_L_1296 {L : Nat} {xs : Nat → Int32} (H : ix_Mo (tL_0 L xs)) (Q : ix_R → Prop) (ls : ix_L) (st : List ix_V) (μ : ix_M) : ix_Ev (tL_0 L xs) Q (1296, ls, st, μ) = (ix_xld L xs 1297) (ix_Ev (tL_0 L xs) Q) Q ls st μ := ix_Ev.eqM H ((stL_32 L xs 1296 (by decide)).trans (ix_lk_app1 rfl)) ls st μ
theorem e_L_1297 {L : Nat} {xs : Nat → Int32} (H : ix_Mo (tL_0 L xs)) (Q : ix_R → Prop) (ls : ix_L) (st : List ix_V) (μ : ix_M) : ix_Ev (tL_0 L xs) Q (1297, ls, st, μ) = (ix_aload 0 1298) (ix_Ev (tL_0 L xs) Q) Q ls st μ := ix_Ev.eqM H ((stL_32 L xs 1297 (by decide)).trans (ix_lk_app1 rfl)) ls st μ
theorem e_L_1298 {L : Nat} {xs : Nat → Int32} (H : ix_Mo (tL_0 L xs)) (Q : ix_R → Prop) (ls : ix_L) (st : List ix_V) (μ : ix_M) : ix_Ev (tL_0 L xs) Q (1298, ls, st, μ) = (ix_iload 3 1299) (ix_Ev (tL_0 L xs) Q) Q ls st μ := ix_Ev.eqM H ((stL_32 L xs 1298 (by decide)).trans (ix_lk_app1 rfl)) ls st μ
theorem e_L_1299 {L : Nat} {xs : Nat → Int32} (H : ix_Mo (tL_0 L xs)) (Q : ix_R → Prop) (ls : ix_L) (st : List ix_V) (μ : ix_M) : ix_Ev (tL_0 L xs) Q (1299, ls, st, μ) = (ix_push (vi 3) 1300) (ix_Ev (tL_0 L xs) Q) Q ls st μ := ix_Ev.eqM H ((stL_32 L xs 1299 (by decide)).trans (ix_lk_app1 rfl)) ls st μ
theorem e_L_1300 {L : Nat} {xs : Nat → Int32} (H : ix_Mo (tL_0 L xs)) (Q : ix_R → Prop) (ls : ix_L) (st : List ix_V) (μ : ix_M) : ix_Ev (tL_0 L xs) Q (1300, ls, st, μ) = (ix_bin (fun x y => x + y) 1301) (ix_Ev (tL_0 L xs) Q) Q ls st μ := ix_Ev.eqM H ((stL_32 L xs 1300 (by decide)).trans (ix_lk_app1 rfl)) ls st μ
theorem e_L_1301 {L : Nat} {xs : Nat → Int32} (H : ix_Mo (tL_0 L xs)) (Q : ix_R → Prop) (ls : ix_L) (st : List ix_V) (μ : ix_M) : ix_Ev (tL_0 L xs) Q (1301, ls, st, μ) = (ix_xld L xs 1302) (ix_Ev (tL_0 L xs) Q) Q ls st μ := ix_Ev.eqM H ((stL_32 L xs 1301 (by decide)).trans (ix_lk_app1 rfl)) ls st μ
theorem e_L_1302 {L : Nat} {xs : Nat → Int32} (H : ix_Mo (tL_0 L xs)) (Q : ix_R → Prop) (ls : ix_L) (st : List ix_V) (μ : ix_M) : ix_Ev (tL_0 L xs) Q (1302, ls, st, μ) = (oc_X11_voice 1305) (ix_Ev (tL_0 L xs) Q) Q ls st μ := ix_Ev.eqM H ((stL_32 L xs 1302 (by decide)).trans (ix_lk_app1 rfl)) ls st μ
theorem e_L_1305 {L : Nat} {xs : Nat → Int32} (H : ix_Mo (tL_0 L xs)) (Q : ix_R → Prop) (ls : ix_L) (st : List ix_V) (μ : ix_M) : ix_Ev (tL_0 L xs) Q (1305, ls, st, μ) = (ix_cmp (fun x y => x = y) 1636 1308) (ix_Ev (tL_0 L xs) Q) Q ls st μ := ix_Ev.eqM H ((stL_32 L xs 1305 (by decide)).trans (ix_lk_app1 rfl)) ls st μ
theorem e_L_1308 {L : Nat} {xs : Nat → Int32} (H : ix_Mo (tL_0 L xs)) (Q : ix_R → Prop) (ls : ix_L) (st : List ix_V) (μ : ix_M) : ix_Ev (tL_0 L xs) Q (1308, ls, st, μ) = (ix_push (vi 0) 1309) (ix_Ev (tL_0 L xs) Q) Q ls st μ := ix_Ev.eqM H ((stL_32 L xs 1308 (by decide)).trans (ix_lk_app1 rfl)) ls st μ
theorem e_L_1309 {L : Nat} {xs : Nat → Int32} (H : ix_Mo (tL_0 L xs)) (Q : ix_R → Prop) (ls : ix_L) (st : List ix_V) (μ : ix_M) : ix_Ev (tL_0 L xs) Q (1309, ls, st, μ) = ix_zret (ix_Ev (tL_0 L xs) Q) Q ls st μ := ix_Ev.eqM H ((stL_32 L xs 1309 (by decide)).trans (ix_lk_app1 rfl)) ls st μ
theorem e_L_1310 {L : Nat} {xs : Nat → Int32} (H : ix_Mo (tL_0 L xs)) (Q : ix_R → Prop) (ls : ix_L) (st : List ix_V) (μ : ix_M) : ix_Ev (tL_0 L xs) Q (1310, ls, st, μ) = (ix_aload 1 1311) (ix_Ev (tL_0 L xs) Q) Q ls st μ := ix_Ev.eqM H ((stL_33 L xs 1310 (by decide)).trans (ix_lk_app1 rfl)) ls st μ
theorem e_L_1311 {L : Nat} {xs : Nat → Int32} (H : ix_Mo (tL_0 L xs)) (Q : ix_R → Prop) (ls : ix_L) (st : List ix_V) (μ : ix_M) : ix_Ev (tL_0 L xs) Q (1311, ls, st, μ) = (ix_aload 0 1312) (ix_Ev (tL_0 L xs) Q) Q ls st μ := ix_Ev.eqM H ((stL_33 L xs 1311 (by decide)).trans (ix_lk_app1 rfl)) ls st μ
theorem e_L_1312 {L : Nat} {xs : Nat → Int32} (H : ix_Mo (tL_0 L xs)) (Q : ix_R → Prop) (ls : ix_L) (st : List ix_V) (μ : ix_M) : ix_Ev (tL_0 L xs) Q (1312, ls, st, μ) = (ix_iload 3 1313) (ix_Ev (tL_0 L xs) Q) Q ls st μ := ix_Ev.eqM H ((stL_33 L xs 1312 (by decide)).trans (ix_lk_app1 rfl)) ls st μ
theorem e_L_1313 {L : Nat} {xs : Nat → Int32} (H : ix_Mo (tL_0 L xs)) (Q : ix_R → Prop) (ls : ix_L) (st : List ix_V) (μ : ix_M) : ix_Ev (tL_0 L xs) Q (1313, ls, st, μ) = (ix_push (vi 1) 1314) (ix_Ev (tL_0 L xs) Q) Q ls st μ := ix_Ev.eqM H ((stL_33 L xs 1313 (by decide)).trans (ix_lk_app1 rfl)) ls st μ
theorem e_L_1314 {L : Nat} {xs : Nat → Int32} (H : ix_Mo (tL_0 L xs)) (Q : ix_R → Prop) (ls : ix_L) (st : List ix_V) (μ : ix_M) : ix_Ev (tL_0 L xs) Q (1314, ls, st, μ) = (ix_bin (fun x y => x + y) 1315) (ix_Ev (tL_0 L xs) Q) Q ls st μ := ix_Ev.eqM H ((stL_33 L xs 1314 (by decide)).trans (ix_lk_app1 rfl)) ls st μ
theorem e_L_1315 {L : Nat} {xs : Nat → Int32} (H : ix_Mo (tL_0 L xs)) (Q : ix_R → Prop) (ls : ix_L) (st : List ix_V) (μ : ix_M) : ix_Ev (tL_0 L xs) Q (1315, ls, st, μ) = (ix_xld L xs 1316) (ix_Ev (tL_0 L xs) Q) Q ls st μ := ix_Ev.eqM H ((stL_33 L xs 1315 (by decide)).trans (ix_lk_app1 rfl)) ls st μ
theorem e_L_1316 {L : Nat} {xs : Nat → Int32} (H : ix_Mo (tL_0 L xs)) (Q : ix_R → Prop) (ls : ix_L) (st : List ix_V) (μ : ix_M) : ix_Ev (tL_0 L xs) Q (1316, ls, st, μ) = (oc_X10_trace 1319) (ix_Ev (tL_0 L xs) Q) Q ls st μ := ix_Ev.eqM H ((stL_33 L xs 1316 (by decide)).trans (ix_lk_app1 rfl)) ls st μ
theorem e_L_1319 {L : Nat} {xs : Nat → Int32} (H : ix_Mo (tL_0 L xs)) (Q : ix_R → Prop) (ls : ix_L) (st : List ix_V) (μ : ix_M) : ix_Ev (tL_0 L xs) Q (1319, ls, st, μ) = (ix_aload 2 1320) (ix_Ev (tL_0 L xs) Q) Q ls st μ := ix_Ev.eqM H ((stL_33 L xs 1319 (by decide)).trans (ix_lk_app1 rfl)) ls st μ
theorem e_L_1320 {L : Nat} {xs : Nat → Int32} (H : ix_Mo (tL_0 L xs)) (Q : ix_R → Prop) (ls : ix_L) (st : List ix_V) (μ : ix_M) : ix_Ev (tL_0 L xs) Q (1320, ls, st, μ) = (ix_aload 0 1321) (ix_Ev (tL_0 L xs) Q) Q ls st μ := ix_Ev.eqM H ((stL_33 L xs 1320 (by decide)).trans (ix_lk_app1 rfl)) ls st μ
theorem e_L_1321 {L : Nat} {xs : Nat → Int32} (H : ix_Mo (tL_0 L xs)) (Q : ix_R → Prop) (ls : ix_L) (st : List ix_V) (μ : ix_M) : ix_Ev (tL_0 L xs) Q (1321, ls, st, μ) = (ix_iload 3 1322) (ix_Ev (tL_0 L xs) Q) Q ls st μ := ix_Ev.eqM H ((stL_33 L xs 1321 (by decide)).trans (ix_lk_app1 rfl)) ls st μ
theorem e_L_1322 {L : Nat} {xs : Nat → Int32} (H : ix_Mo (tL_0 L xs)) (Q : ix_R → Prop) (ls : ix_L) (st : List ix_V) (μ : ix_M) : ix_Ev (tL_0 L xs) Q (1322, ls, st, μ) = (ix_push (vi 1) 1323) (ix_Ev (tL_0 L xs) Q) Q ls st μ := ix_Ev.eqM H ((stL_33 L xs 1322 (by decide)).trans (ix_lk_app1 rfl)) ls st μ
theorem e_L_1323 {L : Nat} {xs : Nat → Int32} (H : ix_Mo (tL_0 L xs)) (Q : ix_R → Prop) (ls : ix_L) (st : List ix_V) (μ : ix_M) : ix_Ev (tL_0 L xs) Q (1323, ls, st, μ) = (ix_bin (fun x y => x + y) 1324) (ix_Ev (tL_0 L xs) Q) Q ls st μ := ix_Ev.eqM H ((stL_33 L xs 1323 (by decide)).trans (ix_lk_app1 rfl)) ls st μ
theorem e_L_1324 {L : Nat} {xs : Nat → Int32} (H : ix_Mo (tL_0 L xs)) (Q : ix_R → Prop) (ls : ix_L) (st : List ix_V) (μ : ix_M) : ix_Ev (tL_0 L xs) Q (1324, ls, st, μ) = (ix_xld L xs 1325) (ix_Ev (tL_0 L xs) Q) Q ls st μ := ix_Ev.eqM H ((stL_33 L xs 1324 (by decide)).trans (ix_lk_app1 rfl)) ls st μ
theorem e_L_1325 {L : Nat} {xs : Nat → Int32} (H : ix_Mo (tL_0 L xs)) (Q : ix_R → Prop) (ls : ix_L) (st : List ix_V) (μ : ix_M) : ix_Ev (tL_0 L xs) Q (1325, ls, st, μ) = (oc_X11_trace 1328) (ix_Ev (tL_0 L xs) Q) Q ls st μ := ix_Ev.eqM H ((stL_33 L xs 1325 (by decide)).trans (ix_lk_app1 rfl)) ls st μ
theorem e_L_1328 {L : Nat} {xs : Nat → Int32} (H : ix_Mo (tL_0 L xs)) (Q : ix_R → Prop) (ls : ix_L) (st : List ix_V) (μ : ix_M) : ix_Ev (tL_0 L xs) Q (1328, ls, st, μ) = (ix_cmp (fun x y => x = y) 1636 1331) (ix_Ev (tL_0 L xs) Q) Q ls st μ := ix_Ev.eqM H ((stL_33 L xs 1328 (by decide)).trans (ix_lk_app1 rfl)) ls st μ
theorem e_L_1331 {L : Nat} {xs : Nat → Int32} (H : ix_Mo (tL_0 L xs)) (Q : ix_R → Prop) (ls : ix_L) (st : List ix_V) (μ : ix_M) : ix_Ev (tL_0 L xs) Q (1331, ls, st, μ) = (ix_push (vi 0) 1332) (ix_Ev (tL_0 L xs) Q) Q ls st μ := ix_Ev.eqM H ((stL_33 L xs 1331 (by decide)).trans (ix_lk_app1 rfl)) ls st μ
theorem e_L_1332 {L : Nat} {xs : Nat → Int32} (H : ix_Mo (tL_0 L xs)) (Q : ix_R → Prop) (ls : ix_L) (st : List ix_V) (μ : ix_M) : ix_Ev (tL_0 L xs) Q (1332, ls, st, μ) = ix_zret (ix_Ev (tL_0 L xs) Q) Q ls st μ := ix_Ev.eqM H ((stL_33 L xs 1332 (by decide)).trans (ix_lk_app1 rfl)) ls st μ
theorem e_L_1333 {L : Nat} {xs : Nat → Int32} (H : ix_Mo (tL_0 L xs)) (Q : ix_R → Prop) (ls : ix_L) (st : List ix_V) (μ : ix_M) : ix_Ev (tL_0 L xs) Q (1333, ls, st, μ) = (ix_aload 1 1334) (ix_Ev (tL_0 L xs) Q) Q ls st μ := ix_Ev.eqM H ((stL_34 L xs 1333 (by decide)).trans (ix_lk_app1 rfl)) ls st μ
theorem e_L_1334 {L : Nat} {xs : Nat → Int32} (H : ix_Mo (tL_0 L xs)) (Q : ix_R → Prop) (ls : ix_L) (st : List ix_V) (μ : ix_M) : ix_Ev (tL_0 L xs) Q (1334, ls, st, μ) = (ix_aload 0 1335) (ix_Ev (tL_0 L xs) Q) Q ls st μ := ix_Ev.eqM H ((stL_34 L xs 1334 (by decide)).trans (ix_lk_app1 rfl)) ls st μ
theorem e_L_1335 {L : Nat} {xs : Nat → Int32} (H : ix_Mo (tL_0 L xs)) (Q : ix_R → Prop) (ls : ix_L) (st : List ix_V) (μ : ix_M) : ix_Ev (tL_0 L xs) Q (1335, ls, st, μ) = (ix_iload 3 1336) (ix_Ev (tL_0 L xs) Q) Q ls st μ := ix_Ev.eqM H ((stL_34 L xs 1335 (by decide)).trans (ix_lk_app1 rfl)) ls st μ
theorem e_L_1336 {L : Nat} {xs : Nat → Int32} (H : ix_Mo (tL_0 L xs)) (Q : ix_R → Prop) (ls : ix_L) (st : List ix_V) (μ : ix_M) : ix_Ev (tL_0 L xs) Q (1336, ls, st, μ) = (ix_push (vi 1) 1337) (ix_Ev (tL_0 L xs) Q) Q ls st μ := ix_Ev.eqM H ((stL_34 L xs 1336 (by decide)).trans (ix_lk_app1 rfl)) ls st μ
theorem e_L_1337 {L : Nat} {xs : Nat → Int32} (H : ix_Mo (tL_0 L xs)) (Q : ix_R → Prop) (ls : ix_L) (st : List ix_V) (μ : ix_M) : ix_Ev (tL_0 L xs) Q (1337, ls, st, μ) = (ix_bin (fun x y => x + y) 1338) (ix_Ev (tL_0 L xs) Q) Q ls st μ := ix_Ev.eqM H ((stL_34 L xs 1337 (by decide)).trans (ix_lk_app1 rfl)) ls st μ
theorem e_L_1338 {L : Nat} {xs : Nat → Int32} (H : ix_Mo (tL_0 L xs)) (Q : ix_R → Prop) (ls : ix_L) (st : List ix_V) (μ : ix_M) : ix_Ev (tL_0 L xs) Q (1338, ls, st, μ) = (ix_xld L xs 1339) (ix_Ev (tL_0 L xs) Q) Q ls st μ := ix_Ev.eqM H ((stL_34 L xs 1338 (by decide)).trans (ix_lk_app1 rfl)) ls st μ
theorem e_L_1339 {L : Nat} {xs : Nat → Int32} (H : ix_Mo (tL_0 L xs)) (Q : ix_R → Prop) (ls : ix_L) (st : List ix_V) (μ : ix_M) : ix_Ev (tL_0 L xs) Q (1339, ls, st, μ) = (ix_aload 0 1340) (ix_Ev (tL_0 L xs) Q) Q ls st μ := ix_Ev.eqM H ((stL_34 L xs 1339 (by decide)).trans (ix_lk_app1 rfl)) ls st μ
theorem e_L_1340 {L : Nat} {xs : Nat → Int32} (H : ix_Mo (tL_0 L xs)) (Q : ix_R → Prop) (ls : ix_L) (st : List ix_V) (μ : ix_M) : ix_Ev (tL_0 L xs) Q (1340, ls, st, μ) = (ix_iload 3 1341) (ix_Ev (tL_0 L xs) Q) Q ls st μ := ix_Ev.eqM H ((stL_34 L xs 1340 (by decide)).trans (ix_lk_app1 rfl)) ls st μ
theorem e_L_1341 {L : Nat} {xs : Nat → Int32} (H : ix_Mo (tL_0 L xs)) (Q : ix_R → Prop) (ls : ix_L) (st : List ix_V) (μ : ix_M) : ix_Ev (tL_0 L xs) Q (1341, ls, st, μ) = (ix_push (vi 2) 1342) (ix_Ev (tL_0 L xs) Q) Q ls st μ := ix_Ev.eqM H ((stL_34 L xs 1341 (by decide)).trans (ix_lk_app1 rfl)) ls st μ
theorem e_L_1342 {L : Nat} {xs : Nat → Int32} (H : ix_Mo (tL_0 L xs)) (Q : ix_R → Prop) (ls : ix_L) (st : List ix_V) (μ : ix_M) : ix_Ev (tL_0 L xs) Q (1342, ls, st, μ) = (ix_bin (fun x y => x + y) 1343) (ix_Ev (tL_0 L xs) Q) Q ls st μ := ix_Ev.eqM H ((stL_34 L xs 1342 (by decide)).trans (ix_lk_app1 rfl)) ls st μ
theorem e_L_1343 {L : Nat} {xs : Nat → Int32} (H : ix_Mo (tL_0 L xs)) (Q : ix_R → Prop) (ls : ix_L) (st : List ix_V) (μ : ix_M) : ix_Ev (tL_0 L xs) Q (1343, ls, st, μ) = (ix_xld L xs 1344) (ix_Ev (tL_0 L xs) Q) Q ls st μ := ix_Ev.eqM H ((stL_34 L xs 1343 (by decide)).trans (ix_lk_app1 rfl)) ls st μ
theorem e_L_1344 {L : Nat} {xs : Nat → Int32} (H : ix_Mo (tL_0 L xs)) (Q : ix_R → Prop) (ls : ix_L) (st : List ix_V) (μ : ix_M) : ix_Ev (tL_0 L xs) Q (1344, ls, st, μ) = (ix_aload 0 1345) (ix_Ev (tL_0 L xs) Q) Q ls st μ := ix_Ev.eqM H ((stL_34 L xs 1344 (by decide)).trans (ix_lk_app1 rfl)) ls st μ
theorem e_L_1345 {L : Nat} {xs : Nat → Int32} (H : ix_Mo (tL_0 L xs)) (Q : ix_R → Prop) (ls : ix_L) (st : List ix_V) (μ : ix_M) : ix_Ev (tL_0 L xs) Q (1345, ls, st, μ) = (ix_iload 3 1346) (ix_Ev (tL_0 L xs) Q) Q ls st μ := ix_Ev.eqM H ((stL_34 L xs 1345 (by decide)).trans (ix_lk_app1 rfl)) ls st μ
theorem e_L_1346 {L : Nat} {xs : Nat → Int32} (H : ix_Mo (tL_0 L xs)) (Q : ix_R → Prop) (ls : ix_L) (st : List ix_V) (μ : ix_M) : ix_Ev (tL_0 L xs) Q (1346, ls, st, μ) = (ix_push (vi 3) 1347) (ix_Ev (tL_0 L xs) Q) Q ls st μ := ix_Ev.eqM H ((stL_34 L xs 1346 (by decide)).trans (ix_lk_app1 rfl)) ls st μ
theorem e_L_1347 {L : Nat} {xs : Nat → Int32} (H : ix_Mo (tL_0 L xs)) (Q : ix_R → Prop) (ls : ix_L) (st : List ix_V) (μ : ix_M) : ix_Ev (tL_0 L xs) Q (1347, ls, st, μ) = (ix_bin (fun x y => x + y) 1348) (ix_Ev (tL_0 L xs) Q) Q ls st μ := ix_Ev.eqM H ((stL_34 L xs 1347 (by decide)).trans (ix_lk_app1 rfl)) ls st μ
theorem e_L_1348 {L : Nat} {xs : Nat → Int32} (H : ix_Mo (tL_0 L xs)) (Q : ix_R → Prop) (ls : ix_L) (st : List ix_V) (μ : ix_M) : ix_Ev (tL_0 L xs) Q (1348, ls, st, μ) = (ix_xld L xs 1349) (ix_Ev (tL_0 L xs) Q) Q ls st μ := ix_Ev.eqM H ((stL_34 L xs 1348 (by decide)).trans (ix_lk_app1 rfl)) ls st μ
theorem e_L_1349 {L : Nat} {xs : Nat → Int32} (H : ix_Mo (tL_0 L xs)) (Q : ix_R → Prop) (ls : ix_L) (st : List ix_V) (μ : ix_M) : ix_Ev (tL_0 L xs) Q (1349, ls, st, μ) = (oc_X10_sheet 1352) (ix_Ev (tL_0 L xs) Q) Q ls st μ := ix_Ev.eqM H ((stL_34 L xs 1349 (by decide)).trans (ix_lk_app1 rfl)) ls st μ
theorem e_L_1352 {L : Nat} {xs : Nat → Int32} (H : ix_Mo (tL_0 L xs)) (Q : ix_R → Prop) (ls : ix_L) (st : List ix_V) (μ : ix_M) : ix_Ev (tL_0 L xs) Q (1352, ls, st, μ) = (ix_aload 2 1353) (ix_Ev (tL_0 L xs) Q) Q ls st μ := ix_Ev.eqM H ((stL_34 L xs 1352 (by decide)).trans (ix_lk_app1 rfl)) ls st μ
theorem e_L_1353 {L : Nat} {xs : Nat → Int32} (H : ix_Mo (tL_0 L xs)) (Q : ix_R → Prop) (ls : ix_L) (st : List ix_V) (μ : ix_M) : ix_Ev (tL_0 L xs) Q (1353, ls, st, μ) = (ix_aload 0 1354) (ix_Ev (tL_0 L xs) Q) Q ls st μ := ix_Ev.eqM H ((stL_34 L xs 1353 (by decide)).trans (ix_lk_app1 rfl)) ls st μ
theorem e_L_1354 {L : Nat} {xs : Nat → Int32} (H : ix_Mo (tL_0 L xs)) (Q : ix_R → Prop) (ls : ix_L) (st : List ix_V) (μ : ix_M) : ix_Ev (tL_0 L xs) Q (1354, ls, st, μ) = (ix_iload 3 1355) (ix_Ev (tL_0 L xs) Q) Q ls st μ := ix_Ev.eqM H ((stL_34 L xs 1354 (by decide)).trans (ix_lk_app1 rfl)) ls st μ
theorem e_L_1355 {L : Nat} {xs : Nat → Int32} (H : ix_Mo (tL_0 L xs)) (Q : ix_R → Prop) (ls : ix_L) (st : List ix_V) (μ : ix_M) : ix_Ev (tL_0 L xs) Q (1355, ls, st, μ) = (ix_push (vi 1) 1356) (ix_Ev (tL_0 L xs) Q) Q ls st μ := ix_Ev.eqM H ((stL_34 L xs 1355 (by decide)).trans (ix_lk_app1 rfl)) ls st μ
theorem e_L_1356 {L : Nat} {xs : Nat → Int32} (H : ix_Mo (tL_0 L xs)) (Q : ix_R → Prop) (ls : ix_L) (st : List ix_V) (μ : ix_M) : ix_Ev (tL_0 L xs) Q (1356, ls, st, μ) = (ix_bin (fun x y => x + y) 1357) (ix_Ev (tL_0 L xs) Q) Q ls st μ := ix_Ev.eqM H ((stL_34 L xs 1356 (by decide)).trans (ix_lk_app1 rfl)) ls st μ
theorem e_L_1357 {L : Nat} {xs : Nat → Int32} (H : ix_Mo (tL_0 L xs)) (Q : ix_R → Prop) (ls : ix_L) (st : List ix_V) (μ : ix_M) : ix_Ev (tL_0 L xs) Q (1357, ls, st, μ) = (ix_xld L xs 1358) (ix_Ev (tL_0 L xs) Q) Q ls st μ := ix_Ev.eqM H ((stL_34 L xs 1357 (by decide)).trans (ix_lk_app1 rfl)) ls st μ
theorem e_L_1358 {L : Nat} {xs : Nat → Int32} (H : ix_Mo (tL_0 L xs)) (Q : ix_R → Prop) (ls : ix_L) (st : List ix_V) (μ : ix_M) : ix_Ev (tL_0 L xs) Q (1358, ls, st, μ) = (ix_aload 0 1359) (ix_Ev (tL_0 L xs) Q) Q ls st μ := ix_Ev.eqM H ((stL_34 L xs 1358 (by decide)).trans (ix_lk_app1 rfl)) ls st μ
theorem e_L_1359 {L : Nat} {xs : Nat → Int32} (H : ix_Mo (tL_0 L xs)) (Q : ix_R → Prop) (ls : ix_L) (st : List ix_V) (μ : ix_M) : ix_Ev (tL_0 L xs) Q (1359, ls, st, μ) = (ix_iload 3 1360) (ix_Ev (tL_0 L xs) Q) Q ls st μ := ix_Ev.eqM H ((stL_34 L xs 1359 (by decide)).trans (ix_lk_app1 rfl)) ls st μ
theorem e_L_1360 {L : Nat} {xs : Nat → Int32} (H : ix_Mo (tL_0 L xs)) (Q : ix_R → Prop) (ls : ix_L) (st : List ix_V) (μ : ix_M) : ix_Ev (tL_0 L xs) Q (1360, ls, st, μ) = (ix_push (vi 2) 1361) (ix_Ev (tL_0 L xs) Q) Q ls st μ := ix_Ev.eqM H ((stL_34 L xs 1360 (by decide)).trans (ix_lk_app1 rfl)) ls st μ
theorem e_L_1361 {L : Nat} {xs : Nat → Int32} (H : ix_Mo (tL_0 L xs)) (Q : ix_R → Prop) (ls : ix_L) (st : List ix_V) (μ : ix_M) : ix_Ev (tL_0 L xs) Q (1361, ls, st, μ) = (ix_bin (fun x y => x + y) 1362) (ix_Ev (tL_0 L xs) Q) Q ls st μ := ix_Ev.eqM H ((stL_34 L xs 1361 (by decide)).trans (ix_lk_app1 rfl)) ls st μ
theorem e_L_1362 {L : Nat} {xs : Nat → Int32} (H : ix_Mo (tL_0 L xs)) (Q : ix_R → Prop) (ls : ix_L) (st : List ix_V) (μ : ix_M) : ix_Ev (tL_0 L xs) Q (1362, ls, st, μ) = (ix_xld L xs 1363) (ix_Ev (tL_0 L xs) Q) Q ls st μ := ix_Ev.eqM H ((stL_34 L xs 1362 (by decide)).trans (ix_lk_app1 rfl)) ls st μ
theorem e_L_1363 {L : Nat} {xs : Nat → Int32} (H : ix_Mo (tL_0 L xs)) (Q : ix_R → Prop) (ls : ix_L) (st : List ix_V) (μ : ix_M) : ix_Ev (tL_0 L xs) Q (1363, ls, st, μ) = (ix_aload 0 1364) (ix_Ev (tL_0 L xs) Q) Q ls st μ := ix_Ev.eqM H ((stL_34 L xs 1363 (by decide)).trans (ix_lk_app1 rfl)) ls st μ
theorem e_L_1364 {L : Nat} {xs : Nat → Int32} (H : ix_Mo (tL_0 L xs)) (Q : ix_R → Prop) (ls : ix_L) (st : List ix_V) (μ : ix_M) : ix_Ev (tL_0 L xs) Q (1364, ls, st, μ) = (ix_iload 3 1365) (ix_Ev (tL_0 L xs) Q) Q ls st μ := ix_Ev.eqM H ((stL_34 L xs 1364 (by decide)).trans (ix_lk_app1 rfl)) ls st μ
theorem e_L_1365 {L : Nat} {xs : Nat → Int32} (H : ix_Mo (tL_0 L xs)) (Q : ix_R → Prop) (ls : ix_L) (st : List ix_V) (μ : ix_M) : ix_Ev (tL_0 L xs) Q (1365, ls, st, μ) = (ix_push (vi 3) 1366) (ix_Ev (tL_0 L xs) Q) Q ls st μ := ix_Ev.eqM H ((stL_34 L xs 1365 (by decide)).trans (ix_lk_app1 rfl)) ls st μ
theorem e_L_1366 {L : Nat} {xs : Nat → Int32} (H : ix_Mo (tL_0 L xs)) (Q : ix_R → Prop) (ls : ix_L) (st : List ix_V) (μ : ix_M) : ix_Ev (tL_0 L xs) Q (1366, ls, st, μ) = (ix_bin (fun x y => x + y) 1367) (ix_Ev (tL_0 L xs) Q) Q ls st μ := ix_Ev.eqM H ((stL_34 L xs 1366 (by decide)).trans (ix_lk_app1 rfl)) ls st μ
theorem e_L_1367 {L : Nat} {xs : Nat → Int32} (H : ix_Mo (tL_0 L xs)) (Q : ix_R → Prop) (ls : ix_L) (st : List ix_V) (μ : ix_M) : ix_Ev (tL_0 L xs) Q (1367, ls, st, μ) = (ix_xld L xs 1368) (ix_Ev (tL_0 L xs) Q) Q ls st μ := ix_Ev.eqM H ((stL_34 L xs 1367 (by decide)).trans (ix_lk_app1 rfl)) ls st μ
theorem e_L_1368 {L : Nat} {xs : Nat → Int32} (H : ix_Mo (tL_0 L xs)) (Q : ix_R → Prop) (ls : ix_L) (st : List ix_V) (μ : ix_M) : ix_Ev (tL_0 L xs) Q (1368, ls, st, μ) = (oc_X11_sheet 1371) (ix_Ev (tL_0 L xs) Q) Q ls st μ := ix_Ev.eqM H ((stL_34 L xs 1368 (by decide)).trans (ix_lk_app1 rfl)) ls st μ
theorem e_L_1371 {L : Nat} {xs : Nat → Int32} (H : ix_Mo (tL_0 L xs)) (Q : ix_R → Prop) (ls : ix_L) (st : List ix_V) (μ : ix_M) : ix_Ev (tL_0 L xs) Q (1371, ls, st, μ) = (ix_cmp (fun x y => x = y) 1636 1374) (ix_Ev (tL_0 L xs) Q) Q ls st μ := ix_Ev.eqM H ((stL_34 L xs 1371 (by decide)).trans (ix_lk_app1 rfl)) ls st μ
theorem e_L_1374 {L : Nat} {xs : Nat → Int32} (H : ix_Mo (tL_0 L xs)) (Q : ix_R → Prop) (ls : ix_L) (st : List ix_V) (μ : ix_M) : ix_Ev (tL_0 L xs) Q (1374, ls, st, μ) = (ix_push (vi 0) 1375) (ix_Ev (tL_0 L xs) Q) Q ls st μ := ix_Ev.eqM H ((stL_34 L xs 1374 (by decide)).trans (ix_lk_app1 rfl)) ls st μ
theorem e_L_1375 {L : Nat} {xs : Nat → Int32} (H : ix_Mo (tL_0 L xs)) (Q : ix_R → Prop) (ls : ix_L) (st : List ix_V) (μ : ix_M) : ix_Ev (tL_0 L xs) Q (1375, ls, st, μ) = ix_zret (ix_Ev (tL_0 L xs) Q) Q ls st μ := ix_Ev.eqM H ((stL_34 L xs 1375 (by decide)).trans (ix_lk_app1 rfl)) ls st μ
theorem e_L_1376 {L : Nat} {xs : Nat → Int32} (H : ix_Mo (tL_0 L xs)) (Q : ix_R → Prop) (ls : ix_L) (st : List ix_V) (μ : ix_M) : ix_Ev (tL_0 L xs) Q (1376, ls, st, μ) = (ix_aload 1 1377) (ix_Ev (tL_0 L xs) Q) Q ls st μ := ix_Ev.eqM H ((stL_35 L xs 1376 (by decide)).trans (ix_lk_app1 rfl)) ls st μ
theorem e_L_1377 {L : Nat} {xs : Nat → Int32} (H : ix_Mo (tL_0 L xs)) (Q : ix_R → Prop) (ls : ix_L) (st : List ix_V) (μ : ix_M) : ix_Ev (tL_0 L xs) Q (1377, ls, st, μ) = (ix_aload 0 1378) (ix_Ev (tL_0 L xs) Q) Q ls st μ := ix_Ev.eqM H ((stL_35 L xs 1377 (by decide)).trans (ix_lk_app1 rfl)) ls st μ
theorem e_L_1378 {L : Nat} {xs : Nat → Int32} (H : ix_Mo (tL_0 L xs)) (Q : ix_R → Prop) (ls : ix_L) (st : List ix_V) (μ : ix_M) : ix_Ev (tL_0 L xs) Q (1378, ls, st, μ) = (ix_iload 3 1379) (ix_Ev (tL_0 L xs) Q) Q ls st μ := ix_Ev.eqM H ((stL_35 L xs 1378 (by decide)).trans (ix_lk_app1 rfl)) ls st μ
theorem e_L_1379 {L : Nat} {xs : Nat → Int32} (H : ix_Mo (tL_0 L xs)) (Q : ix_R → Prop) (ls : ix_L) (st : List ix_V) (μ : ix_M) : ix_Ev (tL_0 L xs) Q (1379, ls, st, μ) = (ix_push (vi 1) 1380) (ix_Ev (tL_0 L xs) Q) Q ls st μ := ix_Ev.eqM H ((stL_35 L xs 1379 (by decide)).trans (ix_lk_app1 rfl)) ls st μ
theorem e_L_1380 {L : Nat} {xs : Nat → Int32} (H : ix_Mo (tL_0 L xs)) (Q : ix_R → Prop) (ls : ix_L) (st : List ix_V) (μ : ix_M) : ix_Ev (tL_0 L xs) Q (1380, ls, st, μ) = (ix_bin (fun x y => x + y) 1381) (ix_Ev (tL_0 L xs) Q) Q ls st μ := ix_Ev.eqM H ((stL_35 L xs 1380 (by decide)).trans (ix_lk_app1 rfl)) ls st μ
theorem e_L_1381 {L : Nat} {xs : Nat → Int32} (H : ix_Mo (tL_0 L xs)) (Q : ix_R → Prop) (ls : ix_L) (st : List ix_V) (μ : ix_M) : ix_Ev (tL_0 L xs) Q (1381, ls, st, μ) = (ix_xld L xs 1382) (ix_Ev (tL_0 L xs) Q) Q ls st μ := ix_Ev.eqM H ((stL_35 L xs 1381 (by decide)).trans (ix_lk_app1 rfl)) ls st μ
theorem e_L_1382 {L : Nat} {xs : Nat → Int32} (H : ix_Mo (tL_0 L xs)) (Q : ix_R → Prop) (ls : ix_L) (st : List ix_V) (μ : ix_M) : ix_Ev (tL_0 L xs) Q (1382, ls, st, μ) = (ix_aload 0 1383) (ix_Ev (tL_0 L xs) Q) Q ls st μ := ix_Ev.eqM H ((stL_35 L xs 1382 (by decide)).trans (ix_lk_app1 rfl)) ls st μ
theorem e_L_1383 {L : Nat} {xs : Nat → Int32} (H : ix_Mo (tL_0 L xs)) (Q : ix_R → Prop) (ls : ix_L) (st : List ix_V) (μ : ix_M) : ix_Ev (tL_0 L xs) Q (1383, ls, st, μ) = (ix_iload 3 1384) (ix_Ev (tL_0 L xs) Q) Q ls st μ := ix_Ev.eqM H ((stL_35 L xs 1383 (by decide)).trans (ix_lk_app1 rfl)) ls st μ
theorem e_L_1384 {L : Nat} {xs : Nat → Int32} (H : ix_Mo (tL_0 L xs)) (Q : ix_R → Prop) (ls : ix_L) (st : List ix_V) (μ : ix_M) : ix_Ev (tL_0 L xs) Q (1384, ls, st, μ) = (ix_push (vi 2) 1385) (ix_Ev (tL_0 L xs) Q) Q ls st μ := ix_Ev.eqM H ((stL_35 L xs 1384 (by decide)).trans (ix_lk_app1 rfl)) ls st μ
theorem e_L_1385 {L : Nat} {xs : Nat → Int32} (H : ix_Mo (tL_0 L xs)) (Q : ix_R → Prop) (ls : ix_L) (st : List ix_V) (μ : ix_M) : ix_Ev (tL_0 L xs) Q (1385, ls, st, μ) = (ix_bin (fun x y => x + y) 1386) (ix_Ev (tL_0 L xs) Q) Q ls st μ := ix_Ev.eqM H ((stL_35 L xs 1385 (by decide)).trans (ix_lk_app1 rfl)) ls st μ
theorem e_L_1386 {L : Nat} {xs : Nat → Int32} (H : ix_Mo (tL_0 L xs)) (Q : ix_R → Prop) (ls : ix_L) (st : List ix_V) (μ : ix_M) : ix_Ev (tL_0 L xs) Q (1386, ls, st, μ) = (ix_xld L xs 1387) (ix_Ev (tL_0 L xs) Q) Q ls st μ := ix_Ev.eqM H ((stL_35 L xs 1386 (by decide)).trans (ix_lk_app1 rfl)) ls st μ
theorem e_L_1387 {L : Nat} {xs : Nat → Int32} (H : ix_Mo (tL_0 L xs)) (Q : ix_R → Prop) (ls : ix_L) (st : List ix_V) (μ : ix_M) : ix_Ev (tL_0 L xs) Q (1387, ls, st, μ) = (ix_aload 0 1388) (ix_Ev (tL_0 L xs) Q) Q ls st μ := ix_Ev.eqM H ((stL_35 L xs 1387 (by decide)).trans (ix_lk_app1 rfl)) ls st μ
theorem e_L_1388 {L : Nat} {xs : Nat → Int32} (H : ix_Mo (tL_0 L xs)) (Q : ix_R → Prop) (ls : ix_L) (st : List ix_V) (μ : ix_M) : ix_Ev (tL_0 L xs) Q (1388, ls, st, μ) = (ix_iload 3 1389) (ix_Ev (tL_0 L xs) Q) Q ls st μ := ix_Ev.eqM H ((stL_35 L xs 1388 (by decide)).trans (ix_lk_app1 rfl)) ls st μ
theorem e_L_1389 {L : Nat} {xs : Nat → Int32} (H : ix_Mo (tL_0 L xs)) (Q : ix_R → Prop) (ls : ix_L) (st : List ix_V) (μ : ix_M) : ix_Ev (tL_0 L xs) Q (1389, ls, st, μ) = (ix_push (vi 3) 1390) (ix_Ev (tL_0 L xs) Q) Q ls st μ := ix_Ev.eqM H ((stL_35 L xs 1389 (by decide)).trans (ix_lk_app1 rfl)) ls st μ
theorem e_L_1390 {L : Nat} {xs : Nat → Int32} (H : ix_Mo (tL_0 L xs)) (Q : ix_R → Prop) (ls : ix_L) (st : List ix_V) (μ : ix_M) : ix_Ev (tL_0 L xs) Q (1390, ls, st, μ) = (ix_bin (fun x y => x + y) 1391) (ix_Ev (tL_0 L xs) Q) Q ls st μ := ix_Ev.eqM H ((stL_35 L xs 1390 (by decide)).trans (ix_lk_app1 rfl)) ls st μ
theorem e_L_1391 {L : Nat} {xs : Nat → Int32} (H : ix_Mo (tL_0 L xs)) (Q : ix_R → Prop) (ls : ix_L) (st : List ix_V) (μ : ix_M) : ix_Ev (tL_0 L xs) Q (1391, ls, st, μ) = (ix_xld L xs 1392) (ix_Ev (tL_0 L xs) Q) Q ls st μ := ix_Ev.eqM H ((stL_35 L xs 1391 (by decide)).trans (ix_lk_app1 rfl)) ls st μ
theorem e_L_1392 {L : Nat} {xs : Nat → Int32} (H : ix_Mo (tL_0 L xs)) (Q : ix_R → Prop) (ls : ix_L) (st : List ix_V) (μ : ix_M) : ix_Ev (tL_0 L xs) Q (1392, ls, st, μ) = (oc_X10_put 1395) (ix_Ev (tL_0 L xs) Q) Q ls st μ := ix_Ev.eqM H ((stL_35 L xs 1392 (by decide)).trans (ix_lk_app1 rfl)) ls st μ
theorem e_L_1395 {L : Nat} {xs : Nat → Int32} (H : ix_Mo (tL_0 L xs)) (Q : ix_R → Prop) (ls : ix_L) (st : List ix_V) (μ : ix_M) : ix_Ev (tL_0 L xs) Q (1395, ls, st, μ) = (ix_aload 2 1396) (ix_Ev (tL_0 L xs) Q) Q ls st μ := ix_Ev.eqM H ((stL_35 L xs 1395 (by decide)).trans (ix_lk_app1 rfl)) ls st μ
theorem e_L_1396 {L : Nat} {xs : Nat → Int32} (H : ix_Mo (tL_0 L xs)) (Q : ix_R → Prop) (ls : ix_L) (st : List ix_V) (μ : ix_M) : ix_Ev (tL_0 L xs) Q (1396, ls, st, μ) = (ix_aload 0 1397) (ix_Ev (tL_0 L xs) Q) Q ls st μ := ix_Ev.eqM H ((stL_35 L xs 1396 (by decide)).trans (ix_lk_app1 rfl)) ls st μ
theorem e_L_1397 {L : Nat} {xs : Nat → Int32} (H : ix_Mo (tL_0 L xs)) (Q : ix_R → Prop) (ls : ix_L) (st : List ix_V) (μ : ix_M) : ix_Ev (tL_0 L xs) Q (1397, ls, st, μ) = (ix_iload 3 1398) (ix_Ev (tL_0 L xs) Q) Q ls st μ := ix_Ev.eqM H ((stL_35 L xs 1397 (by decide)).trans (ix_lk_app1 rfl)) ls st μ
theorem e_L_1398 {L : Nat} {xs : Nat → Int32} (H : ix_Mo (tL_0 L xs)) (Q : ix_R → Prop) (ls : ix_L) (st : List ix_V) (μ : ix_M) : ix_Ev (tL_0 L xs) Q (1398, ls, st, μ) = (ix_push (vi 1) 1399) (ix_Ev (tL_0 L xs) Q) Q ls st μ := ix_Ev.eqM H ((stL_35 L xs 1398 (by decide)).trans (ix_lk_app1 rfl)) ls st μ
theorem e_L_1399 {L : Nat} {xs : Nat → Int32} (H : ix_Mo (tL_0 L xs)) (Q : ix_R → Prop) (ls : ix_L) (st : List ix_V) (μ : ix_M) : ix_Ev (tL_0 L xs) Q (1399, ls, st, μ) = (ix_bin (fun x y => x + y) 1400) (ix_Ev (tL_0 L xs) Q) Q ls st μ := ix_Ev.eqM H ((stL_35 L xs 1399 (by decide)).trans (ix_lk_app1 rfl)) ls st μ
theorem e_L_1400 {L : Nat} {xs : Nat → Int32} (H : ix_Mo (tL_0 L xs)) (Q : ix_R → Prop) (ls : ix_L) (st : List ix_V) (μ : ix_M) : ix_Ev (tL_0 L xs) Q (1400, ls, st, μ) = (ix_xld L xs 1401) (ix_Ev (tL_0 L xs) Q) Q ls st μ := ix_Ev.eqM H ((stL_35 L xs 1400 (by decide)).trans (ix_lk_app1 rfl)) ls st μ
theorem e_L_1401 {L : Nat} {xs : Nat → Int32} (H : ix_Mo (tL_0 L xs)) (Q : ix_R → Prop) (ls : ix_L) (st : List ix_V) (μ : ix_M) : ix_Ev (tL_0 L xs) Q (1401, ls, st, μ) = (ix_aload 0 1402) (ix_Ev (tL_0 L xs) Q) Q ls st μ := ix_Ev.eqM H ((stL_35 L xs 1401 (by decide)).trans (ix_lk_app1 rfl)) ls st μ
theorem e_L_1402 {L : Nat} {xs : Nat → Int32} (H : ix_Mo (tL_0 L xs)) (Q : ix_R → Prop) (ls : ix_L) (st : List ix_V) (μ : ix_M) : ix_Ev (tL_0 L xs) Q (1402, ls, st, μ) = (ix_iload 3 1403) (ix_Ev (tL_0 L xs) Q) Q ls st μ := ix_Ev.eqM H ((stL_35 L xs 1402 (by decide)).trans (ix_lk_app1 rfl)) ls st μ
theorem e_L_1403 {L : Nat} {xs : Nat → Int32} (H : ix_Mo (tL_0 L xs)) (Q : ix_R → Prop) (ls : ix_L) (st : List ix_V) (μ : ix_M) : ix_Ev (tL_0 L xs) Q (1403, ls, st, μ) = (ix_push (vi 2) 1404) (ix_Ev (tL_0 L xs) Q) Q ls st μ := ix_Ev.eqM H ((stL_35 L xs 1403 (by decide)).trans (ix_lk_app1 rfl)) ls st μ
theorem e_L_1404 {L : Nat} {xs : Nat → Int32} (H : ix_Mo (tL_0 L xs)) (Q : ix_R → Prop) (ls : ix_L) (st : List ix_V) (μ : ix_M) : ix_Ev (tL_0 L xs) Q (1404, ls, st, μ) = (ix_bin (fun x y => x + y) 1405) (ix_Ev (tL_0 L xs) Q) Q ls st μ := ix_Ev.eqM H ((stL_35 L xs 1404 (by decide)).trans (ix_lk_app1 rfl)) ls st μ
theorem e_L_1405 {L : Nat} {xs : Nat → Int32} (H : ix_Mo (tL_0 L xs)) (Q : ix_R → Prop) (ls : ix_L) (st : List ix_V) (μ : ix_M) : ix_Ev (tL_0 L xs) Q (1405, ls, st, μ) = (ix_xld L xs 1406) (ix_Ev (tL_0 L xs) Q) Q ls st μ := ix_Ev.eqM H ((stL_35 L xs 1405 (by decide)).trans (ix_lk_app1 rfl)) ls st μ
theorem e_L_1406 {L : Nat} {xs : Nat → Int32} (H : ix_Mo (tL_0 L xs)) (Q : ix_R → Prop) (ls : ix_L) (st : List ix_V) (μ : ix_M) : ix_Ev (tL_0 L xs) Q (1406, ls, st, μ) = (ix_aload 0 1407) (ix_Ev (tL_0 L xs) Q) Q ls st μ := ix_Ev.eqM H ((stL_35 L xs 1406 (by decide)).trans (ix_lk_app1 rfl)) ls st μ
theorem e_L_1407 {L : Nat} {xs : Nat → Int32} (H : ix_Mo (tL_0 L xs)) (Q : ix_R → Prop) (ls : ix_L) (st : List ix_V) (μ : ix_M) : ix_Ev (tL_0 L xs) Q (1407, ls, st, μ) = (ix_iload 3 1408) (ix_Ev (tL_0 L xs) Q) Q ls st μ := ix_Ev.eqM H ((stL_35 L xs 1407 (by decide)).trans (ix_lk_app1 rfl)) ls st μ
theorem e_L_1408 {L : Nat} {xs : Nat → Int32} (H : ix_Mo (tL_0 L xs)) (Q : ix_R → Prop) (ls : ix_L) (st : List ix_V) (μ : ix_M) : ix_Ev (tL_0 L xs) Q (1408, ls, st, μ) = (ix_push (vi 3) 1409) (ix_Ev (tL_0 L xs) Q) Q ls st μ := ix_Ev.eqM H ((stL_35 L xs 1408 (by decide)).trans (ix_lk_app1 rfl)) ls st μ
theorem e_L_1409 {L : Nat} {xs : Nat → Int32} (H : ix_Mo (tL_0 L xs)) (Q : ix_R → Prop) (ls : ix_L) (st : List ix_V) (μ : ix_M) : ix_Ev (tL_0 L xs) Q (1409, ls, st, μ) = (ix_bin (fun x y => x + y) 1410) (ix_Ev (tL_0 L xs) Q) Q ls st μ := ix_Ev.eqM H ((stL_35 L xs 1409 (by decide)).trans (ix_lk_app1 rfl)) ls st μ
theorem e_L_1410 {L : Nat} {xs : Nat → Int32} (H : ix_Mo (tL_0 L xs)) (Q : ix_R → Prop) (ls : ix_L) (st : List ix_V) (μ : ix_M) : ix_Ev (tL_0 L xs) Q (1410, ls, st, μ) = (ix_xld L xs 1411) (ix_Ev (tL_0 L xs) Q) Q ls st μ := ix_Ev.eqM H ((stL_35 L xs 1410 (by decide)).trans (ix_lk_app1 rfl)) ls st μ
theorem e_L_1411 {L : Nat} {xs : Nat → Int32} (H : ix_Mo (tL_0 L xs)) (Q : ix_R → Prop) (ls : ix_L) (st : List ix_V) (μ : ix_M) : ix_Ev (tL_0 L xs) Q (1411, ls, st, μ) = (oc_X11_put 1414) (ix_Ev (tL_0 L xs) Q) Q ls st μ := ix_Ev.eqM H ((stL_35 L xs 1411 (by decide)).trans (ix_lk_app1 rfl)) ls st μ
theorem e_L_1414 {L : Nat} {xs : Nat → Int32} (H : ix_Mo (tL_0 L xs)) (Q : ix_R → Prop) (ls : ix_L) (st : List ix_V) (μ : ix_M) : ix_Ev (tL_0 L xs) Q (1414, ls, st, μ) = (ix_cmp (fun x y => x = y) 1636 1417) (ix_Ev (tL_0 L xs) Q) Q ls st μ := ix_Ev.eqM H ((stL_35 L xs 1414 (by decide)).trans (ix_lk_app1 rfl)) ls st μ
theorem e_L_1417 {L : Nat} {xs : Nat → Int32} (H : ix_Mo (tL_0 L xs)) (Q : ix_R → Prop) (ls : ix_L) (st : List ix_V) (μ : ix_M) : ix_Ev (tL_0 L xs) Q (1417, ls, st, μ) = (ix_push (vi 0) 1418) (ix_Ev (tL_0 L xs) Q) Q ls st μ := ix_Ev.eqM H ((stL_35 L xs 1417 (by decide)).trans (ix_lk_app1 rfl)) ls st μ
theorem e_L_1418 {L : Nat} {xs : Nat → Int32} (H : ix_Mo (tL_0 L xs)) (Q : ix_R → Prop) (ls : ix_L) (st : List ix_V) (μ : ix_M) : ix_Ev (tL_0 L xs) Q (1418, ls, st, μ) = ix_zret (ix_Ev (tL_0 L xs) Q) Q ls st μ := ix_Ev.eqM H ((stL_35 L xs 1418 (by decide)).trans (ix_lk_app1 rfl)) ls st μ
theorem e_L_1419 {L : Nat} {xs : Nat → Int32} (H : ix_Mo (tL_0 L xs)) (Q : ix_R → Prop) (ls : ix_L) (st : List ix_V) (μ : ix_M) : ix_Ev (tL_0 L xs) Q (1419, ls, st, μ) = (ix_aload 1 1420) (ix_Ev (tL_0 L xs) Q) Q ls st μ := ix_Ev.eqM H ((stL_36 L xs 1419 (by decide)).trans (ix_lk_app1 rfl)) ls st μ
theorem e_L_1420 {L : Nat} {xs : Nat → Int32} (H : ix_Mo (tL_0 L xs)) (Q : ix_R → Prop) (ls : ix_L) (st : List ix_V) (μ : ix_M) : ix_Ev (tL_0 L xs) Q (1420, ls, st, μ) = (ix_aload 0 1421) (ix_Ev (tL_0 L xs) Q) Q ls st μ := ix_Ev.eqM H ((stL_36 L xs 1420 (by decide)).trans (ix_lk_app1 rfl)) ls st μ
theorem e_L_1421 {L : Nat} {xs : Nat → Int32} (H : ix_Mo (tL_0 L xs)) (Q : ix_R → Prop) (ls : ix_L) (st : List ix_V) (μ : ix_M) : ix_Ev (tL_0 L xs) Q (1421, ls, st, μ) = (ix_iload 3 1422) (ix_Ev (tL_0 L xs) Q) Q ls st μ := ix_Ev.eqM H ((stL_36 L xs 1421 (by decide)).trans (ix_lk_app1 rfl)) ls st μ
theorem e_L_1422 {L : Nat} {xs : Nat → Int32} (H : ix_Mo (tL_0 L xs)) (Q : ix_R → Prop) (ls : ix_L) (st : List ix_V) (μ : ix_M) : ix_Ev (tL_0 L xs) Q (1422, ls, st, μ) = (ix_push (vi 1) 1423) (ix_Ev (tL_0 L xs) Q) Q ls st μ := ix_Ev.eqM H ((stL_36 L xs 1422 (by decide)).trans (ix_lk_app1 rfl)) ls st μ
theorem e_L_1423 {L : Nat} {xs : Nat → Int32} (H : ix_Mo (tL_0 L xs)) (Q : ix_R → Prop) (ls : ix_L) (st : List ix_V) (μ : ix_M) : ix_Ev (tL_0 L xs) Q (1423, ls, st, μ) = (ix_bin (fun x y => x + y) 1424) (ix_Ev (tL_0 L xs) Q) Q ls st μ := ix_Ev.eqM H ((stL_36 L xs 1423 (by decide)).trans (ix_lk_app1 rfl)) ls st μ
theorem e_L_1424 {L : Nat} {xs : Nat → Int32} (H : ix_Mo (tL_0 L xs)) (Q : ix_R → Prop) (ls : ix_L) (st : List ix_V) (μ : ix_M) : ix_Ev (tL_0 L xs) Q (1424, ls, st, μ) = (ix_xld L xs 1425) (ix_Ev (tL_0 L xs) Q) Q ls st μ := ix_Ev.eqM H ((stL_36 L xs 1424 (by decide)).trans (ix_lk_app1 rfl)) ls st μ
theorem e_L_1425 {L : Nat} {xs : Nat → Int32} (H : ix_Mo (tL_0 L xs)) (Q : ix_R → Prop) (ls : ix_L) (st : List ix_V) (μ : ix_M) : ix_Ev (tL_0 L xs) Q (1425, ls, st, μ) = (ix_aload 0 1426) (ix_Ev (tL_0 L xs) Q) Q ls st μ := ix_Ev.eqM H ((stL_36 L xs 1425 (by decide)).trans (ix_lk_app1 rfl)) ls st μ
theorem e_L_1426 {L : Nat} {xs : Nat → Int32} (H : ix_Mo (tL_0 L xs)) (Q : ix_R → Prop) (ls : ix_L) (st : List ix_V) (μ : ix_M) : ix_Ev (tL_0 L xs) Q (1426, ls, st, μ) = (ix_iload 3 1427) (ix_Ev (tL_0 L xs) Q) Q ls st μ := ix_Ev.eqM H ((stL_36 L xs 1426 (by decide)).trans (ix_lk_app1 rfl)) ls st μ
theorem e_L_1427 {L : Nat} {xs : Nat → Int32} (H : ix_Mo (tL_0 L xs)) (Q : ix_R → Prop) (ls : ix_L) (st : List ix_V) (μ : ix_M) : ix_Ev (tL_0 L xs) Q (1427, ls, st, μ) = (ix_push (vi 2) 1428) (ix_Ev (tL_0 L xs) Q) Q ls st μ := ix_Ev.eqM H ((stL_36 L xs 1427 (by decide)).trans (ix_lk_app1 rfl)) ls st μ
theorem e_L_1428 {L : Nat} {xs : Nat → Int32} (H : ix_Mo (tL_0 L xs)) (Q : ix_R → Prop) (ls : ix_L) (st : List ix_V) (μ : ix_M) : ix_Ev (tL_0 L xs) Q (1428, ls, st, μ) = (ix_bin (fun x y => x + y) 1429) (ix_Ev (tL_0 L xs) Q) Q ls st μ := ix_Ev.eqM H ((stL_36 L xs 1428 (by decide)).trans (ix_lk_app1 rfl)) ls st μ
theorem e_L_1429 {L : Nat} {xs : Nat → Int32} (H : ix_Mo (tL_0 L xs)) (Q : ix_R → Prop) (ls : ix_L) (st : List ix_V) (μ : ix_M) : ix_Ev (tL_0 L xs) Q (1429, ls, st, μ) = (ix_xld L xs 1430) (ix_Ev (tL_0 L xs) Q) Q ls st μ := ix_Ev.eqM H ((stL_36 L xs 1429 (by decide)).trans (ix_lk_app1 rfl)) ls st μ
theorem e_L_1430 {L : Nat} {xs : Nat → Int32} (H : ix_Mo (tL_0 L xs)) (Q : ix_R → Prop) (ls : ix_L) (st : List ix_V) (μ : ix_M) : ix_Ev (tL_0 L xs) Q (1430, ls, st, μ) = (ix_aload 0 1431) (ix_Ev (tL_0 L xs) Q) Q ls st μ := ix_Ev.eqM H ((stL_36 L xs 1430 (by decide)).trans (ix_lk_app1 rfl)) ls st μ
theorem e_L_1431 {L : Nat} {xs : Nat → Int32} (H : ix_Mo (tL_0 L xs)) (Q : ix_R → Prop) (ls : ix_L) (st : List ix_V) (μ : ix_M) : ix_Ev (tL_0 L xs) Q (1431, ls, st, μ) = (ix_iload 3 1432) (ix_Ev (tL_0 L xs) Q) Q ls st μ := ix_Ev.eqM H ((stL_36 L xs 1431 (by decide)).trans (ix_lk_app1 rfl)) ls st μ
theorem e_L_1432 {L : Nat} {xs : Nat → Int32} (H : ix_Mo (tL_0 L xs)) (Q : ix_R → Prop) (ls : ix_L) (st : List ix_V) (μ : ix_M) : ix_Ev (tL_0 L xs) Q (1432, ls, st, μ) = (ix_push (vi 3) 1433) (ix_Ev (tL_0 L xs) Q) Q ls st μ := ix_Ev.eqM H ((stL_36 L xs 1432 (by decide)).trans (ix_lk_app1 rfl)) ls st μ
theorem e_L_1433 {L : Nat} {xs : Nat → Int32} (H : ix_Mo (tL_0 L xs)) (Q : ix_R → Prop) (ls : ix_L) (st : List ix_V) (μ : ix_M) : ix_Ev (tL_0 L xs) Q (1433, ls, st, μ) = (ix_bin (fun x y => x + y) 1434) (ix_Ev (tL_0 L xs) Q) Q ls st μ := ix_Ev.eqM H ((stL_36 L xs 1433 (by decide)).trans (ix_lk_app1 rfl)) ls st μ
theorem e_L_1434 {L : Nat} {xs : Nat → Int32} (H : ix_Mo (tL_0 L xs)) (Q : ix_R → Prop) (ls : ix_L) (st : List ix_V) (μ : ix_M) : ix_Ev (tL_0 L xs) Q (1434, ls, st, μ) = (ix_xld L xs 1435) (ix_Ev (tL_0 L xs) Q) Q ls st μ := ix_Ev.eqM H ((stL_36 L xs 1434 (by decide)).trans (ix_lk_app1 rfl)) ls st μ
theorem e_L_1435 {L : Nat} {xs : Nat → Int32} (H : ix_Mo (tL_0 L xs)) (Q : ix_R → Prop) (ls : ix_L) (st : List ix_V) (μ : ix_M) : ix_Ev (tL_0 L xs) Q (1435, ls, st, μ) = (ix_aload 0 1436) (ix_Ev (tL_0 L xs) Q) Q ls st μ := ix_Ev.eqM H ((stL_36 L xs 1435 (by decide)).trans (ix_lk_app1 rfl)) ls st μ
theorem e_L_1436 {L : Nat} {xs : Nat → Int32} (H : ix_Mo (tL_0 L xs)) (Q : ix_R → Prop) (ls : ix_L) (st : List ix_V) (μ : ix_M) : ix_Ev (tL_0 L xs) Q (1436, ls, st, μ) = (ix_iload 3 1437) (ix_Ev (tL_0 L xs) Q) Q ls st μ := ix_Ev.eqM H ((stL_36 L xs 1436 (by decide)).trans (ix_lk_app1 rfl)) ls st μ
theorem e_L_1437 {L : Nat} {xs : Nat → Int32} (H : ix_Mo (tL_0 L xs)) (Q : ix_R → Prop) (ls : ix_L) (st : List ix_V) (μ : ix_M) : ix_Ev (tL_0 L xs) Q (1437, ls, st, μ) = (ix_push (vi 4) 1438) (ix_Ev (tL_0 L xs) Q) Q ls st μ := ix_Ev.eqM H ((stL_36 L xs 1437 (by decide)).trans (ix_lk_app1 rfl)) ls st μ
theorem e_L_1438 {L : Nat} {xs : Nat → Int32} (H : ix_Mo (tL_0 L xs)) (Q : ix_R → Prop) (ls : ix_L) (st : List ix_V) (μ : ix_M) : ix_Ev (tL_0 L xs) Q (1438, ls, st, μ) = (ix_bin (fun x y => x + y) 1439) (ix_Ev (tL_0 L xs) Q) Q ls st μ := ix_Ev.eqM H ((stL_36 L xs 1438 (by decide)).trans (ix_lk_app1 rfl)) ls st μ
theorem e_L_1439 {L : Nat} {xs : Nat → Int32} (H : ix_Mo (tL_0 L xs)) (Q : ix_R → Prop) (ls : ix_L) (st : List ix_V) (μ : ix_M) : ix_Ev (tL_0 L xs) Q (1439, ls, st, μ) = (ix_xld L xs 1440) (ix_Ev (tL_0 L xs) Q) Q ls st μ := ix_Ev.eqM H ((stL_36 L xs 1439 (by decide)).trans (ix_lk_app1 rfl)) ls st μ
theorem e_L_1440 {L : Nat} {xs : Nat → Int32} (H : ix_Mo (tL_0 L xs)) (Q : ix_R → Prop) (ls : ix_L) (st : List ix_V) (μ : ix_M) : ix_Ev (tL_0 L xs) Q (1440, ls, st, μ) = (ix_aload 0 1441) (ix_Ev (tL_0 L xs) Q) Q ls st μ := ix_Ev.eqM H ((stL_36 L xs 1440 (by decide)).trans (ix_lk_app1 rfl)) ls st μ
theorem e_L_1441 {L : Nat} {xs : Nat → Int32} (H : ix_Mo (tL_0 L xs)) (Q : ix_R → Prop) (ls : ix_L) (st : List ix_V) (μ : ix_M) : ix_Ev (tL_0 L xs) Q (1441, ls, st, μ) = (ix_iload 3 1442) (ix_Ev (tL_0 L xs) Q) Q ls st μ := ix_Ev.eqM H ((stL_36 L xs 1441 (by decide)).trans (ix_lk_app1 rfl)) ls st μ
theorem e_L_1442 {L : Nat} {xs : Nat → Int32} (H : ix_Mo (tL_0 L xs)) (Q : ix_R → Prop) (ls : ix_L) (st : List ix_V) (μ : ix_M) : ix_Ev (tL_0 L xs) Q (1442, ls, st, μ) = (ix_push (vi 5) 1443) (ix_Ev (tL_0 L xs) Q) Q ls st μ := ix_Ev.eqM H ((stL_36 L xs 1442 (by decide)).trans (ix_lk_app1 rfl)) ls st μ
theorem e_L_1443 {L : Nat} {xs : Nat → Int32} (H : ix_Mo (tL_0 L xs)) (Q : ix_R → Prop) (ls : ix_L) (st : List ix_V) (μ : ix_M) : ix_Ev (tL_0 L xs) Q (1443, ls, st, μ) = (ix_bin (fun x y => x + y) 1444) (ix_Ev (tL_0 L xs) Q) Q ls st μ := ix_Ev.eqM H ((stL_36 L xs 1443 (by decide)).trans (ix_lk_app1 rfl)) ls st μ
theorem e_L_1444 {L : Nat} {xs : Nat → Int32} (H : ix_Mo (tL_0 L xs)) (Q : ix_R → Prop) (ls : ix_L) (st : List ix_V) (μ : ix_M) : ix_Ev (tL_0 L xs) Q (1444, ls, st, μ) = (ix_xld L xs 1445) (ix_Ev (tL_0 L xs) Q) Q ls st μ := ix_Ev.eqM H ((stL_36 L xs 1444 (by decide)).trans (ix_lk_app1 rfl)) ls st μ
theorem e_L_1445 {L : Nat} {xs : Nat → Int32} (H : ix_Mo (tL_0 L xs)) (Q : ix_R → Prop) (ls : ix_L) (st : List ix_V) (μ : ix_M) : ix_Ev (tL_0 L xs) Q (1445, ls, st, μ) = (oc_X10_move 1448) (ix_Ev (tL_0 L xs) Q) Q ls st μ := ix_Ev.eqM H ((stL_36 L xs 1445 (by decide)).trans (ix_lk_app1 rfl)) ls st μ
theorem e_L_1448 {L : Nat} {xs : Nat → Int32} (H : ix_Mo (tL_0 L xs)) (Q : ix_R → Prop) (ls : ix_L) (st : List ix_V) (μ : ix_M) : ix_Ev (tL_0 L xs) Q (1448, ls, st, μ) = (ix_aload 2 1449) (ix_Ev (tL_0 L xs) Q) Q ls st μ := ix_Ev.eqM H ((stL_36 L xs 1448 (by decide)).trans (ix_lk_app1 rfl)) ls st μ
theorem e_L_1449 {L : Nat} {xs : Nat → Int32} (H : ix_Mo (tL_0 L xs)) (Q : ix_R → Prop) (ls : ix_L) (st : List ix_V) (μ : ix_M) : ix_Ev (tL_0 L xs) Q (1449, ls, st, μ) = (ix_aload 0 1450) (ix_Ev (tL_0 L xs) Q) Q ls st μ := ix_Ev.eqM H ((stL_36 L xs 1449 (by decide)).trans (ix_lk_app1 rfl)) ls st μ
theorem e_L_1450 {L : Nat} {xs : Nat → Int32} (H : ix_Mo (tL_0 L xs)) (Q : ix_R → Prop) (ls : ix_L) (st : List ix_V) (μ : ix_M) : ix_Ev (tL_0 L xs) Q (1450, ls, st, μ) = (ix_iload 3 1451) (ix_Ev (tL_0 L xs) Q) Q ls st μ := ix_Ev.eqM H ((stL_36 L xs 1450 (by decide)).trans (ix_lk_app1 rfl)) ls st μ
theorem e_L_1451 {L : Nat} {xs : Nat → Int32} (H : ix_Mo (tL_0 L xs)) (Q : ix_R → Prop) (ls : ix_L) (st : List ix_V) (μ : ix_M) : ix_Ev (tL_0 L xs) Q (1451, ls, st, μ) = (ix_push (vi 1) 1452) (ix_Ev (tL_0 L xs) Q) Q ls st μ := ix_Ev.eqM H ((stL_36 L xs 1451 (by decide)).trans (ix_lk_app1 rfl)) ls st μ
theorem e_L_1452 {L : Nat} {xs : Nat → Int32} (H : ix_Mo (tL_0 L xs)) (Q : ix_R → Prop) (ls : ix_L) (st : List ix_V) (μ : ix_M) : ix_Ev (tL_0 L xs) Q (1452, ls, st, μ) = (ix_bin (fun x y => x + y) 1453) (ix_Ev (tL_0 L xs) Q) Q ls st μ := ix_Ev.eqM H ((stL_36 L xs 1452 (by decide)).trans (ix_lk_app1 rfl)) ls st μ
theorem e_L_1453 {L : Nat} {xs : Nat → Int32} (H : ix_Mo (tL_0 L xs)) (Q : ix_R → Prop) (ls : ix_L) (st : List ix_V) (μ : ix_M) : ix_Ev (tL_0 L xs) Q (1453, ls, st, μ) = (ix_xld L xs 1454) (ix_Ev (tL_0 L xs) Q) Q ls st μ := ix_Ev.eqM H ((stL_36 L xs 1453 (by decide)).trans (ix_lk_app1 rfl)) ls st μ
theorem e_L_1454 {L : Nat} {xs : Nat → Int32} (H : ix_Mo (tL_0 L xs)) (Q : ix_R → Prop) (ls : ix_L) (st : List ix_V) (μ : ix_M) : ix_Ev (tL_0 L xs) Q (1454, ls, st, μ) = (ix_aload 0 1455) (ix_Ev (tL_0 L xs) Q) Q ls st μ := ix_Ev.eqM H ((stL_36 L xs 1454 (by decide)).trans (ix_lk_app1 rfl)) ls st μ
theorem e_L_1455 {L : Nat} {xs : Nat → Int32} (H : ix_Mo (tL_0 L xs)) (Q : ix_R → Prop) (ls : ix_L) (st : List ix_V) (μ : ix_M) : ix_Ev (tL_0 L xs) Q (1455, ls, st, μ) = (ix_iload 3 1456) (ix_Ev (tL_0 L xs) Q) Q ls st μ := ix_Ev.eqM H ((stL_36 L xs 1455 (by decide)).trans (ix_lk_app1 rfl)) ls st μ
theorem e_L_1456 {L : Nat} {xs : Nat → Int32} (H : ix_Mo (tL_0 L xs)) (Q : ix_R → Prop) (ls : ix_L) (st : List ix_V) (μ : ix_M) : ix_Ev (tL_0 L xs) Q (1456, ls, st, μ) = (ix_push (vi 2) 1457) (ix_Ev (tL_0 L xs) Q) Q ls st μ := ix_Ev.eqM H ((stL_36 L xs 1456 (by decide)).trans (ix_lk_app1 rfl)) ls st μ
theorem e_L_1457 {L : Nat} {xs : Nat → Int32} (H : ix_Mo (tL_0 L xs)) (Q : ix_R → Prop) (ls : ix_L) (st : List ix_V) (μ : ix_M) : ix_Ev (tL_0 L xs) Q (1457, ls, st, μ) = (ix_bin (fun x y => x + y) 1458) (ix_Ev (tL_0 L xs) Q) Q ls st μ := ix_Ev.eqM H ((stL_36 L xs 1457 (by decide)).trans (ix_lk_app1 rfl)) ls st μ
theorem e_L_1458 {L : Nat} {xs : Nat → Int32} (H : ix_Mo (tL_0 L xs)) (Q : ix_R → Prop) (ls : ix_L) (st : List ix_V) (μ : ix_M) : ix_Ev (tL_0 L xs) Q (1458, ls, st, μ) = (ix_xld L xs 1459) (ix_Ev (tL_0 L xs) Q) Q ls st μ := ix_Ev.eqM H ((stL_36 L xs 1458 (by decide)).trans (ix_lk_app1 rfl)) ls st μ
theorem e_L_1459 {L : Nat} {xs : Nat → Int32} (H : ix_Mo (tL_0 L xs)) (Q : ix_R → Prop) (ls : ix_L) (st : List ix_V) (μ : ix_M) : ix_Ev (tL_0 L xs) Q (1459, ls, st, μ) = (ix_aload 0 1460) (ix_Ev (tL_0 L xs) Q) Q ls st μ := ix_Ev.eqM H ((stL_36 L xs 1459 (by decide)).trans (ix_lk_app1 rfl)) ls st μ
theorem e_L_1460 {L : Nat} {xs : Nat → Int32} (H : ix_Mo (tL_0 L xs)) (Q : ix_R → Prop) (ls : ix_L) (st : List ix_V) (μ : ix_M) : ix_Ev (tL_0 L xs) Q (1460, ls, st, μ) = (ix_iload 3 1461) (ix_Ev (tL_0 L xs) Q) Q ls st μ := ix_Ev.eqM H ((stL_36 L xs 1460 (by decide)).trans (ix_lk_app1 rfl)) ls st μ
theorem e_L_1461 {L : Nat} {xs : Nat → Int32} (H : ix_Mo (tL_0 L xs)) (Q : ix_R → Prop) (ls : ix_L) (st : List ix_V) (μ : ix_M) : ix_Ev (tL_0 L xs) Q (1461, ls, st, μ) = (ix_push (vi 3) 1462) (ix_Ev (tL_0 L xs) Q) Q ls st μ := ix_Ev.eqM H ((stL_36 L xs 1461 (by decide)).trans (ix_lk_app1 rfl)) ls st μ
theorem e_L_1462 {L : Nat} {xs : Nat → Int32} (H : ix_Mo (tL_0 L xs)) (Q : ix_R → Prop) (ls : ix_L) (st : List ix_V) (μ : ix_M) : ix_Ev (tL_0 L xs) Q (1462, ls, st, μ) = (ix_bin (fun x y => x + y) 1463) (ix_Ev (tL_0 L xs) Q) Q ls st μ := ix_Ev.eqM H ((stL_36 L xs 1462 (by decide)).trans (ix_lk_app1 rfl)) ls st μ
theorem e_L_1463 {L : Nat} {xs : Nat → Int32} (H : ix_Mo (tL_0 L xs)) (Q : ix_R → Prop) (ls : ix_L) (st : List ix_V) (μ : ix_M) : ix_Ev (tL_0 L xs) Q (1463, ls, st, μ) = (ix_xld L xs 1464) (ix_Ev (tL_0 L xs) Q) Q ls st μ := ix_Ev.eqM H ((stL_36 L xs 1463 (by decide)).trans (ix_lk_app1 rfl)) ls st μ
theorem e_L_1464 {L : Nat} {xs : Nat → Int32} (H : ix_Mo (tL_0 L xs)) (Q : ix_R → Prop) (ls : ix_L) (st : List ix_V) (μ : ix_M) : ix_Ev (tL_0 L xs) Q (1464, ls, st, μ) = (ix_aload 0 1465) (ix_Ev (tL_0 L xs) Q) Q ls st μ := ix_Ev.eqM H ((stL_36 L xs 1464 (by decide)).trans (ix_lk_app1 rfl)) ls st μ
theorem e_L_1465 {L : Nat} {xs : Nat → Int32} (H : ix_Mo (tL_0 L xs)) (Q : ix_R → Prop) (ls : ix_L) (st : List ix_V) (μ : ix_M) : ix_Ev (tL_0 L xs) Q (1465, ls, st, μ) = (ix_iload 3 1466) (ix_Ev (tL_0 L xs) Q) Q ls st μ := ix_Ev.eqM H ((stL_36 L xs 1465 (by decide)).trans (ix_lk_app1 rfl)) ls st μ
theorem e_L_1466 {L : Nat} {xs : Nat → Int32} (H : ix_Mo (tL_0 L xs)) (Q : ix_R → Prop) (ls : ix_L) (st : List ix_V) (μ : ix_M) : ix_Ev (tL_0 L xs) Q (1466, ls, st, μ) = (ix_push (vi 4) 1467) (ix_Ev (tL_0 L xs) Q) Q ls st μ := ix_Ev.eqM H ((stL_36 L xs 1466 (by decide)).trans (ix_lk_app1 rfl)) ls st μ
theorem e_L_1467 {L : Nat} {xs : Nat → Int32} (H : ix_Mo (tL_0 L xs)) (Q : ix_R → Prop) (ls : ix_L) (st : List ix_V) (μ : ix_M) : ix_Ev (tL_0 L xs) Q (1467, ls, st, μ) = (ix_bin (fun x y => x + y) 1468) (ix_Ev (tL_0 L xs) Q) Q ls st μ := ix_Ev.eqM H ((stL_36 L xs 1467 (by decide)).trans (ix_lk_app1 rfl)) ls st μ
theorem e_L_1468 {L : Nat} {xs : Nat → Int32} (H : ix_Mo (tL_0 L xs)) (Q : ix_R → Prop) (ls : ix_L) (st : List ix_V) (μ : ix_M) : ix_Ev (tL_0 L xs) Q (1468, ls, st, μ) = (ix_xld L xs 1469) (ix_Ev (tL_0 L xs) Q) Q ls st μ := ix_Ev.eqM H ((stL_36 L xs 1468 (by decide)).trans (ix_lk_app1 rfl)) ls st μ
theorem e_L_1469 {L : Nat} {xs : Nat → Int32} (H : ix_Mo (tL_0 L xs)) (Q : ix_R → Prop) (ls : ix_L) (st : List ix_V) (μ : ix_M) : ix_Ev (tL_0 L xs) Q (1469, ls, st, μ) = (ix_aload 0 1470) (ix_Ev (tL_0 L xs) Q) Q ls st μ := ix_Ev.eqM H ((stL_36 L xs 1469 (by decide)).trans (ix_lk_app1 rfl)) ls st μ
theorem e_L_1470 {L : Nat} {xs : Nat → Int32} (H : ix_Mo (tL_0 L xs)) (Q : ix_R → Prop) (ls : ix_L) (st : List ix_V) (μ : ix_M) : ix_Ev (tL_0 L xs) Q (1470, ls, st, μ) = (ix_iload 3 1471) (ix_Ev (tL_0 L xs) Q) Q ls st μ := ix_Ev.eqM H ((stL_36 L xs 1470 (by decide)).trans (ix_lk_app1 rfl)) ls st μ
theorem e_L_1471 {L : Nat} {xs : Nat → Int32} (H : ix_Mo (tL_0 L xs)) (Q : ix_R → Prop) (ls : ix_L) (st : List ix_V) (μ : ix_M) : ix_Ev (tL_0 L xs) Q (1471, ls, st, μ) = (ix_push (vi 5) 1472) (ix_Ev (tL_0 L xs) Q) Q ls st μ := ix_Ev.eqM H ((stL_36 L xs 1471 (by decide)).trans (ix_lk_app1 rfl)) ls st μ
theorem e_L_1472 {L : Nat} {xs : Nat → Int32} (H : ix_Mo (tL_0 L xs)) (Q : ix_R → Prop) (ls : ix_L) (st : List ix_V) (μ : ix_M) : ix_Ev (tL_0 L xs) Q (1472, ls, st, μ) = (ix_bin (fun x y => x + y) 1473) (ix_Ev (tL_0 L xs) Q) Q ls st μ := ix_Ev.eqM H ((stL_36 L xs 1472 (by decide)).trans (ix_lk_app1 rfl)) ls st μ
theorem e_L_1473 {L : Nat} {xs : Nat → Int32} (H : ix_Mo (tL_0 L xs)) (Q : ix_R → Prop) (ls : ix_L) (st : List ix_V) (μ : ix_M) : ix_Ev (tL_0 L xs) Q (1473, ls, st, μ) = (ix_xld L xs 1474) (ix_Ev (tL_0 L xs) Q) Q ls st μ := ix_Ev.eqM H ((stL_36 L xs 1473 (by decide)).trans (ix_lk_app1 rfl)) ls st μ
theorem e_L_1474 {L : Nat} {xs : Nat → Int32} (H : ix_Mo (tL_0 L xs)) (Q : ix_R → Prop) (ls : ix_L) (st : List ix_V) (μ : ix_M) : ix_Ev (tL_0 L xs) Q (1474, ls, st, μ) = (oc_X11_move 1477) (ix_Ev (tL_0 L xs) Q) Q ls st μ := ix_Ev.eqM H ((stL_36 L xs 1474 (by decide)).trans (ix_lk_app1 rfl)) ls st μ
theorem e_L_1477 {L : Nat} {xs : Nat → Int32} (H : ix_Mo (tL_0 L xs)) (Q : ix_R → Prop) (ls : ix_L) (st : List ix_V) (μ : ix_M) : ix_Ev (tL_0 L xs) Q (1477, ls, st, μ) = (ix_cmp (fun x y => x = y) 1636 1480) (ix_Ev (tL_0 L xs) Q) Q ls st μ := ix_Ev.eqM H ((stL_36 L xs 1477 (by decide)).trans (ix_lk_app1 rfl)) ls st μ
theorem e_L_1480 {L : Nat} {xs : Nat → Int32} (H : ix_Mo (tL_0 L xs)) (Q : ix_R → Prop) (ls : ix_L) (st : List ix_V) (μ : ix_M) : ix_Ev (tL_0 L xs) Q (1480, ls, st, μ) = (ix_push (vi 0) 1481) (ix_Ev (tL_0 L xs) Q) Q ls st μ := ix_Ev.eqM H ((stL_36 L xs 1480 (by decide)).trans (ix_lk_app1 rfl)) ls st μ
theorem e_L_1481 {L : Nat} {xs : Nat → Int32} (H : ix_Mo (tL_0 L xs)) (Q : ix_R → Prop) (ls : ix_L) (st : List ix_V) (μ : ix_M) : ix_Ev (tL_0 L xs) Q (1481, ls, st, μ) = ix_zret (ix_Ev (tL_0 L xs) Q) Q ls st μ := ix_Ev.eqM H ((stL_36 L xs 1481 (by decide)).trans (ix_lk_app1 rfl)) ls st μ
theorem e_L_1482 {L : Nat} {xs : Nat → Int32} (H : ix_Mo (tL_0 L xs)) (Q : ix_R → Prop) (ls : ix_L) (st : List ix_V) (μ : ix_M) : ix_Ev (tL_0 L xs) Q (1482, ls, st, μ) = (ix_aload 1 1483) (ix_Ev (tL_0 L xs) Q) Q ls st μ := ix_Ev.eqM H ((stL_37 L xs 1482 (by decide)).trans (ix_lk_app1 rfl)) ls st μ
theorem e_L_1483 {L : Nat} {xs : Nat → Int32} (H : ix_Mo (tL_0 L xs)) (Q : ix_R → Prop) (ls : ix_L) (st : List ix_V) (μ : ix_M) : ix_Ev (tL_0 L xs) Q (1483, ls, st, μ) = (ix_aload 0 1484) (ix_Ev (tL_0 L xs) Q) Q ls st μ := ix_Ev.eqM H ((stL_37 L xs 1483 (by decide)).trans (ix_lk_app1 rfl)) ls st μ
theorem e_L_1484 {L : Nat} {xs : Nat → Int32} (H : ix_Mo (tL_0 L xs)) (Q : ix_R → Prop) (ls : ix_L) (st : List ix_V) (μ : ix_M) : ix_Ev (tL_0 L xs) Q (1484, ls, st, μ) = (ix_iload 3 1485) (ix_Ev (tL_0 L xs) Q) Q ls st μ := ix_Ev.eqM H ((stL_37 L xs 1484 (by decide)).trans (ix_lk_app1 rfl)) ls st μ
theorem e_L_1485 {L : Nat} {xs : Nat → Int32} (H : ix_Mo (tL_0 L xs)) (Q : ix_R → Prop) (ls : ix_L) (st : List ix_V) (μ : ix_M) : ix_Ev (tL_0 L xs) Q (1485, ls, st, μ) = (ix_push (vi 1) 1486) (ix_Ev (tL_0 L xs) Q) Q ls st μ := ix_Ev.eqM H ((stL_37 L xs 1485 (by decide)).trans (ix_lk_app1 rfl)) ls st μ
theorem e_L_1486 {L : Nat} {xs : Nat → Int32} (H : ix_Mo (tL_0 L xs)) (Q : ix_R → Prop) (ls : ix_L) (st : List ix_V) (μ : ix_M) : ix_Ev (tL_0 L xs) Q (1486, ls, st, μ) = (ix_bin (fun x y => x + y) 1487) (ix_Ev (tL_0 L xs) Q) Q ls st μ := ix_Ev.eqM H ((stL_37 L xs 1486 (by decide)).trans (ix_lk_app1 rfl)) ls st μ
theorem e_L_1487 {L : Nat} {xs : Nat → Int32} (H : ix_Mo (tL_0 L xs)) (Q : ix_R → Prop) (ls : ix_L) (st : List ix_V) (μ : ix_M) : ix_Ev (tL_0 L xs) Q (1487, ls, st, μ) = (ix_xld L xs 1488) (ix_Ev (tL_0 L xs) Q) Q ls st μ := ix_Ev.eqM H ((stL_37 L xs 1487 (by decide)).trans (ix_lk_app1 rfl)) ls st μ
theorem e_L_1488 {L : Nat} {xs : Nat → Int32} (H : ix_Mo (tL_0 L xs)) (Q : ix_R → Prop) (ls : ix_L) (st : List ix_V) (μ : ix_M) : ix_Ev (tL_0 L xs) Q (1488, ls, st, μ) = (oc_X10_lies 1491) (ix_Ev (tL_0 L xs) Q) Q ls st μ := ix_Ev.eqM H ((stL_37 L xs 1488 (by decide)).trans (ix_lk_app1 rfl)) ls st μ
theorem e_L_1491 {L : Nat} {xs : Nat → Int32} (H : ix_Mo (tL_0 L xs)) (Q : ix_R → Prop) (ls : ix_L) (st : List ix_V) (μ : ix_M) : ix_Ev (tL_0 L xs) Q (1491, ls, st, μ) = (ix_aload 2 1492) (ix_Ev (tL_0 L xs) Q) Q ls st μ := ix_Ev.eqM H ((stL_37 L xs 1491 (by decide)).trans (ix_lk_app1 rfl)) ls st μ
theorem e_L_1492 {L : Nat} {xs : Nat → Int32} (H : ix_Mo (tL_0 L xs)) (Q : ix_R → Prop) (ls : ix_L) (st : List ix_V) (μ : ix_M) : ix_Ev (tL_0 L xs) Q (1492, ls, st, μ) = (ix_aload 0 1493) (ix_Ev (tL_0 L xs) Q) Q ls st μ := ix_Ev.eqM H ((stL_37 L xs 1492 (by decide)).trans (ix_lk_app1 rfl)) ls st μ
theorem e_L_1493 {L : Nat} {xs : Nat → Int32} (H : ix_Mo (tL_0 L xs)) (Q : ix_R → Prop) (ls : ix_L) (st : List ix_V) (μ : ix_M) : ix_Ev (tL_0 L xs) Q (1493, ls, st, μ) = (ix_iload 3 1494) (ix_Ev (tL_0 L xs) Q) Q ls st μ := ix_Ev.eqM H ((stL_37 L xs 1493 (by decide)).trans (ix_lk_app1 rfl)) ls st μ
theorem e_L_1494 {L : Nat} {xs : Nat → Int32} (H : ix_Mo (tL_0 L xs)) (Q : ix_R → Prop) (ls : ix_L) (st : List ix_V) (μ : ix_M) : ix_Ev (tL_0 L xs) Q (1494, ls, st, μ) = (ix_push (vi 1) 1495) (ix_Ev (tL_0 L xs) Q) Q ls st μ := ix_Ev.eqM H ((stL_37 L xs 1494 (by decide)).trans (ix_lk_app1 rfl)) ls st μ
theorem e_L_1495 {L : Nat} {xs : Nat → Int32} (H : ix_Mo (tL_0 L xs)) (Q : ix_R → Prop) (ls : ix_L) (st : List ix_V) (μ : ix_M) : ix_Ev (tL_0 L xs) Q (1495, ls, st, μ) = (ix_bin (fun x y => x + y) 1496) (ix_Ev (tL_0 L xs) Q) Q ls st μ := ix_Ev.eqM H ((stL_37 L xs 1495 (by decide)).trans (ix_lk_app1 rfl)) ls st μ
theorem e_L_1496 {L : Nat} {xs : Nat → Int32} (H : ix_Mo (tL_0 L xs)) (Q : ix_R → Prop) (ls : ix_L) (st : List ix_V) (μ : ix_M) : ix_Ev (tL_0 L xs) Q (1496, ls, st, μ) = (ix_xld L xs 1497) (ix_Ev (tL_0 L xs) Q) Q ls st μ := ix_Ev.eqM H ((stL_37 L xs 1496 (by decide)).trans (ix_lk_app1 rfl)) ls st μ
theorem e_L_1497 {L : Nat} {xs : Nat → Int32} (H : ix_Mo (tL_0 L xs)) (Q : ix_R → Prop) (ls : ix_L) (st : List ix_V) (μ : ix_M) : ix_Ev (tL_0 L xs) Q (1497, ls, st, μ) = (oc_X11_lies 1500) (ix_Ev (tL_0 L xs) Q) Q ls st μ := ix_Ev.eqM H ((stL_37 L xs 1497 (by decide)).trans (ix_lk_app1 rfl)) ls st μ
theorem e_L_1500 {L : Nat} {xs : Nat → Int32} (H : ix_Mo (tL_0 L xs)) (Q : ix_R → Prop) (ls : ix_L) (st : List ix_V) (μ : ix_M) : ix_Ev (tL_0 L xs) Q (1500, ls, st, μ) = (ix_cmp (fun x y => x = y) 1636 1503) (ix_Ev (tL_0 L xs) Q) Q ls st μ := ix_Ev.eqM H ((stL_37 L xs 1500 (by decide)).trans (ix_lk_app1 rfl)) ls st μ
theorem e_L_1503 {L : Nat} {xs : Nat → Int32} (H : ix_Mo (tL_0 L xs)) (Q : ix_R → Prop) (ls : ix_L) (st : List ix_V) (μ : ix_M) : ix_Ev (tL_0 L xs) Q (1503, ls, st, μ) = (ix_push (vi 0) 1504) (ix_Ev (tL_0 L xs) Q) Q ls st μ := ix_Ev.eqM H ((stL_37 L xs 1503 (by decide)).trans (ix_lk_app1 rfl)) ls st μ
theorem e_L_1504 {L : Nat} {xs : Nat → Int32} (H : ix_Mo (tL_0 L xs)) (Q : ix_R → Prop) (ls : ix_L) (st : List ix_V) (μ : ix_M) : ix_Ev (tL_0 L xs) Q (1504, ls, st, μ) = ix_zret (ix_Ev (tL_0 L xs) Q) Q ls st μ := ix_Ev.eqM H ((stL_37 L xs 1504 (by decide)).trans (ix_lk_app1 rfl)) ls st μ
theorem e_L_1505 {L : Nat} {xs : Nat → Int32} (H : ix_Mo (tL_0 L xs)) (Q : ix_R → Prop) (ls : ix_L) (st : List ix_V) (μ : ix_M) : ix_Ev (tL_0 L xs) Q (1505, ls, st, μ) = (ix_aload 1 1506) (ix_Ev (tL_0 L xs) Q) Q ls st μ := ix_Ev.eqM H ((stL_38 L xs 1505 (by decide)).trans (ix_lk_app1 rfl)) ls st μ
theorem e_L_1506 {L : Nat} {xs : Nat → Int32} (H : ix_Mo (tL_0 L xs)) (Q : ix_R → Prop) (ls : ix_L) (st : List ix_V) (μ : ix_M) : ix_Ev (tL_0 L xs) Q (1506, ls, st, μ) = (ix_aload 0 1507) (ix_Ev (tL_0 L xs) Q) Q ls st μ := ix_Ev.eqM H ((stL_38 L xs 1506 (by decide)).trans (ix_lk_app1 rfl)) ls st μ
theorem e_L_1507 {L : Nat} {xs : Nat → Int32} (H : ix_Mo (tL_0 L xs)) (Q : ix_R → Prop) (ls : ix_L) (st : List ix_V) (μ : ix_M) : ix_Ev (tL_0 L xs) Q (1507, ls, st, μ) = (ix_iload 3 1508) (ix_Ev (tL_0 L xs) Q) Q ls st μ := ix_Ev.eqM H ((stL_38 L xs 1507 (by decide)).trans (ix_lk_app1 rfl)) ls st μ
theorem e_L_1508 {L : Nat} {xs : Nat → Int32} (H : ix_Mo (tL_0 L xs)) (Q : ix_R → Prop) (ls : ix_L) (st : List ix_V) (μ : ix_M) : ix_Ev (tL_0 L xs) Q (1508, ls, st, μ) = (ix_push (vi 1) 1509) (ix_Ev (tL_0 L xs) Q) Q ls st μ := ix_Ev.eqM H ((stL_38 L xs 1508 (by decide)).trans (ix_lk_app1 rfl)) ls st μ
theorem e_L_1509 {L : Nat} {xs : Nat → Int32} (H : ix_Mo (tL_0 L xs)) (Q : ix_R → Prop) (ls : ix_L) (st : List ix_V) (μ : ix_M) : ix_Ev (tL_0 L xs) Q (1509, ls, st, μ) = (ix_bin (fun x y => x + y) 1510) (ix_Ev (tL_0 L xs) Q) Q ls st μ := ix_Ev.eqM H ((stL_38 L xs 1509 (by decide)).trans (ix_lk_app1 rfl)) ls st μ
theorem e_L_1510 {L : Nat} {xs : Nat → Int32} (H : ix_Mo (tL_0 L xs)) (Q : ix_R → Prop) (ls : ix_L) (st : List ix_V) (μ : ix_M) : ix_Ev (tL_0 L xs) Q (1510, ls, st, μ) = (ix_xld L xs 1511) (ix_Ev (tL_0 L xs) Q) Q ls st μ := ix_Ev.eqM H ((stL_38 L xs 1510 (by decide)).trans (ix_lk_app1 rfl)) ls st μ
theorem e_L_1511 {L : Nat} {xs : Nat → Int32} (H : ix_Mo (tL_0 L xs)) (Q : ix_R → Prop) (ls : ix_L) (st : List ix_V) (μ : ix_M) : ix_Ev (tL_0 L xs) Q (1511, ls, st, μ) = (oc_X10_judge 1514) (ix_Ev (tL_0 L xs) Q) Q ls st μ := ix_Ev.eqM H ((stL_38 L xs 1511 (by decide)).trans (ix_lk_app1 rfl)) ls st μ
theorem e_L_1514 {L : Nat} {xs : Nat → Int32} (H : ix_Mo (tL_0 L xs)) (Q : ix_R → Prop) (ls : ix_L) (st : List ix_V) (μ : ix_M) : ix_Ev (tL_0 L xs) Q (1514, ls, st, μ) = (ix_aload 2 1515) (ix_Ev (tL_0 L xs) Q) Q ls st μ := ix_Ev.eqM H ((stL_38 L xs 1514 (by decide)).trans (ix_lk_app1 rfl)) ls st μ
theorem e_L_1515 {L : Nat} {xs : Nat → Int32} (H : ix_Mo (tL_0 L xs)) (Q : ix_R → Prop) (ls : ix_L) (st : List ix_V) (μ : ix_M) : ix_Ev (tL_0 L xs) Q (1515, ls, st, μ) = (ix_aload 0 1516) (ix_Ev (tL_0 L xs) Q) Q ls st μ := ix_Ev.eqM H ((stL_38 L xs 1515 (by decide)).trans (ix_lk_app1 rfl)) ls st μ
theorem e_L_1516 {L : Nat} {xs : Nat → Int32} (H : ix_Mo (tL_0 L xs)) (Q : ix_R → Prop) (ls : ix_L) (st : List ix_V) (μ : ix_M) : ix_Ev (tL_0 L xs) Q (1516, ls, st, μ) = (ix_iload 3 1517) (ix_Ev (tL_0 L xs) Q) Q ls st μ := ix_Ev.eqM H ((stL_38 L xs 1516 (by decide)).trans (ix_lk_app1 rfl)) ls st μ
theorem e_L_1517 {L : Nat} {xs : Nat → Int32} (H : ix_Mo (tL_0 L xs)) (Q : ix_R → Prop) (ls : ix_L) (st : List ix_V) (μ : ix_M) : ix_Ev (tL_0 L xs) Q (1517, ls, st, μ) = (ix_push (vi 1) 1518) (ix_Ev (tL_0 L xs) Q) Q ls st μ := ix_Ev.eqM H ((stL_38 L xs 1517 (by decide)).trans (ix_lk_app1 rfl)) ls st μ
theorem e_L_1518 {L : Nat} {xs : Nat → Int32} (H : ix_Mo (tL_0 L xs)) (Q : ix_R → Prop) (ls : ix_L) (st : List ix_V) (μ : ix_M) : ix_Ev (tL_0 L xs) Q (1518, ls, st, μ) = (ix_bin (fun x y => x + y) 1519) (ix_Ev (tL_0 L xs) Q) Q ls st μ := ix_Ev.eqM H ((stL_38 L xs 1518 (by decide)).trans (ix_lk_app1 rfl)) ls st μ
theorem e_L_1519 {L : Nat} {xs : Nat → Int32} (H : ix_Mo (tL_0 L xs)) (Q : ix_R → Prop) (ls : ix_L) (st : List ix_V) (μ : ix_M) : ix_Ev (tL_0 L xs) Q (1519, ls, st, μ) = (ix_xld L xs 1520) (ix_Ev (tL_0 L xs) Q) Q ls st μ := ix_Ev.eqM H ((stL_38 L xs 1519 (by decide)).trans (ix_lk_app1 rfl)) ls st μ
theorem e_L_1520 {L : Nat} {xs : Nat → Int32} (H : ix_Mo (tL_0 L xs)) (Q : ix_R → Prop) (ls : ix_L) (st : List ix_V) (μ : ix_M) : ix_Ev (tL_0 L xs) Q (1520, ls, st, μ) = (oc_X11_judge 1523) (ix_Ev (tL_0 L xs) Q) Q ls st μ := ix_Ev.eqM H ((stL_38 L xs 1520 (by decide)).trans (ix_lk_app1 rfl)) ls st μ
theorem e_L_1523 {L : Nat} {xs : Nat → Int32} (H : ix_Mo (tL_0 L xs)) (Q : ix_R → Prop) (ls : ix_L) (st : List ix_V) (μ : ix_M) : ix_Ev (tL_0 L xs) Q (1523, ls, st, μ) = (ix_cmp (fun x y => x = y) 1636 1526) (ix_Ev (tL_0 L xs) Q) Q ls st μ := ix_Ev.eqM H ((stL_38 L xs 1523 (by decide)).trans (ix_lk_app1 rfl)) ls st μ
theorem e_L_1526 {L : Nat} {xs : Nat → Int32} (H : ix_Mo (tL_0 L xs)) (Q : ix_R → Prop) (ls : ix_L) (st : List ix_V) (μ : ix_M) : ix_Ev (tL_0 L xs) Q (1526, ls, st, μ) = (ix_push (vi 0) 1527) (ix_Ev (tL_0 L xs) Q) Q ls st μ := ix_Ev.eqM H ((stL_38 L xs 1526 (by decide)).trans (ix_lk_app1 rfl)) ls st μ
theorem e_L_1527 {L : Nat} {xs : Nat → Int32} (H : ix_Mo (tL_0 L xs)) (Q : ix_R → Prop) (ls : ix_L) (st : List ix_V) (μ : ix_M) : ix_Ev (tL_0 L xs) Q (1527, ls, st, μ) = ix_zret (ix_Ev (tL_0 L xs) Q) Q ls st μ := ix_Ev.eqM H ((stL_38 L xs 1527 (by decide)).trans (ix_lk_app1 rfl)) ls st μ
theorem e_L_1528 {L : Nat} {xs : Nat → Int32} (H : ix_Mo (tL_0 L xs)) (Q : ix_R → Prop) (ls : ix_L) (st : List ix_V) (μ : ix_M) : ix_Ev (tL_0 L xs) Q (1528, ls, st, μ) = (ix_aload 1 1529) (ix_Ev (tL_0 L xs) Q) Q ls st μ := ix_Ev.eqM H ((stL_39 L xs 1528 (by decide)).trans (ix_lk_app1 rfl)) ls st μ
theorem e_L_1529 {L : Nat} {xs : Nat → Int32} (H : ix_Mo (tL_0 L xs)) (Q : ix_R → Prop) (ls : ix_L) (st : List ix_V) (μ : ix_M) : ix_Ev (tL_0 L xs) Q (1529, ls, st, μ) = (oc_X10_image 1532) (ix_Ev (tL_0 L xs) Q) Q ls st μ := ix_Ev.eqM H ((stL_39 L xs 1529 (by decide)).trans (ix_lk_app1 rfl)) ls st μ
theorem e_L_1532 {L : Nat} {xs : Nat → Int32} (H : ix_Mo (tL_0 L xs)) (Q : ix_R → Prop) (ls : ix_L) (st : List ix_V) (μ : ix_M) : ix_Ev (tL_0 L xs) Q (1532, ls, st, μ) = (ix_aload 2 1533) (ix_Ev (tL_0 L xs) Q) Q ls st μ := ix_Ev.eqM H ((stL_39 L xs 1532 (by decide)).trans (ix_lk_app1 rfl)) ls st μ
theorem e_L_1533 {L : Nat} {xs : Nat → Int32} (H : ix_Mo (tL_0 L xs)) (Q : ix_R → Prop) (ls : ix_L) (st : List ix_V) (μ : ix_M) : ix_Ev (tL_0 L xs) Q (1533, ls, st, μ) = (oc_X11_image 1536) (ix_Ev (tL_0 L xs) Q) Q ls st μ := ix_Ev.eqM H ((stL_39 L xs 1533 (by decide)).trans (ix_lk_app1 rfl)) ls st μ
theorem e_L_1536 {L : Nat} {xs : Nat → Int32} (H : ix_Mo (tL_0 L xs)) (Q : ix_R → Prop) (ls : ix_L) (st : List ix_V) (μ : ix_M) : ix_Ev (tL_0 L xs) Q (1536, ls, st, μ) = (ix_cmp (fun x y => x = y) 1636 1539) (ix_Ev (tL_0 L xs) Q) Q ls st μ := ix_Ev.eqM H ((stL_39 L xs 1536 (by decide)).trans (ix_lk_app1 rfl)) ls st μ
theorem e_L_1539 {L : Nat} {xs : Nat → Int32} (H : ix_Mo (tL_0 L xs)) (Q : ix_R → Prop) (ls : ix_L) (st : List ix_V) (μ : ix_M) : ix_Ev (tL_0 L xs) Q (1539, ls, st, μ) = (ix_push (vi 0) 1540) (ix_Ev (tL_0 L xs) Q) Q ls st μ := ix_Ev.eqM H ((stL_39 L xs 1539 (by decide)).trans (ix_lk_app1 rfl)) ls st μ
theorem e_L_1540 {L : Nat} {xs : Nat → Int32} (H : ix_Mo (tL_0 L xs)) (Q : ix_R → Prop) (ls : ix_L) (st : List ix_V) (μ : ix_M) : ix_Ev (tL_0 L xs) Q (1540, ls, st, μ) = ix_zret (ix_Ev (tL_0 L xs) Q) Q ls st μ := ix_Ev.eqM H ((stL_39 L xs 1540 (by decide)).trans (ix_lk_app1 rfl)) ls st μ
theorem e_L_1541 {L : Nat} {xs : Nat → Int32} (H : ix_Mo (tL_0 L xs)) (Q : ix_R → Prop) (ls : ix_L) (st : List ix_V) (μ : ix_M) : ix_Ev (tL_0 L xs) Q (1541, ls, st, μ) = (ix_aload 1 1542) (ix_Ev (tL_0 L xs) Q) Q ls st μ := ix_Ev.eqM H ((stL_40 L xs 1541 (by decide)).trans (ix_lk_app1 rfl)) ls st μ
theorem e_L_1542 {L : Nat} {xs : Nat → Int32} (H : ix_Mo (tL_0 L xs)) (Q : ix_R → Prop) (ls : ix_L) (st : List ix_V) (μ : ix_M) : ix_Ev (tL_0 L xs) Q (1542, ls, st, μ) = (oc_X10_restore 1545) (ix_Ev (tL_0 L xs) Q) Q ls st μ := ix_Ev.eqM H ((stL_40 L xs 1542 (by decide)).trans (ix_lk_app1 rfl)) ls st μ
theorem e_L_1545 {L : Nat} {xs : Nat → Int32} (H : ix_Mo (tL_0 L xs)) (Q : ix_R → Prop) (ls : ix_L) (st : List ix_V) (μ : ix_M) : ix_Ev (tL_0 L xs) Q (1545, ls, st, μ) = (ix_aload 2 1546) (ix_Ev (tL_0 L xs) Q) Q ls st μ := ix_Ev.eqM H ((stL_40 L xs 1545 (by decide)).trans (ix_lk_app1 rfl)) ls st μ
theorem e_L_1546 {L : Nat} {xs : Nat → Int32} (H : ix_Mo (tL_0 L xs)) (Q : ix_R → Prop) (ls : ix_L) (st : List ix_V) (μ : ix_M) : ix_Ev (tL_0 L xs) Q (1546, ls, st, μ) = (oc_X11_restore 1549) (ix_Ev (tL_0 L xs) Q) Q ls st μ := ix_Ev.eqM H ((stL_40 L xs 1546 (by decide)).trans (ix_lk_app1 rfl)) ls st μ
theorem e_L_1549 {L : Nat} {xs : Nat → Int32} (H : ix_Mo (tL_0 L xs)) (Q : ix_R → Prop) (ls : ix_L) (st : List ix_V) (μ : ix_M) : ix_Ev (tL_0 L xs) Q (1549, ls, st, μ) = (ix_cmp (fun x y => x = y) 1636 1552) (ix_Ev (tL_0 L xs) Q) Q ls st μ := ix_Ev.eqM H ((stL_40 L xs 1549 (by decide)).trans (ix_lk_app1 rfl)) ls st μ
theorem e_L_1552 {L : Nat} {xs : Nat → Int32} (H : ix_Mo (tL_0 L xs)) (Q : ix_R → Prop) (ls : ix_L) (st : List ix_V) (μ : ix_M) : ix_Ev (tL_0 L xs) Q (1552, ls, st, μ) = (ix_push (vi 0) 1553) (ix_Ev (tL_0 L xs) Q) Q ls st μ := ix_Ev.eqM H ((stL_40 L xs 1552 (by decide)).trans (ix_lk_app1 rfl)) ls st μ
theorem e_L_1553 {L : Nat} {xs : Nat → Int32} (H : ix_Mo (tL_0 L xs)) (Q : ix_R → Prop) (ls : ix_L) (st : List ix_V) (μ : ix_M) : ix_Ev (tL_0 L xs) Q (1553, ls, st, μ) = ix_zret (ix_Ev (tL_0 L xs) Q) Q ls st μ := ix_Ev.eqM H ((stL_40 L xs 1553 (by decide)).trans (ix_lk_app1 rfl)) ls st μ
theorem e_L_1554 {L : Nat} {xs : Nat → Int32} (H : ix_Mo (tL_0 L xs)) (Q : ix_R → Prop) (ls : ix_L) (st : List ix_V) (μ : ix_M) : ix_Ev (tL_0 L xs) Q (1554, ls, st, μ) = (ix_aload 1 1555) (ix_Ev (tL_0 L xs) Q) Q ls st μ := ix_Ev.eqM H ((stL_41 L xs 1554 (by decide)).trans (ix_lk_app1 rfl)) ls st μ
theorem e_L_1555 {L : Nat} {xs : Nat → Int32} (H : ix_Mo (tL_0 L xs)) (Q : ix_R → Prop) (ls : ix_L) (st : List ix_V) (μ : ix_M) : ix_Ev (tL_0 L xs) Q (1555, ls, st, μ) = (ix_aload 0 1556) (ix_Ev (tL_0 L xs) Q) Q ls st μ := ix_Ev.eqM H ((stL_41 L xs 1555 (by decide)).trans (ix_lk_app1 rfl)) ls st μ
theorem e_L_1556 {L : Nat} {xs : Nat → Int32} (H : ix_Mo (tL_0 L xs)) (Q : ix_R → Prop) (ls : ix_L) (st : List ix_V) (μ : ix_M) : ix_Ev (tL_0 L xs) Q (1556, ls, st, μ) = (ix_iload 3 1557) (ix_Ev (tL_0 L xs) Q) Q ls st μ := ix_Ev.eqM H ((stL_41 L xs 1556 (by decide)).trans (ix_lk_app1 rfl)) ls st μ
theorem e_L_1557 {L : Nat} {xs : Nat → Int32} (H : ix_Mo (tL_0 L xs)) (Q : ix_R → Prop) (ls : ix_L) (st : List ix_V) (μ : ix_M) : ix_Ev (tL_0 L xs) Q (1557, ls, st, μ) = (ix_push (vi 1) 1558) (ix_Ev (tL_0 L xs) Q) Q ls st μ := ix_Ev.eqM H ((stL_41 L xs 1557 (by decide)).trans (ix_lk_app1 rfl)) ls st μ
theorem e_L_1558 {L : Nat} {xs : Nat → Int32} (H : ix_Mo (tL_0 L xs)) (Q : ix_R → Prop) (ls : ix_L) (st : List ix_V) (μ : ix_M) : ix_Ev (tL_0 L xs) Q (1558, ls, st, μ) = (ix_bin (fun x y => x + y) 1559) (ix_Ev (tL_0 L xs) Q) Q ls st μ := ix_Ev.eqM H ((stL_41 L xs 1558 (by decide)).trans (ix_lk_app1 rfl)) ls st μ
theorem e_L_1559 {L : Nat} {xs : Nat → Int32} (H : ix_Mo (tL_0 L xs)) (Q : ix_R → Prop) (ls : ix_L) (st : List ix_V) (μ : ix_M) : ix_Ev (tL_0 L xs) Q (1559, ls, st, μ) = (ix_xld L xs 1560) (ix_Ev (tL_0 L xs) Q) Q ls st μ := ix_Ev.eqM H ((stL_41 L xs 1559 (by decide)).trans (ix_lk_app1 rfl)) ls st μ
theorem e_L_1560 {L : Nat} {xs : Nat → Int32} (H : ix_Mo (tL_0 L xs)) (Q : ix_R → Prop) (ls : ix_L) (st : List ix_V) (μ : ix_M) : ix_Ev (tL_0 L xs) Q (1560, ls, st, μ) = (oc_X10_tell 1563) (ix_Ev (tL_0 L xs) Q) Q ls st μ := ix_Ev.eqM H ((stL_41 L xs 1560 (by decide)).trans (ix_lk_app1 rfl)) ls st μ
theorem e_L_1563 {L : Nat} {xs : Nat → Int32} (H : ix_Mo (tL_0 L xs)) (Q : ix_R → Prop) (ls : ix_L) (st : List ix_V) (μ : ix_M) : ix_Ev (tL_0 L xs) Q (1563, ls, st, μ) = (ix_aload 2 1564) (ix_Ev (tL_0 L xs) Q) Q ls st μ := ix_Ev.eqM H ((stL_41 L xs 1563 (by decide)).trans (ix_lk_app1 rfl)) ls st μ
theorem e_L_1564 {L : Nat} {xs : Nat → Int32} (H : ix_Mo (tL_0 L xs)) (Q : ix_R → Prop) (ls : ix_L) (st : List ix_V) (μ : ix_M) : ix_Ev (tL_0 L xs) Q (1564, ls, st, μ) = (ix_aload 0 1565) (ix_Ev (tL_0 L xs) Q) Q ls st μ := ix_Ev.eqM H ((stL_41 L xs 1564 (by decide)).trans (ix_lk_app1 rfl)) ls st μ
theorem e_L_1565 {L : Nat} {xs : Nat → Int32} (H : ix_Mo (tL_0 L xs)) (Q : ix_R → Prop) (ls : ix_L) (st : List ix_V) (μ : ix_M) : ix_Ev (tL_0 L xs) Q (1565, ls, st, μ) = (ix_iload 3 1566) (ix_Ev (tL_0 L xs) Q) Q ls st μ := ix_Ev.eqM H ((stL_41 L xs 1565 (by decide)).trans (ix_lk_app1 rfl)) ls st μ
theorem e_L_1566 {L : Nat} {xs : Nat → Int32} (H : ix_Mo (tL_0 L xs)) (Q : ix_R → Prop) (ls : ix_L) (st : List ix_V) (μ : ix_M) : ix_Ev (tL_0 L xs) Q (1566, ls, st, μ) = (ix_push (vi 1) 1567) (ix_Ev (tL_0 L xs) Q) Q ls st μ := ix_Ev.eqM H ((stL_41 L xs 1566 (by decide)).trans (ix_lk_app1 rfl)) ls st μ
theorem e_L_1567 {L : Nat} {xs : Nat → Int32} (H : ix_Mo (tL_0 L xs)) (Q : ix_R → Prop) (ls : ix_L) (st : List ix_V) (μ : ix_M) : ix_Ev (tL_0 L xs) Q (1567, ls, st, μ) = (ix_bin (fun x y => x + y) 1568) (ix_Ev (tL_0 L xs) Q) Q ls st μ := ix_Ev.eqM H ((stL_41 L xs 1567 (by decide)).trans (ix_lk_app1 rfl)) ls st μ
theorem e_L_1568 {L : Nat} {xs : Nat → Int32} (H : ix_Mo (tL_0 L xs)) (Q : ix_R → Prop) (ls : ix_L) (st : List ix_V) (μ : ix_M) : ix_Ev (tL_0 L xs) Q (1568, ls, st, μ) = (ix_xld L xs 1569) (ix_Ev (tL_0 L xs) Q) Q ls st μ := ix_Ev.eqM H ((stL_41 L xs 1568 (by decide)).trans (ix_lk_app1 rfl)) ls st μ
theorem e_L_1569 {L : Nat} {xs : Nat → Int32} (H : ix_Mo (tL_0 L xs)) (Q : ix_R → Prop) (ls : ix_L) (st : List ix_V) (μ : ix_M) : ix_Ev (tL_0 L xs) Q (1569, ls, st, μ) = (oc_X11_tell 1572) (ix_Ev (tL_0 L xs) Q) Q ls st μ := ix_Ev.eqM H ((stL_41 L xs 1569 (by decide)).trans (ix_lk_app1 rfl)) ls st μ
theorem e_L_1572 {L : Nat} {xs : Nat → Int32} (H : ix_Mo (tL_0 L xs)) (Q : ix_R → Prop) (ls : ix_L) (st : List ix_V) (μ : ix_M) : ix_Ev (tL_0 L xs) Q (1572, ls, st, μ) = (ix_cmp (fun x y => x = y) 1636 1575) (ix_Ev (tL_0 L xs) Q) Q ls st μ := ix_Ev.eqM H ((stL_41 L xs 1572 (by decide)).trans (ix_lk_app1 rfl)) ls st μ
theorem e_L_1575 {L : Nat} {xs : Nat → Int32} (H : ix_Mo (tL_0 L xs)) (Q : ix_R → Prop) (ls : ix_L) (st : List ix_V) (μ : ix_M) : ix_Ev (tL_0 L xs) Q (1575, ls, st, μ) = (ix_push (vi 0) 1576) (ix_Ev (tL_0 L xs) Q) Q ls st μ := ix_Ev.eqM H ((stL_41 L xs 1575 (by decide)).trans (ix_lk_app1 rfl)) ls st μ
theorem e_L_1576 {L : Nat} {xs : Nat → Int32} (H : ix_Mo (tL_0 L xs)) (Q : ix_R → Prop) (ls : ix_L) (st : List ix_V) (μ : ix_M) : ix_Ev (tL_0 L xs) Q (1576, ls, st, μ) = ix_zret (ix_Ev (tL_0 L xs) Q) Q ls st μ := ix_Ev.eqM H ((stL_41 L xs 1576 (by decide)).trans (ix_lk_app1 rfl)) ls st μ
theorem e_L_1577 {L : Nat} {xs : Nat → Int32} (H : ix_Mo (tL_0 L xs)) (Q : ix_R → Prop) (ls : ix_L) (st : List ix_V) (μ : ix_M) : ix_Ev (tL_0 L xs) Q (1577, ls, st, μ) = (ix_aload 1 1578) (ix_Ev (tL_0 L xs) Q) Q ls st μ := ix_Ev.eqM H ((stL_42 L xs 1577 (by decide)).trans (ix_lk_app1 rfl)) ls st μ
theorem e_L_1578 {L : Nat} {xs : Nat → Int32} (H : ix_Mo (tL_0 L xs)) (Q : ix_R → Prop) (ls : ix_L) (st : List ix_V) (μ : ix_M) : ix_Ev (tL_0 L xs) Q (1578, ls, st, μ) = (oc_X10_check 1581) (ix_Ev (tL_0 L xs) Q) Q ls st μ := ix_Ev.eqM H ((stL_42 L xs 1578 (by decide)).trans (ix_lk_app1 rfl)) ls st μ
theorem e_L_1581 {L : Nat} {xs : Nat → Int32} (H : ix_Mo (tL_0 L xs)) (Q : ix_R → Prop) (ls : ix_L) (st : List ix_V) (μ : ix_M) : ix_Ev (tL_0 L xs) Q (1581, ls, st, μ) = (ix_aload 2 1582) (ix_Ev (tL_0 L xs) Q) Q ls st μ := ix_Ev.eqM H ((stL_42 L xs 1581 (by decide)).trans (ix_lk_app1 rfl)) ls st μ
theorem e_L_1582 {L : Nat} {xs : Nat → Int32} (H : ix_Mo (tL_0 L xs)) (Q : ix_R → Prop) (ls : ix_L) (st : List ix_V) (μ : ix_M) : ix_Ev (tL_0 L xs) Q (1582, ls, st, μ) = (oc_X11_check 1585) (ix_Ev (tL_0 L xs) Q) Q ls st μ := ix_Ev.eqM H ((stL_42 L xs 1582 (by decide)).trans (ix_lk_app1 rfl)) ls st μ
theorem e_L_1585 {L : Nat} {xs : Nat → Int32} (H : ix_Mo (tL_0 L xs)) (Q : ix_R → Prop) (ls : ix_L) (st : List ix_V) (μ : ix_M) : ix_Ev (tL_0 L xs) Q (1585, ls, st, μ) = (ix_cmp (fun x y => x = y) 1636 1588) (ix_Ev (tL_0 L xs) Q) Q ls st μ := ix_Ev.eqM H ((stL_42 L xs 1585 (by decide)).trans (ix_lk_app1 rfl)) ls st μ
theorem e_L_1588 {L : Nat} {xs : Nat → Int32} (H : ix_Mo (tL_0 L xs)) (Q : ix_R → Prop) (ls : ix_L) (st : List ix_V) (μ : ix_M) : ix_Ev (tL_0 L xs) Q (1588, ls, st, μ) = (ix_push (vi 0) 1589) (ix_Ev (tL_0 L xs) Q) Q ls st μ := ix_Ev.eqM H ((stL_42 L xs 1588 (by decide)).trans (ix_lk_app1 rfl)) ls st μ
theorem e_L_1589 {L : Nat} {xs : Nat → Int32} (H : ix_Mo (tL_0 L xs)) (Q : ix_R → Prop) (ls : ix_L) (st : List ix_V) (μ : ix_M) : ix_Ev (tL_0 L xs) Q (1589, ls, st, μ) = ix_zret (ix_Ev (tL_0 L xs) Q) Q ls st μ := ix_Ev.eqM H ((stL_42 L xs 1589 (by decide)).trans (ix_lk_app1 rfl)) ls st μ
theorem e_L_1590 {L : Nat} {xs : Nat → Int32} (H : ix_Mo (tL_0 L xs)) (Q : ix_R → Prop) (ls : ix_L) (st : List ix_V) (μ : ix_M) : ix_Ev (tL_0 L xs) Q (1590, ls, st, μ) = (ix_aload 1 1591) (ix_Ev (tL_0 L xs) Q) Q ls st μ := ix_Ev.eqM H ((stL_43 L xs 1590 (by decide)).trans (ix_lk_app1 rfl)) ls st μ
theorem e_L_1591 {L : Nat} {xs : Nat → Int32} (H : ix_Mo (tL_0 L xs)) (Q : ix_R → Prop) (ls : ix_L) (st : List ix_V) (μ : ix_M) : ix_Ev (tL_0 L xs) Q (1591, ls, st, μ) = (ix_aload 0 1592) (ix_Ev (tL_0 L xs) Q) Q ls st μ := ix_Ev.eqM H ((stL_43 L xs 1591 (by decide)).trans (ix_lk_app1 rfl)) ls st μ
theorem e_L_1592 {L : Nat} {xs : Nat → Int32} (H : ix_Mo (tL_0 L xs)) (Q : ix_R → Prop) (ls : ix_L) (st : List ix_V) (μ : ix_M) : ix_Ev (tL_0 L xs) Q (1592, ls, st, μ) = (ix_iload 3 1593) (ix_Ev (tL_0 L xs) Q) Q ls st μ := ix_Ev.eqM H ((stL_43 L xs 1592 (by decide)).trans (ix_lk_app1 rfl)) ls st μ
theorem e_L_1593 {L : Nat} {xs : Nat → Int32} (H : ix_Mo (tL_0 L xs)) (Q : ix_R → Prop) (ls : ix_L) (st : List ix_V) (μ : ix_M) : ix_Ev (tL_0 L xs) Q (1593, ls, st, μ) = (ix_push (vi 1) 1594) (ix_Ev (tL_0 L xs) Q) Q ls st μ := ix_Ev.eqM H ((stL_43 L xs 1593 (by decide)).trans (ix_lk_app1 rfl)) ls st μ
theorem e_L_1594 {L : Nat} {xs : Nat → Int32} (H : ix_Mo (tL_0 L xs)) (Q : ix_R → Prop) (ls : ix_L) (st : List ix_V) (μ : ix_M) : ix_Ev (tL_0 L xs) Q (1594, ls, st, μ) = (ix_bin (fun x y => x + y) 1595) (ix_Ev (tL_0 L xs) Q) Q ls st μ := ix_Ev.eqM H ((stL_43 L xs 1594 (by decide)).trans (ix_lk_app1 rfl)) ls st μ
theorem e_L_1595 {L : Nat} {xs : Nat → Int32} (H : ix_Mo (tL_0 L xs)) (Q : ix_R → Prop) (ls : ix_L) (st : List ix_V) (μ : ix_M) : ix_Ev (tL_0 L xs) Q (1595, ls, st, μ) = (ix_xld L xs 1596) (ix_Ev (tL_0 L xs) Q) Q ls st μ := ix_Ev.eqM H ((stL_43 L xs 1595 (by decide)).trans (ix_lk_app1 rfl)) ls st μ
theorem e_L_1596 {L : Nat} {xs : Nat → Int32} (H : ix_Mo (tL_0 L xs)) (Q : ix_R → Prop) (ls : ix_L) (st : List ix_V) (μ : ix_M) : ix_Ev (tL_0 L xs) Q (1596, ls, st, μ) = (oc_X10_count 1599) (ix_Ev (tL_0 L xs) Q) Q ls st μ := ix_Ev.eqM H ((stL_43 L xs 1596 (by decide)).trans (ix_lk_app1 rfl)) ls st μ
theorem e_L_1599 {L : Nat} {xs : Nat → Int32} (H : ix_Mo (tL_0 L xs)) (Q : ix_R → Prop) (ls : ix_L) (st : List ix_V) (μ : ix_M) : ix_Ev (tL_0 L xs) Q (1599, ls, st, μ) = (ix_aload 2 1600) (ix_Ev (tL_0 L xs) Q) Q ls st μ := ix_Ev.eqM H ((stL_43 L xs 1599 (by decide)).trans (ix_lk_app1 rfl)) ls st μ
theorem e_L_1600 {L : Nat} {xs : Nat → Int32} (H : ix_Mo (tL_0 L xs)) (Q : ix_R → Prop) (ls : ix_L) (st : List ix_V) (μ : ix_M) : ix_Ev (tL_0 L xs) Q (1600, ls, st, μ) = (ix_aload 0 1601) (ix_Ev (tL_0 L xs) Q) Q ls st μ := ix_Ev.eqM H ((stL_43 L xs 1600 (by decide)).trans (ix_lk_app1 rfl)) ls st μ
theorem e_L_1601 {L : Nat} {xs : Nat → Int32} (H : ix_Mo (tL_0 L xs)) (Q : ix_R → Prop) (ls : ix_L) (st : List ix_V) (μ : ix_M) : ix_Ev (tL_0 L xs) Q (1601, ls, st, μ) = (ix_iload 3 1602) (ix_Ev (tL_0 L xs) Q) Q ls st μ := ix_Ev.eqM H ((stL_43 L xs 1601 (by decide)).trans (ix_lk_app1 rfl)) ls st μ
theorem e_L_1602 {L : Nat} {xs : Nat → Int32} (H : ix_Mo (tL_0 L xs)) (Q : ix_R → Prop) (ls : ix_L) (st : List ix_V) (μ : ix_M) : ix_Ev (tL_0 L xs) Q (1602, ls, st, μ) = (ix_push (vi 1) 1603) (ix_Ev (tL_0 L xs) Q) Q ls st μ := ix_Ev.eqM H ((stL_43 L xs 1602 (by decide)).trans (ix_lk_app1 rfl)) ls st μ
theorem e_L_1603 {L : Nat} {xs : Nat → Int32} (H : ix_Mo (tL_0 L xs)) (Q : ix_R → Prop) (ls : ix_L) (st : List ix_V) (μ : ix_M) : ix_Ev (tL_0 L xs) Q (1603, ls, st, μ) = (ix_bin (fun x y => x + y) 1604) (ix_Ev (tL_0 L xs) Q) Q ls st μ := ix_Ev.eqM H ((stL_43 L xs 1603 (by decide)).trans (ix_lk_app1 rfl)) ls st μ
theorem e_L_1604 {L : Nat} {xs : Nat → Int32} (H : ix_Mo (tL_0 L xs)) (Q : ix_R → Prop) (ls : ix_L) (st : List ix_V) (μ : ix_M) : ix_Ev (tL_0 L xs) Q (1604, ls, st, μ) = (ix_xld L xs 1605) (ix_Ev (tL_0 L xs) Q) Q ls st μ := ix_Ev.eqM H ((stL_43 L xs 1604 (by decide)).trans (ix_lk_app1 rfl)) ls st μ
theorem e_L_1605 {L : Nat} {xs : Nat → Int32} (H : ix_Mo (tL_0 L xs)) (Q : ix_R → Prop) (ls : ix_L) (st : List ix_V) (μ : ix_M) : ix_Ev (tL_0 L xs) Q (1605, ls, st, μ) = (oc_X11_count 1608) (ix_Ev (tL_0 L xs) Q) Q ls st μ := ix_Ev.eqM H ((stL_43 L xs 1605 (by decide)).trans (ix_lk_app1 rfl)) ls st μ
theorem e_L_1608 {L : Nat} {xs : Nat → Int32} (H : ix_Mo (tL_0 L xs)) (Q : ix_R → Prop) (ls : ix_L) (st : List ix_V) (μ : ix_M) : ix_Ev (tL_0 L xs) Q (1608, ls, st, μ) = (ix_cmp (fun x y => x = y) 1636 1611) (ix_Ev (tL_0 L xs) Q) Q ls st μ := ix_Ev.eqM H ((stL_43 L xs 1608 (by decide)).trans (ix_lk_app1 rfl)) ls st μ
theorem e_L_1611 {L : Nat} {xs : Nat → Int32} (H : ix_Mo (tL_0 L xs)) (Q : ix_R → Prop) (ls : ix_L) (st : List ix_V) (μ : ix_M) : ix_Ev (tL_0 L xs) Q (1611, ls, st, μ) = (ix_push (vi 0) 1612) (ix_Ev (tL_0 L xs) Q) Q ls st μ := ix_Ev.eqM H ((stL_43 L xs 1611 (by decide)).trans (ix_lk_app1 rfl)) ls st μ
theorem e_L_1612 {L : Nat} {xs : Nat → Int32} (H : ix_Mo (tL_0 L xs)) (Q : ix_R → Prop) (ls : ix_L) (st : List ix_V) (μ : ix_M) : ix_Ev (tL_0 L xs) Q (1612, ls, st, μ) = ix_zret (ix_Ev (tL_0 L xs) Q) Q ls st μ := ix_Ev.eqM H ((stL_43 L xs 1612 (by decide)).trans (ix_lk_app1 rfl)) ls st μ
theorem e_L_1613 {L : Nat} {xs : Nat → Int32} (H : ix_Mo (tL_0 L xs)) (Q : ix_R → Prop) (ls : ix_L) (st : List ix_V) (μ : ix_M) : ix_Ev (tL_0 L xs) Q (1613, ls, st, μ) = (ix_aload 1 1614) (ix_Ev (tL_0 L xs) Q) Q ls st μ := ix_Ev.eqM H ((stL_44 L xs 1613 (by decide)).trans (ix_lk_app1 rfl)) ls st μ
theorem e_L_1614 {L : Nat} {xs : Nat → Int32} (H : ix_Mo (tL_0 L xs)) (Q : ix_R → Prop) (ls : ix_L) (st : List ix_V) (μ : ix_M) : ix_Ev (tL_0 L xs) Q (1614, ls, st, μ) = (ix_aload 0 1615) (ix_Ev (tL_0 L xs) Q) Q ls st μ := ix_Ev.eqM H ((stL_44 L xs 1614 (by decide)).trans (ix_lk_app1 rfl)) ls st μ
theorem e_L_1615 {L : Nat} {xs : Nat → Int32} (H : ix_Mo (tL_0 L xs)) (Q : ix_R → Prop) (ls : ix_L) (st : List ix_V) (μ : ix_M) : ix_Ev (tL_0 L xs) Q (1615, ls, st, μ) = (ix_iload 3 1616) (ix_Ev (tL_0 L xs) Q) Q ls st μ := ix_Ev.eqM H ((stL_44 L xs 1615 (by decide)).trans (ix_lk_app1 rfl)) ls st μ
theorem e_L_1616 {L : Nat} {xs : Nat → Int32} (H : ix_Mo (tL_0 L xs)) (Q : ix_R → Prop) (ls : ix_L) (st : List ix_V) (μ : ix_M) : ix_Ev (tL_0 L xs) Q (1616, ls, st, μ) = (ix_push (vi 1) 1617) (ix_Ev (tL_0 L xs) Q) Q ls st μ := ix_Ev.eqM H ((stL_44 L xs 1616 (by decide)).trans (ix_lk_app1 rfl)) ls st μ
theorem e_L_1617 {L : Nat} {xs : Nat → Int32} (H : ix_Mo (tL_0 L xs)) (Q : ix_R → Prop) (ls : ix_L) (st : List ix_V) (μ : ix_M) : ix_Ev (tL_0 L xs) Q (1617, ls, st, μ) = (ix_bin (fun x y => x + y) 1618) (ix_Ev (tL_0 L xs) Q) Q ls st μ := ix_Ev.eqM H ((stL_44 L xs 1617 (by decide)).trans (ix_lk_app1 rfl)) ls st μ
theorem e_L_1618 {L : Nat} {xs : Nat → Int32} (H : ix_Mo (tL_0 L xs)) (Q : ix_R → Prop) (ls : ix_L) (st : List ix_V) (μ : ix_M) : ix_Ev (tL_0 L xs) Q (1618, ls, st, μ) = (ix_xld L xs 1619) (ix_Ev (tL_0 L xs) Q) Q ls st μ := ix_Ev.eqM H ((stL_44 L xs 1618 (by decide)).trans (ix_lk_app1 rfl)) ls st μ
theorem e_L_1619 {L : Nat} {xs : Nat → Int32} (H : ix_Mo (tL_0 L xs)) (Q : ix_R → Prop) (ls : ix_L) (st : List ix_V) (μ : ix_M) : ix_Ev (tL_0 L xs) Q (1619, ls, st, μ) = (oc_X10_told 1622) (ix_Ev (tL_0 L xs) Q) Q ls st μ := ix_Ev.eqM H ((stL_44 L xs 1619 (by decide)).trans (ix_lk_app1 rfl)) ls st μ
theorem e_L_1622 {L : Nat} {xs : Nat → Int32} (H : ix_Mo (tL_0 L xs)) (Q : ix_R → Prop) (ls : ix_L) (st : List ix_V) (μ : ix_M) : ix_Ev (tL_0 L xs) Q (1622, ls, st, μ) = (ix_aload 2 1623) (ix_Ev (tL_0 L xs) Q) Q ls st μ := ix_Ev.eqM H ((stL_44 L xs 1622 (by decide)).trans (ix_lk_app1 rfl)) ls st μ
theorem e_L_1623 {L : Nat} {xs : Nat → Int32} (H : ix_Mo (tL_0 L xs)) (Q : ix_R → Prop) (ls : ix_L) (st : List ix_V) (μ : ix_M) : ix_Ev (tL_0 L xs) Q (1623, ls, st, μ) = (ix_aload 0 1624) (ix_Ev (tL_0 L xs) Q) Q ls st μ := ix_Ev.eqM H ((stL_44 L xs 1623 (by decide)).trans (ix_lk_app1 rfl)) ls st μ
theorem e_L_1624 {L : Nat} {xs : Nat → Int32} (H : ix_Mo (tL_0 L xs)) (Q : ix_R → Prop) (ls : ix_L) (st : List ix_V) (μ : ix_M) : ix_Ev (tL_0 L xs) Q (1624, ls, st, μ) = (ix_iload 3 1625) (ix_Ev (tL_0 L xs) Q) Q ls st μ := ix_Ev.eqM H ((stL_44 L xs 1624 (by decide)).trans (ix_lk_app1 rfl)) ls st μ
theorem e_L_1625 {L : Nat} {xs : Nat → Int32} (H : ix_Mo (tL_0 L xs)) (Q : ix_R → Prop) (ls : ix_L) (st : List ix_V) (μ : ix_M) : ix_Ev (tL_0 L xs) Q (1625, ls, st, μ) = (ix_push (vi 1) 1626) (ix_Ev (tL_0 L xs) Q) Q ls st μ := ix_Ev.eqM H ((stL_44 L xs 1625 (by decide)).trans (ix_lk_app1 rfl)) ls st μ
theorem e_L_1626 {L : Nat} {xs : Nat → Int32} (H : ix_Mo (tL_0 L xs)) (Q : ix_R → Prop) (ls : ix_L) (st : List ix_V) (μ : ix_M) : ix_Ev (tL_0 L xs) Q (1626, ls, st, μ) = (ix_bin (fun x y => x + y) 1627) (ix_Ev (tL_0 L xs) Q) Q ls st μ := ix_Ev.eqM H ((stL_44 L xs 1626 (by decide)).trans (ix_lk_app1 rfl)) ls st μ
theorem e_L_1627 {L : Nat} {xs : Nat → Int32} (H : ix_Mo (tL_0 L xs)) (Q : ix_R → Prop) (ls : ix_L) (st : List ix_V) (μ : ix_M) : ix_Ev (tL_0 L xs) Q (1627, ls, st, μ) = (ix_xld L xs 1628) (ix_Ev (tL_0 L xs) Q) Q ls st μ := ix_Ev.eqM H ((stL_44 L xs 1627 (by decide)).trans (ix_lk_app1 rfl)) ls st μ
theorem e_L_1628 {L : Nat} {xs : Nat → Int32} (H : ix_Mo (tL_0 L xs)) (Q : ix_R → Prop) (ls : ix_L) (st : List ix_V) (μ : ix_M) : ix_Ev (tL_0 L xs) Q (1628, ls, st, μ) = (oc_X11_told 1631) (ix_Ev (tL_0 L xs) Q) Q ls st μ := ix_Ev.eqM H ((stL_44 L xs 1628 (by decide)).trans (ix_lk_app1 rfl)) ls st μ
theorem e_L_1631 {L : Nat} {xs : Nat → Int32} (H : ix_Mo (tL_0 L xs)) (Q : ix_R → Prop) (ls : ix_L) (st : List ix_V) (μ : ix_M) : ix_Ev (tL_0 L xs) Q (1631, ls, st, μ) = (ix_cmp (fun x y => x = y) 1636 1634) (ix_Ev (tL_0 L xs) Q) Q ls st μ := ix_Ev.eqM H ((stL_44 L xs 1631 (by decide)).trans (ix_lk_app1 rfl)) ls st μ
theorem e_L_1634 {L : Nat} {xs : Nat → Int32} (H : ix_Mo (tL_0 L xs)) (Q : ix_R → Prop) (ls : ix_L) (st : List ix_V) (μ : ix_M) : ix_Ev (tL_0 L xs) Q (1634, ls, st, μ) = (ix_push (vi 0) 1635) (ix_Ev (tL_0 L xs) Q) Q ls st μ := ix_Ev.eqM H ((stL_44 L xs 1634 (by decide)).trans (ix_lk_app1 rfl)) ls st μ
theorem e_L_1635 {L : Nat} {xs : Nat → Int32} (H : ix_Mo (tL_0 L xs)) (Q : ix_R → Prop) (ls : ix_L) (st : List ix_V) (μ : ix_M) : ix_Ev (tL_0 L xs) Q (1635, ls, st, μ) = ix_zret (ix_Ev (tL_0 L xs) Q) Q ls st μ := ix_Ev.eqM H ((stL_44 L xs 1635 (by decide)).trans (ix_lk_app1 rfl)) ls st μ
theorem e_L_1636 {L : Nat} {xs : Nat → Int32} (H : ix_Mo (tL_0 L xs)) (Q : ix_R → Prop) (ls : ix_L) (st : List ix_V) (μ : ix_M) : ix_Ev (tL_0 L xs) Q (1636, ls, st, μ) = (ix_iinc 3 6 1639) (ix_Ev (tL_0 L xs) Q) Q ls st μ := ix_Ev.eqM H ((stL_45 L xs 1636 (by decide)).trans (rfl)) ls st μ
theorem e_L_1639 {L : Nat} {xs : Nat → Int32} (H : ix_Mo (tL_0 L xs)) (Q : ix_R → Prop) (ls : ix_L) (st : List ix_V) (μ : ix_M) : ix_Ev (tL_0 L xs) Q (1639, ls, st, μ) = (ix_goto 18) (ix_Ev (tL_0 L xs) Q) Q ls st μ := ix_Ev.eqM H ((stL_45 L xs 1639 (by decide)).trans (rfl)) ls st μ
theorem e_L_1642 {L : Nat} {xs : Nat → Int32} (H : ix_Mo (tL_0 L xs)) (Q : ix_R → Prop) (ls : ix_L) (st : List ix_V) (μ : ix_M) : ix_Ev (tL_0 L xs) Q (1642, ls, st, μ) = (ix_push (vi 1) 1643) (ix_Ev (tL_0 L xs) Q) Q ls st μ := ix_Ev.eqM H ((stL_45 L xs 1642 (by decide)).trans (rfl)) ls st μ
theorem e_L_1643 {L : Nat} {xs : Nat → Int32} (H : ix_Mo (tL_0 L xs)) (Q : ix_R → Prop) (ls : ix_L) (st : List ix_V) (μ : ix_M) : ix_Ev (tL_0 L xs) Q (1643, ls, st, μ) = ix_zret (ix_Ev (tL_0 L xs) Q) Q ls st μ := ix_Ev.eqM H ((stL_45 L xs 1643 (by decide)).trans (rfl)) ls st μ
