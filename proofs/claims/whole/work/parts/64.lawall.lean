theorem zHSn {q : Nat} (h : q < 2 + 1) : (if nI q = 0 then (99 : Int32) else 1) = (if q = 0 then (99 : Int32) else 1) := by
  rcases (show q = 0 ∨ q = 1 ∨ q = 2 by omega) with rfl | rfl | rfl <;> decide
theorem zn_pos9 {n : Nat} (h : n ≤ 6) (h0 : 0 < n) : ¬ nI n = 0 := by
  rcases (show n = 1 ∨ n = 2 ∨ n = 3 ∨ n = 4 ∨ n = 5 ∨ n = 6 by omega) with rfl | rfl | rfl | rfl | rfl | rfl <;> decide
theorem zargl {x : Int32} (h : ¬ x < 33 ∧ ¬ 126 < x) : ∃ v : Nat, 33 ≤ v ∧ v ≤ 126 ∧ x = nI v := by
  rw [Int32.lt_iff_toInt_lt, Int32.lt_iff_toInt_lt, show (33 : Int32).toInt = 33 from rfl, show (126 : Int32).toInt = 126 from rfl] at h
  refine ⟨x.toInt.toNat, by omega, by omega, Int32.toInt.inj ?_⟩
  unfold nI
  rw [Int32.toInt_ofNat_of_lt (by omega)]
  omega
theorem zL_bend {p : Program} {l : Launch} {e : Env} {s : State} {m : MethodId} {below : List Frame} {meth : Method} {c : Code} {b L : Nat} {xs : Nat → Int32} {A : Nat → Prop} {D : va_G} {y : Nat → ClassId} {ad g : Nat → Nat} {o1 o2 i : Nat} {Q : State → Prop} (hC : zLaw p l s m c b L xs A D y) (hk : zGoes p l e s m below meth c b A D y ad g o1 o2 i Q) (hi : 5 * i + 5 ≤ L) (hL : L ≤ 2560) {H : Heap} {locs : List Loc} {ls : Array Slot} {z : zSt} (hI : zInv z) (hP : va_P D vwCl (zWld y ad g o1 o2 z) H) (hD : va_D A (zWld y ad g o1 o2 z)) (hS : va_S A s.heap H locs) (hl : lv_has ls 9 [(0, .ref b), (1, .ref (ad 0)), (2, .ref (g 0)), (3, .ref o1), (4, .ref o2), (5, .int (nI (5 * i)))]) : W p l e room_1 s m #[Value.ref b] below meth c H locs (82 + i) (8871 + 6 * i) Q (F0 m 176 ls []) := by
  obtain ⟨⟨b1, b2, b3, b4, b5⟩, c1, c2, d1, d2, d3⟩ := id hI
  have hn6 := c1.1
  have hS1 := c1.2.1
  by_cases h1 : (¬ (xs (5 * i + 1)) < 0 ∧ ¬ 15 < (xs (5 * i + 1))) ∧ (¬ (xs (5 * i + 2)) < 0 ∧ ¬ 1 < (xs (5 * i + 2)))
  · obtain ⟨v, hqv, hv1⟩ := zarg 15 h1.1 (by decide)
    obtain ⟨q, hqq, hv2⟩ := zarg 1 h1.2 (by decide)
    by_cases h2 : ¬ (xs (5 * i + 3)) < (-99) ∧ ¬ 99 < (xs (5 * i + 3))
    · exact zL_bend_ok (v := v) (q := q) hC hk hi hL hI hP hD hS hl (by first | assumption | omega) (by first | assumption | omega) (by first | assumption | omega) (by first | assumption | omega) (by first | assumption | omega)
    · exact zL_bend_x2 hC hk hi hL hI hP hD hS hl (by first | assumption | omega) (by first | assumption | omega)
  · exact zL_bend_x1 hC hk hi hL hI hP hD hS hl (by first | assumption | omega)

theorem zL_slide {p : Program} {l : Launch} {e : Env} {s : State} {m : MethodId} {below : List Frame} {meth : Method} {c : Code} {b L : Nat} {xs : Nat → Int32} {A : Nat → Prop} {D : va_G} {y : Nat → ClassId} {ad g : Nat → Nat} {o1 o2 i : Nat} {Q : State → Prop} (hC : zLaw p l s m c b L xs A D y) (hk : zGoes p l e s m below meth c b A D y ad g o1 o2 i Q) (hi : 5 * i + 5 ≤ L) (hL : L ≤ 2560) {H : Heap} {locs : List Loc} {ls : Array Slot} {z : zSt} (hI : zInv z) (hP : va_P D vwCl (zWld y ad g o1 o2 z) H) (hD : va_D A (zWld y ad g o1 o2 z)) (hS : va_S A s.heap H locs) (hl : lv_has ls 9 [(0, .ref b), (1, .ref (ad 0)), (2, .ref (g 0)), (3, .ref o1), (4, .ref o2), (5, .int (nI (5 * i)))]) : W p l e room_1 s m #[Value.ref b] below meth c H locs (82 + i) (8871 + 6 * i) Q (F0 m 256 ls []) := by
  obtain ⟨⟨b1, b2, b3, b4, b5⟩, c1, c2, d1, d2, d3⟩ := id hI
  have hn6 := c1.1
  have hS1 := c1.2.1
  by_cases h1 : (¬ (xs (5 * i + 1)) < 0 ∧ ¬ 15 < (xs (5 * i + 1))) ∧ (¬ (xs (5 * i + 2)) < 0 ∧ ¬ 1 < (xs (5 * i + 2)))
  · obtain ⟨v, hqv, hv1⟩ := zarg 15 h1.1 (by decide)
    obtain ⟨q, hqq, hv2⟩ := zarg 1 h1.2 (by decide)
    by_cases h2 : ¬ (xs (5 * i + 3)) < (-99) ∧ ¬ 99 < (xs (5 * i + 3))
    · exact zL_slide_ok (v := v) (q := q) hC hk hi hL hI hP hD hS hl (by first | assumption | omega) (by first | assumption | omega) (by first | assumption | omega) (by first | assumption | omega) (by first | assumption | omega)
    · exact zL_slide_x2 hC hk hi hL hI hP hD hS hl (by first | assumption | omega) (by first | assumption | omega)
  · exact zL_slide_x1 hC hk hi hL hI hP hD hS hl (by first | assumption | omega)

theorem zL_turn {p : Program} {l : Launch} {e : Env} {s : State} {m : MethodId} {below : List Frame} {meth : Method} {c : Code} {b L : Nat} {xs : Nat → Int32} {A : Nat → Prop} {D : va_G} {y : Nat → ClassId} {ad g : Nat → Nat} {o1 o2 i : Nat} {Q : State → Prop} (hC : zLaw p l s m c b L xs A D y) (hk : zGoes p l e s m below meth c b A D y ad g o1 o2 i Q) (hi : 5 * i + 5 ≤ L) (hL : L ≤ 2560) {H : Heap} {locs : List Loc} {ls : Array Slot} {z : zSt} (hI : zInv z) (hP : va_P D vwCl (zWld y ad g o1 o2 z) H) (hD : va_D A (zWld y ad g o1 o2 z)) (hS : va_S A s.heap H locs) (hl : lv_has ls 9 [(0, .ref b), (1, .ref (ad 0)), (2, .ref (g 0)), (3, .ref o1), (4, .ref o2), (5, .int (nI (5 * i)))]) : W p l e room_1 s m #[Value.ref b] below meth c H locs (82 + i) (8871 + 6 * i) Q (F0 m 336 ls []) := by
  obtain ⟨⟨b1, b2, b3, b4, b5⟩, c1, c2, d1, d2, d3⟩ := id hI
  have hn6 := c1.1
  have hS1 := c1.2.1
  by_cases h1 : ¬ (xs (5 * i + 1)) < 0 ∧ ¬ 15 < (xs (5 * i + 1))
  · obtain ⟨v, hqv, hv1⟩ := zarg 15 h1 (by decide)
    by_cases h2 : ¬ (xs (5 * i + 2)) < 0 ∧ ¬ 3 < (xs (5 * i + 2))
    · exact zL_turn_ok (v := v) hC hk hi hL hI hP hD hS hl (by first | assumption | omega) (by first | assumption | omega) (by first | assumption | omega)
    · exact zL_turn_x2 hC hk hi hL hI hP hD hS hl (by first | assumption | omega) (by first | assumption | omega)
  · exact zL_turn_x1 hC hk hi hL hI hP hD hS hl (by first | assumption | omega)

theorem zL_bias {p : Program} {l : Launch} {e : Env} {s : State} {m : MethodId} {below : List Frame} {meth : Method} {c : Code} {b L : Nat} {xs : Nat → Int32} {A : Nat → Prop} {D : va_G} {y : Nat → ClassId} {ad g : Nat → Nat} {o1 o2 i : Nat} {Q : State → Prop} (hC : zLaw p l s m c b L xs A D y) (hk : zGoes p l e s m below meth c b A D y ad g o1 o2 i Q) (hi : 5 * i + 5 ≤ L) (hL : L ≤ 2560) {H : Heap} {locs : List Loc} {ls : Array Slot} {z : zSt} (hI : zInv z) (hP : va_P D vwCl (zWld y ad g o1 o2 z) H) (hD : va_D A (zWld y ad g o1 o2 z)) (hS : va_S A s.heap H locs) (hl : lv_has ls 9 [(0, .ref b), (1, .ref (ad 0)), (2, .ref (g 0)), (3, .ref o1), (4, .ref o2), (5, .int (nI (5 * i)))]) : W p l e room_1 s m #[Value.ref b] below meth c H locs (82 + i) (8871 + 6 * i) Q (F0 m 404 ls []) := by
  obtain ⟨⟨b1, b2, b3, b4, b5⟩, c1, c2, d1, d2, d3⟩ := id hI
  have hn6 := c1.1
  have hS1 := c1.2.1
  by_cases h1 : ¬ (xs (5 * i + 1)) < 0 ∧ ¬ 1 < (xs (5 * i + 1))
  · obtain ⟨q, hqq, hv1⟩ := zarg 1 h1 (by decide)
    by_cases h2 : ¬ (xs (5 * i + 2)) < (-50) ∧ ¬ 50 < (xs (5 * i + 2))
    · exact zL_bias_ok (q := q) hC hk hi hL hI hP hD hS hl (by first | assumption | omega) (by first | assumption | omega) (by first | assumption | omega)
    · exact zL_bias_x2 hC hk hi hL hI hP hD hS hl (by first | assumption | omega) (by first | assumption | omega)
  · exact zL_bias_x1 hC hk hi hL hI hP hD hS hl (by first | assumption | omega)

theorem zL_set {p : Program} {l : Launch} {e : Env} {s : State} {m : MethodId} {below : List Frame} {meth : Method} {c : Code} {b L : Nat} {xs : Nat → Int32} {A : Nat → Prop} {D : va_G} {y : Nat → ClassId} {ad g : Nat → Nat} {o1 o2 i : Nat} {Q : State → Prop} (hC : zLaw p l s m c b L xs A D y) (hk : zGoes p l e s m below meth c b A D y ad g o1 o2 i Q) (hi : 5 * i + 5 ≤ L) (hL : L ≤ 2560) {H : Heap} {locs : List Loc} {ls : Array Slot} {z : zSt} (hI : zInv z) (hP : va_P D vwCl (zWld y ad g o1 o2 z) H) (hD : va_D A (zWld y ad g o1 o2 z)) (hS : va_S A s.heap H locs) (hl : lv_has ls 9 [(0, .ref b), (1, .ref (ad 0)), (2, .ref (g 0)), (3, .ref o1), (4, .ref o2), (5, .int (nI (5 * i)))]) : W p l e room_1 s m #[Value.ref b] below meth c H locs (82 + i) (8871 + 6 * i) Q (F0 m 472 ls []) := by
  obtain ⟨⟨b1, b2, b3, b4, b5⟩, c1, c2, d1, d2, d3⟩ := id hI
  have hn6 := c1.1
  have hS1 := c1.2.1
  by_cases h1 : ¬ (xs (5 * i + 1)) < 0 ∧ ¬ 2 < (xs (5 * i + 1))
  · obtain ⟨q, hqq, hv1⟩ := zarg 2 h1 (by decide)
    by_cases h2 : ¬ (xs (5 * i + 2)) < 0 ∧ ¬ (if (xs (5 * i + 1)) = 0 then (99 : Int32) else 1) < (xs (5 * i + 2))
    · have h3 := h2; rw [hv1, zHSn hqq] at h3
      exact zL_set_ok (q := q) hC hk hi hL hI hP hD hS hl (by first | assumption | omega) (by first | assumption | omega) (by first | assumption | omega)
    · exact zL_set_x2 hC hk hi hL hI hP hD hS hl (by first | assumption | omega) (by first | assumption | omega)
  · exact zL_set_x1 hC hk hi hL hI hP hD hS hl (by first | assumption | omega)

theorem zL_pass {p : Program} {l : Launch} {e : Env} {s : State} {m : MethodId} {below : List Frame} {meth : Method} {c : Code} {b L : Nat} {xs : Nat → Int32} {A : Nat → Prop} {D : va_G} {y : Nat → ClassId} {ad g : Nat → Nat} {o1 o2 i : Nat} {Q : State → Prop} (hC : zLaw p l s m c b L xs A D y) (hk : zGoes p l e s m below meth c b A D y ad g o1 o2 i Q) (hi : 5 * i + 5 ≤ L) (hL : L ≤ 2560) {H : Heap} {locs : List Loc} {ls : Array Slot} {z : zSt} (hI : zInv z) (hP : va_P D vwCl (zWld y ad g o1 o2 z) H) (hD : va_D A (zWld y ad g o1 o2 z)) (hS : va_S A s.heap H locs) (hl : lv_has ls 9 [(0, .ref b), (1, .ref (ad 0)), (2, .ref (g 0)), (3, .ref o1), (4, .ref o2), (5, .int (nI (5 * i)))]) : W p l e room_1 s m #[Value.ref b] below meth c H locs (82 + i) (8871 + 6 * i) Q (F0 m 540 ls []) := by
  obtain ⟨⟨b1, b2, b3, b4, b5⟩, c1, c2, d1, d2, d3⟩ := id hI
  have hn6 := c1.1
  have hS1 := c1.2.1
  by_cases h1 : ¬ (xs (5 * i + 1)) < 1 ∧ ¬ 99 < (xs (5 * i + 1))
  · by_cases h2 : 9999 < z.G 0 + (xs (5 * i + 1))
    · exact zL_pass_x2 hC hk hi hL hI hP hD hS hl (by first | assumption | omega) (by first | assumption | omega)
    · exact zL_pass_ok hC hk hi hL hI hP hD hS hl (by first | assumption | omega) (by first | assumption | omega)
  · exact zL_pass_x1 hC hk hi hL hI hP hD hS hl (by first | assumption | omega)

theorem zL_survey {p : Program} {l : Launch} {e : Env} {s : State} {m : MethodId} {below : List Frame} {meth : Method} {c : Code} {b L : Nat} {xs : Nat → Int32} {A : Nat → Prop} {D : va_G} {y : Nat → ClassId} {ad g : Nat → Nat} {o1 o2 i : Nat} {Q : State → Prop} (hC : zLaw p l s m c b L xs A D y) (hk : zGoes p l e s m below meth c b A D y ad g o1 o2 i Q) (hi : 5 * i + 5 ≤ L) (hL : L ≤ 2560) {H : Heap} {locs : List Loc} {ls : Array Slot} {z : zSt} (hI : zInv z) (hP : va_P D vwCl (zWld y ad g o1 o2 z) H) (hD : va_D A (zWld y ad g o1 o2 z)) (hS : va_S A s.heap H locs) (hl : lv_has ls 9 [(0, .ref b), (1, .ref (ad 0)), (2, .ref (g 0)), (3, .ref o1), (4, .ref o2), (5, .int (nI (5 * i)))]) : W p l e room_1 s m #[Value.ref b] below meth c H locs (82 + i) (8871 + 6 * i) Q (F0 m 596 ls []) := by
  obtain ⟨⟨b1, b2, b3, b4, b5⟩, c1, c2, d1, d2, d3⟩ := id hI
  have hn6 := c1.1
  have hS1 := c1.2.1
  by_cases h1 : z.n < 6
  · exact zL_survey_ok hC hk hi hL hI hP hD hS hl (by first | assumption | omega)
  · have h2 : z.G 1 = 6 := by rw [hS1, show z.n = 6 by omega]; rfl
    exact zL_survey_x1 hC hk hi hL hI hP hD hS hl (by first | assumption | omega)

theorem zL_drop {p : Program} {l : Launch} {e : Env} {s : State} {m : MethodId} {below : List Frame} {meth : Method} {c : Code} {b L : Nat} {xs : Nat → Int32} {A : Nat → Prop} {D : va_G} {y : Nat → ClassId} {ad g : Nat → Nat} {o1 o2 i : Nat} {Q : State → Prop} (hC : zLaw p l s m c b L xs A D y) (hk : zGoes p l e s m below meth c b A D y ad g o1 o2 i Q) (hi : 5 * i + 5 ≤ L) (hL : L ≤ 2560) {H : Heap} {locs : List Loc} {ls : Array Slot} {z : zSt} (hI : zInv z) (hP : va_P D vwCl (zWld y ad g o1 o2 z) H) (hD : va_D A (zWld y ad g o1 o2 z)) (hS : va_S A s.heap H locs) (hl : lv_has ls 9 [(0, .ref b), (1, .ref (ad 0)), (2, .ref (g 0)), (3, .ref o1), (4, .ref o2), (5, .int (nI (5 * i)))]) : W p l e room_1 s m #[Value.ref b] below meth c H locs (82 + i) (8871 + 6 * i) Q (F0 m 640 ls []) := by
  obtain ⟨⟨b1, b2, b3, b4, b5⟩, c1, c2, d1, d2, d3⟩ := id hI
  have hn6 := c1.1
  have hS1 := c1.2.1
  by_cases h1 : 0 < z.n
  · exact zL_drop_ok hC hk hi hL hI hP hD hS hl (by first | assumption | omega)
  · have h2 : z.G 1 = 0 := by rw [hS1, show z.n = 0 by omega]; rfl
    exact zL_drop_x1 hC hk hi hL hI hP hD hS hl (by first | assumption | omega)

theorem zL_spoil {p : Program} {l : Launch} {e : Env} {s : State} {m : MethodId} {below : List Frame} {meth : Method} {c : Code} {b L : Nat} {xs : Nat → Int32} {A : Nat → Prop} {D : va_G} {y : Nat → ClassId} {ad g : Nat → Nat} {o1 o2 i : Nat} {Q : State → Prop} (hC : zLaw p l s m c b L xs A D y) (hk : zGoes p l e s m below meth c b A D y ad g o1 o2 i Q) (hi : 5 * i + 5 ≤ L) (hL : L ≤ 2560) {H : Heap} {locs : List Loc} {ls : Array Slot} {z : zSt} (hI : zInv z) (hP : va_P D vwCl (zWld y ad g o1 o2 z) H) (hD : va_D A (zWld y ad g o1 o2 z)) (hS : va_S A s.heap H locs) (hl : lv_has ls 9 [(0, .ref b), (1, .ref (ad 0)), (2, .ref (g 0)), (3, .ref o1), (4, .ref o2), (5, .int (nI (5 * i)))]) : W p l e room_1 s m #[Value.ref b] below meth c H locs (82 + i) (8871 + 6 * i) Q (F0 m 684 ls []) := by
  obtain ⟨⟨b1, b2, b3, b4, b5⟩, c1, c2, d1, d2, d3⟩ := id hI
  have hn6 := c1.1
  have hS1 := c1.2.1
  by_cases h1 : (¬ (xs (5 * i + 1)) < 0 ∧ ¬ 15 < (xs (5 * i + 1))) ∧ (¬ (xs (5 * i + 2)) < 0 ∧ ¬ 1 < (xs (5 * i + 2))) ∧ (¬ (xs (5 * i + 3)) < 0 ∧ ¬ 1 < (xs (5 * i + 3)))
  · obtain ⟨v, hqv, hv1⟩ := zarg 15 h1.1 (by decide)
    obtain ⟨q, hqq, hv2⟩ := zarg 1 h1.2.1 (by decide)
    obtain ⟨f, hqf, hv3⟩ := zarg 1 h1.2.2 (by decide)
    by_cases h2 : ¬ (xs (5 * i + 4)) < (-99) ∧ ¬ 99 < (xs (5 * i + 4))
    · by_cases h3 : 0 < z.n ∧ (¬ (z.G (58 + 65 * (z.n - 1) + 4 * v + 2 * q + f) + (xs (5 * i + 4))) < (-900) ∧ ¬ 900 < (z.G (58 + 65 * (z.n - 1) + 4 * v + 2 * q + f) + (xs (5 * i + 4))))
      · have h4 := h3.1
        have h5 := h3.2
        exact zL_spoil_ok (v := v) (q := q) (f := f) hC hk hi hL hI hP hD hS hl (by first | assumption | omega) (by first | assumption | omega) (by first | assumption | omega) (by first | assumption | omega) (by first | assumption | omega) (by first | assumption | omega) (by first | assumption | omega) (by first | assumption | omega) (by first | assumption | omega)
      · exact zL_spoil_x3 (v := v) (q := q) (f := f) hC hk hi hL hI hP hD hS hl (by first | assumption | omega) (by first | assumption | omega) (by first | assumption | omega) (by first | assumption | omega) (by first | assumption | omega) (by first | assumption | omega) (by first | assumption | omega) (by first | assumption | omega)
    · exact zL_spoil_x2 (v := v) (q := q) (f := f) hC hk hi hL hI hP hD hS hl (by first | assumption | omega) (by first | assumption | omega) (by first | assumption | omega) (by first | assumption | omega) (by first | assumption | omega) (by first | assumption | omega) (by first | assumption | omega)
  · exact zL_spoil_x1 hC hk hi hL hI hP hD hS hl (by first | assumption | omega)

theorem zL_append {p : Program} {l : Launch} {e : Env} {s : State} {m : MethodId} {below : List Frame} {meth : Method} {c : Code} {b L : Nat} {xs : Nat → Int32} {A : Nat → Prop} {D : va_G} {y : Nat → ClassId} {ad g : Nat → Nat} {o1 o2 i : Nat} {Q : State → Prop} (hC : zLaw p l s m c b L xs A D y) (hk : zGoes p l e s m below meth c b A D y ad g o1 o2 i Q) (hi : 5 * i + 5 ≤ L) (hL : L ≤ 2560) {H : Heap} {locs : List Loc} {ls : Array Slot} {z : zSt} (hI : zInv z) (hP : va_P D vwCl (zWld y ad g o1 o2 z) H) (hD : va_D A (zWld y ad g o1 o2 z)) (hS : va_S A s.heap H locs) (hl : lv_has ls 9 [(0, .ref b), (1, .ref (ad 0)), (2, .ref (g 0)), (3, .ref o1), (4, .ref o2), (5, .int (nI (5 * i)))]) : W p l e room_1 s m #[Value.ref b] below meth c H locs (82 + i) (8871 + 6 * i) Q (F0 m 776 ls []) := by
  obtain ⟨⟨b1, b2, b3, b4, b5⟩, c1, c2, d1, d2, d3⟩ := id hI
  have hn6 := c1.1
  have hS1 := c1.2.1
  by_cases h1 : ¬ (xs (5 * i + 1)) < 33 ∧ ¬ 126 < (xs (5 * i + 1))
  · obtain ⟨v, hlo, hup, hv1⟩ := zargl h1
    by_cases h2 : z.ln < 60
    · exact zL_append_ok (v := v) hC hk hi hL hI hP hD hS hl (by first | assumption | omega) (by first | assumption | omega) (by first | assumption | omega) (by first | assumption | omega)
    · exact zL_append_x2 hC hk hi hL hI hP hD hS hl (by first | assumption | omega) (by first | assumption | omega)
  · exact zL_append_x1 hC hk hi hL hI hP hD hS hl (by first | assumption | omega)

theorem zL_clearBuffer {p : Program} {l : Launch} {e : Env} {s : State} {m : MethodId} {below : List Frame} {meth : Method} {c : Code} {b L : Nat} {xs : Nat → Int32} {A : Nat → Prop} {D : va_G} {y : Nat → ClassId} {ad g : Nat → Nat} {o1 o2 i : Nat} {Q : State → Prop} (hC : zLaw p l s m c b L xs A D y) (hk : zGoes p l e s m below meth c b A D y ad g o1 o2 i Q) (hi : 5 * i + 5 ≤ L) (hL : L ≤ 2560) {H : Heap} {locs : List Loc} {ls : Array Slot} {z : zSt} (hI : zInv z) (hP : va_P D vwCl (zWld y ad g o1 o2 z) H) (hD : va_D A (zWld y ad g o1 o2 z)) (hS : va_S A s.heap H locs) (hl : lv_has ls 9 [(0, .ref b), (1, .ref (ad 0)), (2, .ref (g 0)), (3, .ref o1), (4, .ref o2), (5, .int (nI (5 * i)))]) : W p l e room_1 s m #[Value.ref b] below meth c H locs (82 + i) (8871 + 6 * i) Q (F0 m 832 ls []) := by
  obtain ⟨⟨b1, b2, b3, b4, b5⟩, c1, c2, d1, d2, d3⟩ := id hI
  have hn6 := c1.1
  have hS1 := c1.2.1
  exact zL_clearBuffer_ok hC hk hi hL hI hP hD hS hl

theorem zL_firstError {p : Program} {l : Launch} {e : Env} {s : State} {m : MethodId} {below : List Frame} {meth : Method} {c : Code} {b L : Nat} {xs : Nat → Int32} {A : Nat → Prop} {D : va_G} {y : Nat → ClassId} {ad g : Nat → Nat} {o1 o2 i : Nat} {Q : State → Prop} (hC : zLaw p l s m c b L xs A D y) (hk : zGoes p l e s m below meth c b A D y ad g o1 o2 i Q) (hi : 5 * i + 5 ≤ L) (hL : L ≤ 2560) {H : Heap} {locs : List Loc} {ls : Array Slot} {z : zSt} (hI : zInv z) (hP : va_P D vwCl (zWld y ad g o1 o2 z) H) (hD : va_D A (zWld y ad g o1 o2 z)) (hS : va_S A s.heap H locs) (hl : lv_has ls 9 [(0, .ref b), (1, .ref (ad 0)), (2, .ref (g 0)), (3, .ref o1), (4, .ref o2), (5, .int (nI (5 * i)))]) : W p l e room_1 s m #[Value.ref b] below meth c H locs (82 + i) (8871 + 6 * i) Q (F0 m 845 ls []) := by
  obtain ⟨⟨b1, b2, b3, b4, b5⟩, c1, c2, d1, d2, d3⟩ := id hI
  have hn6 := c1.1
  have hS1 := c1.2.1
  exact zL_firstError_ok hC hk hi hL hI hP hD hS hl

theorem zL_digest {p : Program} {l : Launch} {e : Env} {s : State} {m : MethodId} {below : List Frame} {meth : Method} {c : Code} {b L : Nat} {xs : Nat → Int32} {A : Nat → Prop} {D : va_G} {y : Nat → ClassId} {ad g : Nat → Nat} {o1 o2 i : Nat} {Q : State → Prop} (hC : zLaw p l s m c b L xs A D y) (hk : zGoes p l e s m below meth c b A D y ad g o1 o2 i Q) (hi : 5 * i + 5 ≤ L) (hL : L ≤ 2560) {H : Heap} {locs : List Loc} {ls : Array Slot} {z : zSt} (hI : zInv z) (hP : va_P D vwCl (zWld y ad g o1 o2 z) H) (hD : va_D A (zWld y ad g o1 o2 z)) (hS : va_S A s.heap H locs) (hl : lv_has ls 9 [(0, .ref b), (1, .ref (ad 0)), (2, .ref (g 0)), (3, .ref o1), (4, .ref o2), (5, .int (nI (5 * i)))]) : W p l e room_1 s m #[Value.ref b] below meth c H locs (82 + i) (8871 + 6 * i) Q (F0 m 2034 ls []) := by
  obtain ⟨⟨b1, b2, b3, b4, b5⟩, c1, c2, d1, d2, d3⟩ := id hI
  have hn6 := c1.1
  have hS1 := c1.2.1
  exact zL_digest_ok hC hk hi hL hI hP hD hS hl

theorem zL_load {p : Program} {l : Launch} {e : Env} {s : State} {m : MethodId} {below : List Frame} {meth : Method} {c : Code} {b L : Nat} {xs : Nat → Int32} {A : Nat → Prop} {D : va_G} {y : Nat → ClassId} {ad g : Nat → Nat} {o1 o2 i : Nat} {Q : State → Prop} (hC : zLaw p l s m c b L xs A D y) (hk : zGoes p l e s m below meth c b A D y ad g o1 o2 i Q) (hi : 5 * i + 5 ≤ L) (hL : L ≤ 2560) {H : Heap} {locs : List Loc} {ls : Array Slot} {z : zSt} (hI : zInv z) (hP : va_P D vwCl (zWld y ad g o1 o2 z) H) (hD : va_D A (zWld y ad g o1 o2 z)) (hS : va_S A s.heap H locs) (hl : lv_has ls 9 [(0, .ref b), (1, .ref (ad 0)), (2, .ref (g 0)), (3, .ref o1), (4, .ref o2), (5, .int (nI (5 * i)))]) : W p l e room_1 s m #[Value.ref b] below meth c H locs (82 + i) (8871 + 6 * i) Q (F0 m 858 ls []) := by
  obtain ⟨⟨b1, b2, b3, b4, b5⟩, c1, c2, d1, d2, d3⟩ := id hI
  have hn6 := c1.1
  have hS1 := c1.2.1
  by_cases h1 : 0 < z.n
  · have h3 : ¬ z.G 1 = 0 := by rw [hS1]; exact zn_pos9 (by omega) h1
    by_cases h2 : rErr z.tx z0 z.ln z.ln ∧ rRun z.tx z0 z.ln 0 = 6
    · have h4 := h2.1
      have h5 := h2.2
      exact zL_load_ok hC hk hi hL hI hP hD hS hl (by first | assumption | omega) (by first | assumption | omega) (by first | assumption | omega)
    · exact zL_load_x2 hC hk hi hL hI hP hD hS hl (by first | assumption | omega) (by first | assumption | omega) (by first | assumption | omega)
  · have h2 : z.G 1 = 0 := by rw [hS1, show z.n = 0 by omega]; rfl
    exact zL_load_x1 hC hk hi hL hI hP hD hS hl (by first | assumption | omega)

theorem zL_keep {p : Program} {l : Launch} {e : Env} {s : State} {m : MethodId} {below : List Frame} {meth : Method} {c : Code} {b L : Nat} {xs : Nat → Int32} {A : Nat → Prop} {D : va_G} {y : Nat → ClassId} {ad g : Nat → Nat} {o1 o2 i : Nat} {Q : State → Prop} (hC : zLaw p l s m c b L xs A D y) (hk : zGoes p l e s m below meth c b A D y ad g o1 o2 i Q) (hi : 5 * i + 5 ≤ L) (hL : L ≤ 2560) {H : Heap} {locs : List Loc} {ls : Array Slot} {z : zSt} (hI : zInv z) (hP : va_P D vwCl (zWld y ad g o1 o2 z) H) (hD : va_D A (zWld y ad g o1 o2 z)) (hS : va_S A s.heap H locs) (hl : lv_has ls 9 [(0, .ref b), (1, .ref (ad 0)), (2, .ref (g 0)), (3, .ref o1), (4, .ref o2), (5, .int (nI (5 * i)))]) : W p l e room_1 s m #[Value.ref b] below meth c H locs (82 + i) (8871 + 6 * i) Q (F0 m 902 ls []) := by
  obtain ⟨⟨b1, b2, b3, b4, b5⟩, c1, c2, d1, d2, d3⟩ := id hI
  have hn6 := c1.1
  have hS1 := c1.2.1
  by_cases h1 : ¬ (xs (5 * i + 1)) < 0 ∧ ¬ 1 < (xs (5 * i + 1))
  · obtain ⟨v, hqv, hv1⟩ := zarg 1 h1 (by decide)
    exact zL_keep_ok (v := v) hC hk hi hL hI hP hD hS hl (by first | assumption | omega) (by first | assumption | omega)
  · exact zL_keep_x1 hC hk hi hL hI hP hD hS hl (by first | assumption | omega)

theorem zL_goBack {p : Program} {l : Launch} {e : Env} {s : State} {m : MethodId} {below : List Frame} {meth : Method} {c : Code} {b L : Nat} {xs : Nat → Int32} {A : Nat → Prop} {D : va_G} {y : Nat → ClassId} {ad g : Nat → Nat} {o1 o2 i : Nat} {Q : State → Prop} (hC : zLaw p l s m c b L xs A D y) (hk : zGoes p l e s m below meth c b A D y ad g o1 o2 i Q) (hi : 5 * i + 5 ≤ L) (hL : L ≤ 2560) {H : Heap} {locs : List Loc} {ls : Array Slot} {z : zSt} (hI : zInv z) (hP : va_P D vwCl (zWld y ad g o1 o2 z) H) (hD : va_D A (zWld y ad g o1 o2 z)) (hS : va_S A s.heap H locs) (hl : lv_has ls 9 [(0, .ref b), (1, .ref (ad 0)), (2, .ref (g 0)), (3, .ref o1), (4, .ref o2), (5, .int (nI (5 * i)))]) : W p l e room_1 s m #[Value.ref b] below meth c H locs (82 + i) (8871 + 6 * i) Q (F0 m 958 ls []) := by
  obtain ⟨⟨b1, b2, b3, b4, b5⟩, c1, c2, d1, d2, d3⟩ := id hI
  have hn6 := c1.1
  have hS1 := c1.2.1
  by_cases h1 : ¬ (xs (5 * i + 1)) < 0 ∧ ¬ 1 < (xs (5 * i + 1))
  · obtain ⟨v, hqv, hv1⟩ := zarg 1 h1 (by decide)
    by_cases h2 : z.hd v = 0
    · exact zL_goBack_x2 (j := v) hC hk hi hL hI hP hD hS hl (by first | assumption | omega) (by first | assumption | omega) (by first | assumption | omega)
    · exact zL_goBack_ok (v := v) hC hk hi hL hI hP hD hS hl (by first | assumption | omega) (by first | assumption | omega) (by first | assumption | omega)
  · exact zL_goBack_x1 hC hk hi hL hI hP hD hS hl (by first | assumption | omega)

theorem zL_undo {p : Program} {l : Launch} {e : Env} {s : State} {m : MethodId} {below : List Frame} {meth : Method} {c : Code} {b L : Nat} {xs : Nat → Int32} {A : Nat → Prop} {D : va_G} {y : Nat → ClassId} {ad g : Nat → Nat} {o1 o2 i : Nat} {Q : State → Prop} (hC : zLaw p l s m c b L xs A D y) (hk : zGoes p l e s m below meth c b A D y ad g o1 o2 i Q) (hi : 5 * i + 5 ≤ L) (hL : L ≤ 2560) {H : Heap} {locs : List Loc} {ls : Array Slot} {z : zSt} (hI : zInv z) (hP : va_P D vwCl (zWld y ad g o1 o2 z) H) (hD : va_D A (zWld y ad g o1 o2 z)) (hS : va_S A s.heap H locs) (hl : lv_has ls 9 [(0, .ref b), (1, .ref (ad 0)), (2, .ref (g 0)), (3, .ref o1), (4, .ref o2), (5, .int (nI (5 * i)))]) : W p l e room_1 s m #[Value.ref b] below meth c H locs (82 + i) (8871 + 6 * i) Q (F0 m 1014 ls []) := by
  obtain ⟨⟨b1, b2, b3, b4, b5⟩, c1, c2, d1, d2, d3⟩ := id hI
  have hn6 := c1.1
  have hS1 := c1.2.1
  by_cases h1 : 0 < z.rv
  · exact zL_undo_ok hC hk hi hL hI hP hD hS hl (by first | assumption | omega)
  · have h2 : z.rv = 0 := by omega
    exact zL_undo_x1 hC hk hi hL hI hP hD hS hl (by first | assumption | omega)

theorem zL_levelOf {p : Program} {l : Launch} {e : Env} {s : State} {m : MethodId} {below : List Frame} {meth : Method} {c : Code} {b L : Nat} {xs : Nat → Int32} {A : Nat → Prop} {D : va_G} {y : Nat → ClassId} {ad g : Nat → Nat} {o1 o2 i : Nat} {Q : State → Prop} (hC : zLaw p l s m c b L xs A D y) (hk : zGoes p l e s m below meth c b A D y ad g o1 o2 i Q) (hi : 5 * i + 5 ≤ L) (hL : L ≤ 2560) {H : Heap} {locs : List Loc} {ls : Array Slot} {z : zSt} (hI : zInv z) (hP : va_P D vwCl (zWld y ad g o1 o2 z) H) (hD : va_D A (zWld y ad g o1 o2 z)) (hS : va_S A s.heap H locs) (hl : lv_has ls 9 [(0, .ref b), (1, .ref (ad 0)), (2, .ref (g 0)), (3, .ref o1), (4, .ref o2), (5, .int (nI (5 * i)))]) : W p l e room_1 s m #[Value.ref b] below meth c H locs (82 + i) (8871 + 6 * i) Q (F0 m 1058 ls []) := by
  obtain ⟨⟨b1, b2, b3, b4, b5⟩, c1, c2, d1, d2, d3⟩ := id hI
  have hn6 := c1.1
  have hS1 := c1.2.1
  by_cases h1 : ¬ (xs (5 * i + 1)) < 0 ∧ ¬ 15 < (xs (5 * i + 1))
  · by_cases h2 : ¬ (xs (5 * i + 2)) < 0 ∧ ¬ 6 < (xs (5 * i + 2))
    · obtain ⟨v, hqv, hv1⟩ := zarg 15 h1 (by decide)
      obtain ⟨w9, hqw9, hv2⟩ := zarg 6 h2 (by decide)
      exact zL_levelOf_ok (v := v) (w9 := w9) hC hk hi hL hI hP hD hS hl (by first | assumption | omega) (by first | assumption | omega) (by first | assumption | omega) (by first | assumption | omega)
    · exact zL_levelOf_x2 hC hk hi hL hI hP hD hS hl (by first | assumption | omega) (by first | assumption | omega)
  · exact zL_levelOf_x1 hC hk hi hL hI hP hD hS hl (by first | assumption | omega)

theorem zL_reading {p : Program} {l : Launch} {e : Env} {s : State} {m : MethodId} {below : List Frame} {meth : Method} {c : Code} {b L : Nat} {xs : Nat → Int32} {A : Nat → Prop} {D : va_G} {y : Nat → ClassId} {ad g : Nat → Nat} {o1 o2 i : Nat} {Q : State → Prop} (hC : zLaw p l s m c b L xs A D y) (hk : zGoes p l e s m below meth c b A D y ad g o1 o2 i Q) (hi : 5 * i + 5 ≤ L) (hL : L ≤ 2560) {H : Heap} {locs : List Loc} {ls : Array Slot} {z : zSt} (hI : zInv z) (hP : va_P D vwCl (zWld y ad g o1 o2 z) H) (hD : va_D A (zWld y ad g o1 o2 z)) (hS : va_S A s.heap H locs) (hl : lv_has ls 9 [(0, .ref b), (1, .ref (ad 0)), (2, .ref (g 0)), (3, .ref o1), (4, .ref o2), (5, .int (nI (5 * i)))]) : W p l e room_1 s m #[Value.ref b] below meth c H locs (82 + i) (8871 + 6 * i) Q (F0 m 1126 ls []) := by
  obtain ⟨⟨b1, b2, b3, b4, b5⟩, c1, c2, d1, d2, d3⟩ := id hI
  have hn6 := c1.1
  have hS1 := c1.2.1
  by_cases h1 : (¬ (xs (5 * i + 1)) < 0 ∧ ¬ (z.G 1 - 1) < (xs (5 * i + 1))) ∧ (¬ (xs (5 * i + 2)) < 0 ∧ ¬ 15 < (xs (5 * i + 2))) ∧ (¬ (xs (5 * i + 3)) < 0 ∧ ¬ 1 < (xs (5 * i + 3)))
  · by_cases h2 : ¬ (xs (5 * i + 4)) < 0 ∧ ¬ 5 < (xs (5 * i + 4))
    · obtain ⟨k, hqk, hv1⟩ := zargs hS1 hn6 h1.1
      obtain ⟨v, hqv, hv2⟩ := zarg 15 h1.2.1 (by decide)
      obtain ⟨o, hqo, hv3⟩ := zarg 1 h1.2.2 (by decide)
      obtain ⟨w9, hqw9, hv4⟩ := zarg 5 h2 (by decide)
      exact zL_reading_ok (k := k) (v := v) (o := o) (w9 := w9) hC hk hi hL hI hP hD hS hl (by first | assumption | omega) (by first | assumption | omega) (by first | assumption | omega) (by first | assumption | omega) (by first | assumption | omega) (by first | assumption | omega) (by first | assumption | omega) (by first | assumption | omega)
    · exact zL_reading_x2 hC hk hi hL hI hP hD hS hl (by first | assumption | omega) (by first | assumption | omega)
  · exact zL_reading_x1 hC hk hi hL hI hP hD hS hl (by first | assumption | omega)

theorem zL_place {p : Program} {l : Launch} {e : Env} {s : State} {m : MethodId} {below : List Frame} {meth : Method} {c : Code} {b L : Nat} {xs : Nat → Int32} {A : Nat → Prop} {D : va_G} {y : Nat → ClassId} {ad g : Nat → Nat} {o1 o2 i : Nat} {Q : State → Prop} (hC : zLaw p l s m c b L xs A D y) (hk : zGoes p l e s m below meth c b A D y ad g o1 o2 i Q) (hi : 5 * i + 5 ≤ L) (hL : L ≤ 2560) {H : Heap} {locs : List Loc} {ls : Array Slot} {z : zSt} (hI : zInv z) (hP : va_P D vwCl (zWld y ad g o1 o2 z) H) (hD : va_D A (zWld y ad g o1 o2 z)) (hS : va_S A s.heap H locs) (hl : lv_has ls 9 [(0, .ref b), (1, .ref (ad 0)), (2, .ref (g 0)), (3, .ref o1), (4, .ref o2), (5, .int (nI (5 * i)))]) : W p l e room_1 s m #[Value.ref b] below meth c H locs (82 + i) (8871 + 6 * i) Q (F0 m 1286 ls []) := by
  obtain ⟨⟨b1, b2, b3, b4, b5⟩, c1, c2, d1, d2, d3⟩ := id hI
  have hn6 := c1.1
  have hS1 := c1.2.1
  by_cases h1 : (¬ (xs (5 * i + 1)) < 0 ∧ ¬ (z.G 1 - 1) < (xs (5 * i + 1))) ∧ (¬ (xs (5 * i + 2)) < 0 ∧ ¬ 15 < (xs (5 * i + 2))) ∧ (¬ (xs (5 * i + 3)) < 0 ∧ ¬ 1 < (xs (5 * i + 3)))
  · by_cases h2 : ¬ (xs (5 * i + 4)) < 0 ∧ ¬ 1 < (xs (5 * i + 4))
    · obtain ⟨k, hqk, hv1⟩ := zargs hS1 hn6 h1.1
      obtain ⟨v, hqv, hv2⟩ := zarg 15 h1.2.1 (by decide)
      obtain ⟨o, hqo, hv3⟩ := zarg 1 h1.2.2 (by decide)
      obtain ⟨w9, hqw9, hv4⟩ := zarg 1 h2 (by decide)
      exact zL_place_ok (k := k) (v := v) (o := o) (w9 := w9) hC hk hi hL hI hP hD hS hl (by first | assumption | omega) (by first | assumption | omega) (by first | assumption | omega) (by first | assumption | omega) (by first | assumption | omega) (by first | assumption | omega) (by first | assumption | omega) (by first | assumption | omega)
    · exact zL_place_x2 hC hk hi hL hI hP hD hS hl (by first | assumption | omega) (by first | assumption | omega)
  · exact zL_place_x1 hC hk hi hL hI hP hD hS hl (by first | assumption | omega)

theorem zL_surveyOf {p : Program} {l : Launch} {e : Env} {s : State} {m : MethodId} {below : List Frame} {meth : Method} {c : Code} {b L : Nat} {xs : Nat → Int32} {A : Nat → Prop} {D : va_G} {y : Nat → ClassId} {ad g : Nat → Nat} {o1 o2 i : Nat} {Q : State → Prop} (hC : zLaw p l s m c b L xs A D y) (hk : zGoes p l e s m below meth c b A D y ad g o1 o2 i Q) (hi : 5 * i + 5 ≤ L) (hL : L ≤ 2560) {H : Heap} {locs : List Loc} {ls : Array Slot} {z : zSt} (hI : zInv z) (hP : va_P D vwCl (zWld y ad g o1 o2 z) H) (hD : va_D A (zWld y ad g o1 o2 z)) (hS : va_S A s.heap H locs) (hl : lv_has ls 9 [(0, .ref b), (1, .ref (ad 0)), (2, .ref (g 0)), (3, .ref o1), (4, .ref o2), (5, .int (nI (5 * i)))]) : W p l e room_1 s m #[Value.ref b] below meth c H locs (82 + i) (8871 + 6 * i) Q (F0 m 1218 ls []) := by
  obtain ⟨⟨b1, b2, b3, b4, b5⟩, c1, c2, d1, d2, d3⟩ := id hI
  have hn6 := c1.1
  have hS1 := c1.2.1
  by_cases h1 : ¬ (xs (5 * i + 1)) < 0 ∧ ¬ (z.G 1 - 1) < (xs (5 * i + 1))
  · by_cases h2 : ¬ (xs (5 * i + 2)) < 0 ∧ ¬ 4 < (xs (5 * i + 2))
    · obtain ⟨k, hqk, hv1⟩ := zargs hS1 hn6 h1
      obtain ⟨w9, hqw9, hv2⟩ := zarg 4 h2 (by decide)
      exact zL_surveyOf_ok (k := k) (w9 := w9) hC hk hi hL hI hP hD hS hl (by first | assumption | omega) (by first | assumption | omega) (by first | assumption | omega) (by first | assumption | omega)
    · exact zL_surveyOf_x2 hC hk hi hL hI hP hD hS hl (by first | assumption | omega) (by first | assumption | omega)
  · exact zL_surveyOf_x1 hC hk hi hL hI hP hD hS hl (by first | assumption | omega)

theorem zL_count {p : Program} {l : Launch} {e : Env} {s : State} {m : MethodId} {below : List Frame} {meth : Method} {c : Code} {b L : Nat} {xs : Nat → Int32} {A : Nat → Prop} {D : va_G} {y : Nat → ClassId} {ad g : Nat → Nat} {o1 o2 i : Nat} {Q : State → Prop} (hC : zLaw p l s m c b L xs A D y) (hk : zGoes p l e s m below meth c b A D y ad g o1 o2 i Q) (hi : 5 * i + 5 ≤ L) (hL : L ≤ 2560) {H : Heap} {locs : List Loc} {ls : Array Slot} {z : zSt} (hI : zInv z) (hP : va_P D vwCl (zWld y ad g o1 o2 z) H) (hD : va_D A (zWld y ad g o1 o2 z)) (hS : va_S A s.heap H locs) (hl : lv_has ls 9 [(0, .ref b), (1, .ref (ad 0)), (2, .ref (g 0)), (3, .ref o1), (4, .ref o2), (5, .int (nI (5 * i)))]) : W p l e room_1 s m #[Value.ref b] below meth c H locs (82 + i) (8871 + 6 * i) Q (F0 m 1378 ls []) := by
  obtain ⟨⟨b1, b2, b3, b4, b5⟩, c1, c2, d1, d2, d3⟩ := id hI
  have hn6 := c1.1
  have hS1 := c1.2.1
  by_cases h1 : ¬ (xs (5 * i + 1)) < 0 ∧ ¬ 7 < (xs (5 * i + 1))
  · obtain ⟨w9, hqw9, hv1⟩ := zarg 7 h1 (by decide)
    exact zL_count_ok (w9 := w9) hC hk hi hL hI hP hD hS hl (by first | assumption | omega) (by first | assumption | omega)
  · exact zL_count_x1 hC hk hi hL hI hP hD hS hl (by first | assumption | omega)

theorem zL_setting {p : Program} {l : Launch} {e : Env} {s : State} {m : MethodId} {below : List Frame} {meth : Method} {c : Code} {b L : Nat} {xs : Nat → Int32} {A : Nat → Prop} {D : va_G} {y : Nat → ClassId} {ad g : Nat → Nat} {o1 o2 i : Nat} {Q : State → Prop} (hC : zLaw p l s m c b L xs A D y) (hk : zGoes p l e s m below meth c b A D y ad g o1 o2 i Q) (hi : 5 * i + 5 ≤ L) (hL : L ≤ 2560) {H : Heap} {locs : List Loc} {ls : Array Slot} {z : zSt} (hI : zInv z) (hP : va_P D vwCl (zWld y ad g o1 o2 z) H) (hD : va_D A (zWld y ad g o1 o2 z)) (hS : va_S A s.heap H locs) (hl : lv_has ls 9 [(0, .ref b), (1, .ref (ad 0)), (2, .ref (g 0)), (3, .ref o1), (4, .ref o2), (5, .int (nI (5 * i)))]) : W p l e room_1 s m #[Value.ref b] below meth c H locs (82 + i) (8871 + 6 * i) Q (F0 m 1434 ls []) := by
  obtain ⟨⟨b1, b2, b3, b4, b5⟩, c1, c2, d1, d2, d3⟩ := id hI
  have hn6 := c1.1
  have hS1 := c1.2.1
  by_cases h1 : ¬ (xs (5 * i + 1)) < 0 ∧ ¬ 2 < (xs (5 * i + 1))
  · obtain ⟨q, hqq, hv1⟩ := zarg 2 h1 (by decide)
    exact zL_setting_ok (q := q) hC hk hi hL hI hP hD hS hl (by first | assumption | omega) (by first | assumption | omega)
  · exact zL_setting_x1 hC hk hi hL hI hP hD hS hl (by first | assumption | omega)

theorem zL_moved {p : Program} {l : Launch} {e : Env} {s : State} {m : MethodId} {below : List Frame} {meth : Method} {c : Code} {b L : Nat} {xs : Nat → Int32} {A : Nat → Prop} {D : va_G} {y : Nat → ClassId} {ad g : Nat → Nat} {o1 o2 i : Nat} {Q : State → Prop} (hC : zLaw p l s m c b L xs A D y) (hk : zGoes p l e s m below meth c b A D y ad g o1 o2 i Q) (hi : 5 * i + 5 ≤ L) (hL : L ≤ 2560) {H : Heap} {locs : List Loc} {ls : Array Slot} {z : zSt} (hI : zInv z) (hP : va_P D vwCl (zWld y ad g o1 o2 z) H) (hD : va_D A (zWld y ad g o1 o2 z)) (hS : va_S A s.heap H locs) (hl : lv_has ls 9 [(0, .ref b), (1, .ref (ad 0)), (2, .ref (g 0)), (3, .ref o1), (4, .ref o2), (5, .int (nI (5 * i)))]) : W p l e room_1 s m #[Value.ref b] below meth c H locs (82 + i) (8871 + 6 * i) Q (F0 m 1490 ls []) := by
  obtain ⟨⟨b1, b2, b3, b4, b5⟩, c1, c2, d1, d2, d3⟩ := id hI
  have hn6 := c1.1
  have hS1 := c1.2.1
  by_cases h1 : ((¬ (xs (5 * i + 1)) < 0 ∧ ¬ (z.G 1 - 1) < (xs (5 * i + 1))) ∧ (¬ (xs (5 * i + 2)) < 0 ∧ ¬ (z.G 1 - 1) < (xs (5 * i + 2))) ∧ (¬ (xs (5 * i + 4)) < 0 ∧ ¬ 1 < (xs (5 * i + 4)))) ∧ (¬ (xs (5 * i + 3)) < 0 ∧ ¬ 15 < (xs (5 * i + 3)))
  · obtain ⟨k1, hqk1, hv1⟩ := zargs hS1 hn6 h1.1.1
    obtain ⟨k2, hqk2, hv2⟩ := zargs hS1 hn6 h1.1.2.1
    obtain ⟨v, hqv, hv3⟩ := zarg 15 h1.2 (by decide)
    obtain ⟨o, hqo, hv4⟩ := zarg 1 h1.1.2.2 (by decide)
    exact zL_moved_ok (k1 := k1) (k2 := k2) (v := v) (o := o) hC hk hi hL hI hP hD hS hl (by first | assumption | omega) (by first | assumption | omega) (by first | assumption | omega) (by first | assumption | omega) (by first | assumption | omega) (by first | assumption | omega) (by first | assumption | omega) (by first | assumption | omega)
  · exact zL_moved_x1 hC hk hi hL hI hP hD hS hl (by first | assumption | omega)

theorem zL_slidesAt {p : Program} {l : Launch} {e : Env} {s : State} {m : MethodId} {below : List Frame} {meth : Method} {c : Code} {b L : Nat} {xs : Nat → Int32} {A : Nat → Prop} {D : va_G} {y : Nat → ClassId} {ad g : Nat → Nat} {o1 o2 i : Nat} {Q : State → Prop} (hC : zLaw p l s m c b L xs A D y) (hk : zGoes p l e s m below meth c b A D y ad g o1 o2 i Q) (hi : 5 * i + 5 ≤ L) (hL : L ≤ 2560) {H : Heap} {locs : List Loc} {ls : Array Slot} {z : zSt} (hI : zInv z) (hP : va_P D vwCl (zWld y ad g o1 o2 z) H) (hD : va_D A (zWld y ad g o1 o2 z)) (hS : va_S A s.heap H locs) (hl : lv_has ls 9 [(0, .ref b), (1, .ref (ad 0)), (2, .ref (g 0)), (3, .ref o1), (4, .ref o2), (5, .int (nI (5 * i)))]) : W p l e room_1 s m #[Value.ref b] below meth c H locs (82 + i) (8871 + 6 * i) Q (F0 m 1582 ls []) := by
  obtain ⟨⟨b1, b2, b3, b4, b5⟩, c1, c2, d1, d2, d3⟩ := id hI
  have hn6 := c1.1
  have hS1 := c1.2.1
  by_cases h1 : (¬ (xs (5 * i + 1)) < 0 ∧ ¬ (z.G 1 - 1) < (xs (5 * i + 1))) ∧ (¬ (xs (5 * i + 2)) < 0 ∧ ¬ (z.G 1 - 1) < (xs (5 * i + 2))) ∧ (¬ (xs (5 * i + 3)) < 0 ∧ ¬ 1 < (xs (5 * i + 3)))
  · obtain ⟨k1, hqk1, hv1⟩ := zargs hS1 hn6 h1.1
    obtain ⟨k2, hqk2, hv2⟩ := zargs hS1 hn6 h1.2.1
    obtain ⟨o, hqo, hv3⟩ := zarg 1 h1.2.2 (by decide)
    exact zL_slidesAt_ok (k1 := k1) (k2 := k2) (o := o) hC hk hi hL hI hP hD hS hl (by first | assumption | omega) (by first | assumption | omega) (by first | assumption | omega) (by first | assumption | omega) (by first | assumption | omega) (by first | assumption | omega)
  · exact zL_slidesAt_x1 hC hk hi hL hI hP hD hS hl (by first | assumption | omega)

theorem zL_speed {p : Program} {l : Launch} {e : Env} {s : State} {m : MethodId} {below : List Frame} {meth : Method} {c : Code} {b L : Nat} {xs : Nat → Int32} {A : Nat → Prop} {D : va_G} {y : Nat → ClassId} {ad g : Nat → Nat} {o1 o2 i : Nat} {Q : State → Prop} (hC : zLaw p l s m c b L xs A D y) (hk : zGoes p l e s m below meth c b A D y ad g o1 o2 i Q) (hi : 5 * i + 5 ≤ L) (hL : L ≤ 2560) {H : Heap} {locs : List Loc} {ls : Array Slot} {z : zSt} (hI : zInv z) (hP : va_P D vwCl (zWld y ad g o1 o2 z) H) (hD : va_D A (zWld y ad g o1 o2 z)) (hS : va_S A s.heap H locs) (hl : lv_has ls 9 [(0, .ref b), (1, .ref (ad 0)), (2, .ref (g 0)), (3, .ref o1), (4, .ref o2), (5, .int (nI (5 * i)))]) : W p l e room_1 s m #[Value.ref b] below meth c H locs (82 + i) (8871 + 6 * i) Q (F0 m 1754 ls []) := by
  obtain ⟨⟨b1, b2, b3, b4, b5⟩, c1, c2, d1, d2, d3⟩ := id hI
  have hn6 := c1.1
  have hS1 := c1.2.1
  by_cases h1 : (¬ (xs (5 * i + 1)) < 0 ∧ ¬ (z.G 1 - 1) < (xs (5 * i + 1))) ∧ (¬ (xs (5 * i + 2)) < 0 ∧ ¬ (z.G 1 - 1) < (xs (5 * i + 2))) ∧ (¬ (xs (5 * i + 3)) < 0 ∧ ¬ 1 < (xs (5 * i + 3)))
  · obtain ⟨k1, hqk1, hv1⟩ := zargs hS1 hn6 h1.1
    obtain ⟨k2, hqk2, hv2⟩ := zargs hS1 hn6 h1.2.1
    obtain ⟨o, hqo, hv3⟩ := zarg 1 h1.2.2 (by decide)
    exact zL_speed_ok (k1 := k1) (k2 := k2) (o := o) hC hk hi hL hI hP hD hS hl (by first | assumption | omega) (by first | assumption | omega) (by first | assumption | omega) (by first | assumption | omega) (by first | assumption | omega) (by first | assumption | omega)
  · exact zL_speed_x1 hC hk hi hL hI hP hD hS hl (by first | assumption | omega)

theorem zL_firstMoved {p : Program} {l : Launch} {e : Env} {s : State} {m : MethodId} {below : List Frame} {meth : Method} {c : Code} {b L : Nat} {xs : Nat → Int32} {A : Nat → Prop} {D : va_G} {y : Nat → ClassId} {ad g : Nat → Nat} {o1 o2 i : Nat} {Q : State → Prop} (hC : zLaw p l s m c b L xs A D y) (hk : zGoes p l e s m below meth c b A D y ad g o1 o2 i Q) (hi : 5 * i + 5 ≤ L) (hL : L ≤ 2560) {H : Heap} {locs : List Loc} {ls : Array Slot} {z : zSt} (hI : zInv z) (hP : va_P D vwCl (zWld y ad g o1 o2 z) H) (hD : va_D A (zWld y ad g o1 o2 z)) (hS : va_S A s.heap H locs) (hl : lv_has ls 9 [(0, .ref b), (1, .ref (ad 0)), (2, .ref (g 0)), (3, .ref o1), (4, .ref o2), (5, .int (nI (5 * i)))]) : W p l e room_1 s m #[Value.ref b] below meth c H locs (82 + i) (8871 + 6 * i) Q (F0 m 1662 ls []) := by
  obtain ⟨⟨b1, b2, b3, b4, b5⟩, c1, c2, d1, d2, d3⟩ := id hI
  have hn6 := c1.1
  have hS1 := c1.2.1
  by_cases h1 : (¬ (xs (5 * i + 1)) < 0 ∧ ¬ (z.G 1 - 1) < (xs (5 * i + 1))) ∧ (¬ (xs (5 * i + 2)) < 0 ∧ ¬ (z.G 1 - 1) < (xs (5 * i + 2))) ∧ (¬ (xs (5 * i + 3)) < 0 ∧ ¬ 1 < (xs (5 * i + 3)))
  · by_cases h2 : ¬ (xs (5 * i + 4)) < 1 ∧ ¬ 999 < (xs (5 * i + 4))
    · obtain ⟨k1, hqk1, hv1⟩ := zargs hS1 hn6 h1.1
      obtain ⟨k2, hqk2, hv2⟩ := zargs hS1 hn6 h1.2.1
      obtain ⟨o, hqo, hv3⟩ := zarg 1 h1.2.2 (by decide)
      exact zL_firstMoved_ok (k1 := k1) (k2 := k2) (o := o) hC hk hi hL hI hP hD hS hl (by first | assumption | omega) (by first | assumption | omega) (by first | assumption | omega) (by first | assumption | omega) (by first | assumption | omega) (by first | assumption | omega) (by first | assumption | omega)
    · exact zL_firstMoved_x2 hC hk hi hL hI hP hD hS hl (by first | assumption | omega) (by first | assumption | omega)
  · exact zL_firstMoved_x1 hC hk hi hL hI hP hD hS hl (by first | assumption | omega)

theorem zL_meanCheck {p : Program} {l : Launch} {e : Env} {s : State} {m : MethodId} {below : List Frame} {meth : Method} {c : Code} {b L : Nat} {xs : Nat → Int32} {A : Nat → Prop} {D : va_G} {y : Nat → ClassId} {ad g : Nat → Nat} {o1 o2 i : Nat} {Q : State → Prop} (hC : zLaw p l s m c b L xs A D y) (hk : zGoes p l e s m below meth c b A D y ad g o1 o2 i Q) (hi : 5 * i + 5 ≤ L) (hL : L ≤ 2560) {H : Heap} {locs : List Loc} {ls : Array Slot} {z : zSt} (hI : zInv z) (hP : va_P D vwCl (zWld y ad g o1 o2 z) H) (hD : va_D A (zWld y ad g o1 o2 z)) (hS : va_S A s.heap H locs) (hl : lv_has ls 9 [(0, .ref b), (1, .ref (ad 0)), (2, .ref (g 0)), (3, .ref o1), (4, .ref o2), (5, .int (nI (5 * i)))]) : W p l e room_1 s m #[Value.ref b] below meth c H locs (82 + i) (8871 + 6 * i) Q (F0 m 1855 ls []) := by
  obtain ⟨⟨b1, b2, b3, b4, b5⟩, c1, c2, d1, d2, d3⟩ := id hI
  have hn6 := c1.1
  have hS1 := c1.2.1
  by_cases h1 : (¬ (xs (5 * i + 1)) < 0 ∧ ¬ (z.G 1 - 1) < (xs (5 * i + 1))) ∧ (¬ (xs (5 * i + 2)) < 0 ∧ ¬ 1 < (xs (5 * i + 2)))
  · obtain ⟨k, hqk, hv1⟩ := zargs hS1 hn6 h1.1
    obtain ⟨o, hqo, hv2⟩ := zarg 1 h1.2 (by decide)
    exact zL_meanCheck_ok (k := k) (o := o) hC hk hi hL hI hP hD hS hl (by first | assumption | omega) (by first | assumption | omega) (by first | assumption | omega) (by first | assumption | omega)
  · exact zL_meanCheck_x1 hC hk hi hL hI hP hD hS hl (by first | assumption | omega)

theorem zL_spread {p : Program} {l : Launch} {e : Env} {s : State} {m : MethodId} {below : List Frame} {meth : Method} {c : Code} {b L : Nat} {xs : Nat → Int32} {A : Nat → Prop} {D : va_G} {y : Nat → ClassId} {ad g : Nat → Nat} {o1 o2 i : Nat} {Q : State → Prop} (hC : zLaw p l s m c b L xs A D y) (hk : zGoes p l e s m below meth c b A D y ad g o1 o2 i Q) (hi : 5 * i + 5 ≤ L) (hL : L ≤ 2560) {H : Heap} {locs : List Loc} {ls : Array Slot} {z : zSt} (hI : zInv z) (hP : va_P D vwCl (zWld y ad g o1 o2 z) H) (hD : va_D A (zWld y ad g o1 o2 z)) (hS : va_S A s.heap H locs) (hl : lv_has ls 9 [(0, .ref b), (1, .ref (ad 0)), (2, .ref (g 0)), (3, .ref o1), (4, .ref o2), (5, .int (nI (5 * i)))]) : W p l e room_1 s m #[Value.ref b] below meth c H locs (82 + i) (8871 + 6 * i) Q (F0 m 1945 ls []) := by
  obtain ⟨⟨b1, b2, b3, b4, b5⟩, c1, c2, d1, d2, d3⟩ := id hI
  have hn6 := c1.1
  have hS1 := c1.2.1
  by_cases h1 : (¬ (xs (5 * i + 1)) < 0 ∧ ¬ (z.G 1 - 1) < (xs (5 * i + 1))) ∧ (¬ (xs (5 * i + 2)) < 0 ∧ ¬ 1 < (xs (5 * i + 2)))
  · obtain ⟨k, hqk, hv1⟩ := zargs hS1 hn6 h1.1
    obtain ⟨o, hqo, hv2⟩ := zarg 1 h1.2 (by decide)
    exact zL_spread_ok (k := k) (o := o) hC hk hi hL hI hP hD hS hl (by first | assumption | omega) (by first | assumption | omega) (by first | assumption | omega) (by first | assumption | omega)
  · exact zL_spread_x1 hC hk hi hL hI hP hD hS hl (by first | assumption | omega)
