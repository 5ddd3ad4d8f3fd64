/-! the start: what the tables give, the objects made, the loop -/
theorem zarrOf {s : State} {args : Array Value} {ty : FieldType} (h : (Cond.arrayClass ty).before args s = true) : ∃ cA : ClassId, ArrOfT s cA ty ∧ s.vm.findClass ("[" ++ ty.toString) = some cA := by
  obtain ⟨c, k, comp, h1, h2, h3⟩ := Cond.arrayClass_spec h
  exact ⟨c, fun n z => ⟨fun k h => (by cases h), k, h2, comp, h3⟩, h1⟩
theorem zarrOv {s : State} {args : Array Value} {n : String} (h : (Cond.arrayOver (.object n)).before args s = true) : ∃ cA : ClassId, ArrOfT s cA (.object n) ∧ va_RA s cA (.object n) := by
  obtain ⟨comp, c, k, h1, -, h3, h4, h5⟩ := Cond.arrayOver_spec h
  exact ⟨c, fun n z => ⟨fun k h => (by cases h), k, h3, comp, h4⟩, ⟨k, comp, h3, h4, h1, h5⟩⟩
theorem zstr {s : State} {args : Array Value} {own tx C : String} {k : Nat} (h1 : (Cond.stringRef own k tx).before args s = true) (h2 : (Cond.exactly (.string own k) C).before args s = true) : ∃ a, vk_R own k tx a s := by
  obtain ⟨a, _, _, _, e, -⟩ := Cond.exactly_spec h2
  exact ⟨a, vk_R.of h1 e⟩
theorem zS0_0 {k : Nat} (h6 : k ≠ 6) (h7 : k ≠ 7) (h8 : k ≠ 8) : zS0 k = 0 := by
  unfold zS0
  rw [pk_un h8, pk_un h7, pk_un h6]
def zZ0 : zSt := zMk zS0 (fun _ => zS0) 0 0 (fun _ => zS0) (fun _ => 0) 0 (fun _ => 0) (fun _ => 0) (fun _ => 0) (fun _ => 0) (fun _ => 0) 0 (fun _ => 0) 0 0 0 0 0 0 (fun _ => 0) (fun _ => FP.dconst0)
theorem zInv_0 : zInv zZ0 := by
  refine ⟨⟨by decide, by decide, by decide, fun i h => absurd h (Nat.not_lt_zero i), by decide, by decide, by decide, by decide, by decide, by decide⟩, ⟨by decide, zS0_0 (k := 1) (by decide) (by decide) (by decide), Or.inr rfl, fun v hv => Or.inl (zS0_0 (by omega) (by omega) (by omega)), ?_, ?_, ?_⟩, Or.inl rfl, fun i k h => absurd h (Nat.not_lt_zero i), fun i h => absurd h (Nat.not_lt_zero i), fun j _ h => absurd rfl h⟩
  · intro v q hv hq
    show -99 ≤ (zS0 (9 + 3 * v + q)).toInt ∧ (zS0 (9 + 3 * v + q)).toInt ≤ 99
    rw [zS0_0 (by omega) (by omega) (by omega)]; decide
  · intro q hq
    show -50 ≤ (zS0 (2 + q)).toInt ∧ (zS0 (2 + q)).toInt ≤ 50
    rw [zS0_0 (by omega) (by omega) (by omega)]; decide
  · intro k j hk hj
    show -900 ≤ (zS0 (58 + 65 * k + j)).toInt ∧ (zS0 (58 + 65 * k + j)).toInt ≤ 900
    rw [zS0_0 (by omega) (by omega) (by omega)]; decide
theorem zcmp {L : Nat} (hL : L ≤ 2560) {i : Nat} (hi : i ≤ 512) : (nI (5 * i) > Int32.ofNat L - 5 ↔ ¬ 5 * i + 5 ≤ L) := by
  have h1 : (nI (5 * i)).toInt = ((5 * i : Nat) : Int) := by unfold nI; rw [Int32.toInt_ofNat_of_lt (by omega)]
  have h2 : (Int32.ofNat L).toInt = (L : Int) := Int32.toInt_ofNat_of_lt (by omega)
  have h3 : (Int32.ofNat L - 5).toInt = (L : Int) - 5 := by rw [Int32.toInt_sub, h2, show (5 : Int32).toInt = 5 from rfl, Int.bmod_eq_of_le (by omega) (by omega)]
  show Int32.ofNat L - 5 < nI (5 * i) ↔ _
  rw [Int32.lt_iff_toInt_lt, h1, h3]
  omega
theorem zL_loop {p : Program} {l : Launch} {e : Env} {s : State} {m : MethodId} {below : List Frame} {meth : Method} {c : Code} {b L : Nat} {xs : Nat → Int32} {A : Nat → Prop} {D : va_G} {y : Nat → ClassId} {ad g : Nat → Nat} {o1 o2 : Nat} (hC : zLaw p l s m c b L xs A D y) (hr : meth.sig.returnType = ret) (hlocks : meth.locks = false) (hAs : ∀ q : Nat, A q → s.heap.size ≤ q) (hL : L ≤ 2560) {H : Heap} {locs : List Loc} {ls : Array Slot} {z : zSt} (hI : zInv z) (hP : va_P D vwCl (zWld y ad g o1 o2 z) H) (hD : va_D A (zWld y ad g o1 o2 z)) (hS : va_S A s.heap H locs) (hl : lv_has ls 9 [(0, .ref b), (1, .ref (ad 0)), (2, .ref (g 0)), (3, .ref o1), (4, .ref o2), (5, .int (nI (5 * 0)))]) : W p l e room_1 s m #[Value.ref b] below meth c H locs (82 + 0) (8871 + 6 * 0) (lw_Z below #[Value.ref b] s) (F0 m 28 ls []) := by
  refine zloop (fun i : Nat => 513 - i) (fun i H locs ls => ∃ z : zSt, zInv z ∧ va_P D vwCl (zWld y ad g o1 o2 z) H ∧ va_D A (zWld y ad g o1 o2 z) ∧ va_S A s.heap H locs ∧ lv_has ls 9 [(0, .ref b), (1, .ref (ad 0)), (2, .ref (g 0)), (3, .ref o1), (4, .ref o2), (5, .int (nI (5 * i)))] ∧ i ≤ 512) 28 (fun i => 82 + i) (fun i => 8871 + 6 * i) ?_ 0 ⟨z, hI, hP, hD, hS, hl, Nat.zero_le _⟩
  clear hI hP hD hS hl
  rintro i H locs ls ⟨z, hI, hP, hD, hS, hl, hi5⟩ ih
  obtain ⟨hx, hb, hml, hown, hts, hX, hbl, hKN, hZ, hNc, hl9, hA, hbA⟩ := id hC
  refine lv_iload hx hb dL_law_28 (lv_at hl 5 rfl) ?_
  refine lv_aload_n hx hb dL_law_30 rfl (lv_at hl 0 rfl) ?_
  refine va_slen hx hb hX hbl hbA hS dL_law_31 ?_
  refine lv_iconst (v := 5) hx hb dL_law_32 (by decide) ?_
  refine lv_isub hx hb dL_law_33 ?_
  refine lv_icmp_gt (tgt := 2054) hx hb dL_law_34 (by decide) (fun c_34 => ?_) (fun c_34 => ?_)
  · refine lv_iconst (v := 1) hx hb dL_law_2054 (by decide) ?_
    refine va_forget (fun q hq => hAs _ (hS.2.2 q hq)) ?_
    refine W.widen (k := 601024) (n := 7293034) (by omega) (by omega) ?_
    exact lw_ret (d0 := s.drawn) (Drawn.sameBut.refl s.drawn lw_cs) hx hb hr hlocks dL_law_2055
  · have hi : 5 * i + 5 ≤ L := by
      by_cases h : 5 * i + 5 ≤ L
      · exact h
      · exact absurd ((zcmp hL hi5).mpr h) c_34
    refine zL_one hC ?_ hi hL hI hP hD hS hl
    intro z H locs ls hI hP hD hS hl
    refine lv_iinc (v := nI (5 * (i + 1))) (lv' := [(5, .int (nI (5 * (i + 1)))), (0, .ref b), (1, .ref (ad 0)), (2, .ref (g 0)), (3, .ref o1), (4, .ref o2)]) hx hb dL_law_2048 hl (k := 5) rfl (nI_add (5 * i) 5) (by decide) rfl (fun ls hl => ?_)
    refine lv_goto (tgt := 28) hx hb dL_law_2051 (by decide) ?_
    exact ih (i + 1) _ _ _ (by show 513 - (i + 1) < 513 - i; omega) ⟨z, hI, hP, hD, hS, lv_sub hl [1, 2, 3, 4, 5, 0] rfl, by omega⟩
