set_option maxHeartbeats 4000000 in
set_option maxRecDepth 100000 in
theorem mL_cell (l : Launch) (b : Nat) (L : Nat) (xs : Nat → Int32) (k : Nat) (hL : L ≤ 260) (hk : k < 1000) : Met l yL_cell (ws_ yL_cell cL_cell 2 (some .int)) ({ frames := 0, cells := 0, slots := 0, locals := 0 }) (va_Pc [.ref b, .int (nI k)] (fun U => va_X b L xs U U.heap ∧ b < U.heap.size)) (va_Qi (fun (r : Int32) (_ : Unit) => True) (fun _ _ => True) (fun _ => False)) 0 0 (fun _ => False) := by
  refine Met.ofW (cc := cL_cell) (maxL := 2) (ret := (some .int)) (by decide) rfl ?_
  intro p e s m args below meth c s₁ B hml hpre9
  obtain ⟨rfl, hX, hbl⟩ := hpre9
  have hx := B.exec
  have hb := B.bytes
  have hr := B.returns
  have hts := atoms_spec (ws := (ws_ yL_cell cL_cell 2 (some .int))) B.pre
  have htg : ∀ w ∈ gT, w.before _ s = true := fun w h => hts w (List.mem_cons_of_mem _ h)
  have hown : s.vm.findClass RL = some m.cls := findClass_of_methodNamed B.named
  have hlocks := B.notSynchronized
  have hS : va_S (fun _ => False) s.heap s.heap [] := va_S.rf
  have hl := lv_entry ([.ref b, .int (nI k)]) (n := 2) (Nat.le_of_ble_eq_true rfl)
  rw [lg_entry_eq]
  generalize (lg_sl ([.ref b, .int (nI k)]) ++ List.replicate (2 - (lg_sl ([.ref b, .int (nI k)])).length) Slot.unset).toArray = ls at hl ⊢
  have hl : lv_has ls 2 [(0, .ref b), (1, .int (nI k))] := hl
  refine lv_iload_n hx hb dL_cell_0 rfl (lv_at hl 1 rfl) ?_
  refine lv_aload_n hx hb dL_cell_1 rfl (lv_at hl 0 rfl) ?_
  refine va_slen hx hb hX hbl (fun h => h) hS dL_cell_2 ?_
  refine zz_top (y := nI L) rfl ?_
  refine lv_icmp_ge (tgt := 12) hx hb dL_cell_3 (by decide) (fun c_3 => ?_) (fun c_3 => ?_)
  · replace c_3 : L ≤ k := (nI_leI (a := L) (b := k) (by omega) (by omega)).mp c_3
    refine lv_ldc hx hb hown (htg _ tw_227) dL_cell_12 ?_
    refine lv_iload_n hx hb dL_cell_14 rfl (lv_at hl 1 rfl) ?_
    refine lv_sipush (v := 233) hx hb dL_cell_15 (by decide) ?_
    refine lv_iadd hx hb dL_cell_18 ?_
    refine zz_top (y := nI (k + 233)) (nI_add k 233) ?_
    refine lv_imul hx hb dL_cell_19 ?_
    refine zz_top (y := nI (1812433253 * (k + 233))) (pk_mul 1812433253 (k + 233)) ?_
    exact W.iret (v := (nI (1812433253 * (k + 233)))) hx hb hr (fun t ht hW => ⟨⟨nI (1812433253 * (k + 233)), (), rfl, trivial, trivial⟩, hS.F ht⟩) hS.2.2 dL_cell_20
  · replace c_3 : ¬ L ≤ k := fun h => c_3 ((nI_leI (a := L) (b := k) (by omega) (by omega)).mpr h)
    refine lv_aload_n hx hb dL_cell_6 rfl (lv_at hl 0 rfl) ?_
    refine lv_iload_n hx hb dL_cell_7 rfl (lv_at hl 1 rfl) ?_
    refine va_sld hx hb hX hbl (fun h => h) hS (vp_in_nI (n := k) (by omega) (by omega)) dL_cell_8 ?_
    refine lv_goto (tgt := 20) hx hb dL_cell_9 (by decide) ?_
    exact W.iret (v := (xs (nI k).toNatClampNeg)) hx hb hr (fun t ht hW => ⟨⟨xs (nI k).toNatClampNeg, (), rfl, trivial, trivial⟩, hS.F ht⟩) hS.2.2 dL_cell_20

set_option maxHeartbeats 4000000 in
set_option maxRecDepth 100000 in
theorem mL_up (l : Launch) (x : Int32) (n : Nat) (hn : 0 < n) (hn2 : n < 2147483648) : Met l yL_up (ws_ yL_up cL_up 2 (some .int)) ({ frames := 0, cells := 0, slots := 0, locals := 0 }) (va_Pc [.int x, .int (nI n)] (fun _ => True)) (va_Qi (fun (r : Int32) (_ : Unit) => r = nI (zup x n)) (fun _ _ => True) (fun _ => False)) 0 0 (fun _ => False) := by
  refine Met.ofW (cc := cL_up) (maxL := 2) (ret := (some .int)) (by decide) rfl ?_
  intro p e s m args below meth c s₁ B hml hpre9
  obtain ⟨rfl, -⟩ := hpre9
  have hx := B.exec
  have hb := B.bytes
  have hr := B.returns
  have hts := atoms_spec (ws := (ws_ yL_up cL_up 2 (some .int))) B.pre
  have htg : ∀ w ∈ gT, w.before _ s = true := fun w h => hts w (List.mem_cons_of_mem _ h)
  have hown : s.vm.findClass RL = some m.cls := findClass_of_methodNamed B.named
  have hlocks := B.notSynchronized
  have hS : va_S (fun _ => False) s.heap s.heap [] := va_S.rf
  have hl := lv_entry ([.int x, .int (nI n)]) (n := 2) (Nat.le_of_ble_eq_true rfl)
  rw [lg_entry_eq]
  generalize (lg_sl ([.int x, .int (nI n)]) ++ List.replicate (2 - (lg_sl ([.int x, .int (nI n)])).length) Slot.unset).toArray = ls at hl ⊢
  have hl : lv_has ls 2 [(0, .int x), (1, .int (nI n))] := hl
  have hz31 : zb x 31 < 2147483648 := zb_lt
  have hne : ¬ nI n = 0 := fun h => by have := (nI_eq (a := n) (b := 0) (by omega) (by omega)).mp h; omega
  refine lv_iload_n hx hb dL_up_0 rfl (lv_at hl 0 rfl) ?_
  refine lv_ldc hx hb hown (htg _ tw_229) dL_up_1 ?_
  refine lv_iand hx hb dL_up_3 ?_
  refine zz_top (y := nI (zb x 31)) (pk_and x 31 (by decide)) ?_
  refine lv_iload_n hx hb dL_up_4 rfl (lv_at hl 1 rfl) ?_
  refine lv_irem hx hb dL_up_5 hne ?_
  refine zz_top (y := nI ((zb x 31) % n)) (pk_rem (by omega) (by omega) (by omega)) ?_
  exact W.iret (v := (nI ((zb x 31) % n))) hx hb hr (fun t ht hW => ⟨⟨nI ((zb x 31) % n), (), rfl, rfl, trivial⟩, hS.F ht⟩) hS.2.2 dL_up_6

set_option maxHeartbeats 4000000 in
set_option maxRecDepth 100000 in
theorem mL_looks (l : Launch) (D : va_G) (y : Nat → ClassId) (sz : Nat) (ad : Nat → Nat) (S : Nat → Int32) (ro : Nat) (rv : Nat) (cm : Nat → Int32) (rd : Nat → Int32) (td : Nat → Int32) (od : Nat → Int32) (fr : Int32) (n : Nat) (b : Int) (hG : zGd S n b) (hF : zFq S n cm rd td fr) : Met l yL_looks (ws_ yL_looks cL_looks 5 (some .long)) ({ frames := 5, cells := 0, slots := 0, locals := 126 }) (va_Pc [.ref (ad 0)] (zRW D y [((ad 0), .inr (4, [.ref (ad 1), .ref (ad 8), .ref (ad 9), .ref (ad 10), .ref (ad 54), .ref (ad 59), .ref (ad 60), .int (nI 0)])), ((ad 1), .inr (2, [.ref (ad 2), .ref (ad 3), .ref (ad 4), .ref (ad 5), .ref (ad 6), .ref (ad 7), .int (S 0), .int (S 1), .int (S 4), .int (S 5)])), ((ad 2), .inl (y 0, 32, .inl (zT S))), ((ad 3), .inl (y 0, 16, .inl (zU S))), ((ad 4), .inl (y 0, 2, .inl (zB S))), ((ad 5), .inl (y 0, 3, .inl (zE S))), ((ad 6), .inl (y 0, 384, .inl (zR S))), ((ad 7), .inl (y 0, 6, .inl (zY S))), ((ad 10), .inr (1, [.ref (ad 11), .int (nI ro), .int (nI rv)])), ((ad 54), .inr (0, [.ref (ad 55), .ref (ad 75), .ref (ad 56), .ref (ad 57), .ref (ad 58), .int fr])), ((ad 55), .inl (y 0, 12, .inl cm)), ((ad 56), .inl (y 0, 192, .inl rd)), ((ad 57), .inl (y 0, 192, .inl td)), ((ad 58), .inl (y 0, 16, .inl od)), ((ad 75), .inl (y 0, 192, .inl (zOf cm)))] sz)) (va_Ql (fun (r : Int64) (u : ((Nat → Int32) × (Nat → Int32) × (Nat → Int32) × (Nat → Int32)) × Int32) => r = zLk S n ∧ zFq S n u.1.1 u.1.2.1 u.1.2.2.1 u.2) (fun (u : ((Nat → Int32) × (Nat → Int32) × (Nat → Int32) × (Nat → Int32)) × Int32) t => zOut D (va_A [((ad 0), .inr (4, [.ref (ad 1), .ref (ad 8), .ref (ad 9), .ref (ad 10), .ref (ad 54), .ref (ad 59), .ref (ad 60), .int (nI 0)])), ((ad 1), .inr (2, [.ref (ad 2), .ref (ad 3), .ref (ad 4), .ref (ad 5), .ref (ad 6), .ref (ad 7), .int (S 0), .int (S 1), .int (S 4), .int (S 5)])), ((ad 2), .inl (y 0, 32, .inl (zT S))), ((ad 3), .inl (y 0, 16, .inl (zU S))), ((ad 4), .inl (y 0, 2, .inl (zB S))), ((ad 5), .inl (y 0, 3, .inl (zE S))), ((ad 6), .inl (y 0, 384, .inl (zR S))), ((ad 7), .inl (y 0, 6, .inl (zY S))), ((ad 10), .inr (1, [.ref (ad 11), .int (nI ro), .int (nI rv)])), ((ad 54), .inr (0, [.ref (ad 55), .ref (ad 75), .ref (ad 56), .ref (ad 57), .ref (ad 58), .int fr])), ((ad 55), .inl (y 0, 12, .inl cm)), ((ad 56), .inl (y 0, 192, .inl rd)), ((ad 57), .inl (y 0, 192, .inl td)), ((ad 58), .inl (y 0, 16, .inl od)), ((ad 75), .inl (y 0, 192, .inl (zOf cm)))] sz) [((ad 0), .inr (4, [.ref (ad 1), .ref (ad 8), .ref (ad 9), .ref (ad 10), .ref (ad 54), .ref (ad 59), .ref (ad 60), .int (nI 0)])), ((ad 1), .inr (2, [.ref (ad 2), .ref (ad 3), .ref (ad 4), .ref (ad 5), .ref (ad 6), .ref (ad 7), .int (S 0), .int (S 1), .int (S 4), .int (S 5)])), ((ad 2), .inl (y 0, 32, .inl (zT S))), ((ad 3), .inl (y 0, 16, .inl (zU S))), ((ad 4), .inl (y 0, 2, .inl (zB S))), ((ad 5), .inl (y 0, 3, .inl (zE S))), ((ad 6), .inl (y 0, 384, .inl (zR S))), ((ad 7), .inl (y 0, 6, .inl (zY S))), ((ad 10), .inr (1, [.ref (ad 11), .int (nI ro), .int (nI rv)])), ((ad 54), .inr (0, [.ref (ad 55), .ref (ad 75), .ref (ad 56), .ref (ad 57), .ref (ad 58), .int u.2])), ((ad 55), .inl (y 0, 12, .inl u.1.1)), ((ad 56), .inl (y 0, 192, .inl u.1.2.1)), ((ad 57), .inl (y 0, 192, .inl u.1.2.2.1)), ((ad 58), .inl (y 0, 16, .inl u.1.2.2.2)), ((ad 75), .inl (y 0, 192, .inl (zOf u.1.1)))] t) (va_A [((ad 0), .inr (4, [.ref (ad 1), .ref (ad 8), .ref (ad 9), .ref (ad 10), .ref (ad 54), .ref (ad 59), .ref (ad 60), .int (nI 0)])), ((ad 1), .inr (2, [.ref (ad 2), .ref (ad 3), .ref (ad 4), .ref (ad 5), .ref (ad 6), .ref (ad 7), .int (S 0), .int (S 1), .int (S 4), .int (S 5)])), ((ad 2), .inl (y 0, 32, .inl (zT S))), ((ad 3), .inl (y 0, 16, .inl (zU S))), ((ad 4), .inl (y 0, 2, .inl (zB S))), ((ad 5), .inl (y 0, 3, .inl (zE S))), ((ad 6), .inl (y 0, 384, .inl (zR S))), ((ad 7), .inl (y 0, 6, .inl (zY S))), ((ad 10), .inr (1, [.ref (ad 11), .int (nI ro), .int (nI rv)])), ((ad 54), .inr (0, [.ref (ad 55), .ref (ad 75), .ref (ad 56), .ref (ad 57), .ref (ad 58), .int fr])), ((ad 55), .inl (y 0, 12, .inl cm)), ((ad 56), .inl (y 0, 192, .inl rd)), ((ad 57), .inl (y 0, 192, .inl td)), ((ad 58), .inl (y 0, 16, .inl od)), ((ad 75), .inl (y 0, 192, .inl (zOf cm)))] sz)) 0 0 (va_A [((ad 0), .inr (4, [.ref (ad 1), .ref (ad 8), .ref (ad 9), .ref (ad 10), .ref (ad 54), .ref (ad 59), .ref (ad 60), .int (nI 0)])), ((ad 1), .inr (2, [.ref (ad 2), .ref (ad 3), .ref (ad 4), .ref (ad 5), .ref (ad 6), .ref (ad 7), .int (S 0), .int (S 1), .int (S 4), .int (S 5)])), ((ad 2), .inl (y 0, 32, .inl (zT S))), ((ad 3), .inl (y 0, 16, .inl (zU S))), ((ad 4), .inl (y 0, 2, .inl (zB S))), ((ad 5), .inl (y 0, 3, .inl (zE S))), ((ad 6), .inl (y 0, 384, .inl (zR S))), ((ad 7), .inl (y 0, 6, .inl (zY S))), ((ad 10), .inr (1, [.ref (ad 11), .int (nI ro), .int (nI rv)])), ((ad 54), .inr (0, [.ref (ad 55), .ref (ad 75), .ref (ad 56), .ref (ad 57), .ref (ad 58), .int fr])), ((ad 55), .inl (y 0, 12, .inl cm)), ((ad 56), .inl (y 0, 192, .inl rd)), ((ad 57), .inl (y 0, 192, .inl td)), ((ad 58), .inl (y 0, 16, .inl od)), ((ad 75), .inl (y 0, 192, .inl (zOf cm)))] sz) := by
  refine Met.ofW (cc := cL_looks) (maxL := 5) (ret := (some .long)) (by decide) rfl ?_
  intro p e s m args below meth c s₁ B hml hpre9
  obtain ⟨rfl, hsz, hP, hKN, hD0⟩ := hpre9
  have hK := hKN.1
  have hx := B.exec
  have hb := B.bytes
  have hr := B.returns
  have hts := atoms_spec (ws := (ws_ yL_looks cL_looks 5 (some .long))) B.pre
  have htg : ∀ w ∈ gT, w.before _ s = true := fun w h => hts w (List.mem_cons_of_mem _ h)
  have hown : s.vm.findClass RL = some m.cls := findClass_of_methodNamed B.named
  have hlocks := B.notSynchronized
  subst hsz
  have hD := hD0.self (sz := s.heap.size)
  clear hD0
  generalize hAe : va_A [((ad 0), .inr (4, [.ref (ad 1), .ref (ad 8), .ref (ad 9), .ref (ad 10), .ref (ad 54), .ref (ad 59), .ref (ad 60), .int (nI 0)])), ((ad 1), .inr (2, [.ref (ad 2), .ref (ad 3), .ref (ad 4), .ref (ad 5), .ref (ad 6), .ref (ad 7), .int (S 0), .int (S 1), .int (S 4), .int (S 5)])), ((ad 2), .inl (y 0, 32, .inl (zT S))), ((ad 3), .inl (y 0, 16, .inl (zU S))), ((ad 4), .inl (y 0, 2, .inl (zB S))), ((ad 5), .inl (y 0, 3, .inl (zE S))), ((ad 6), .inl (y 0, 384, .inl (zR S))), ((ad 7), .inl (y 0, 6, .inl (zY S))), ((ad 10), .inr (1, [.ref (ad 11), .int (nI ro), .int (nI rv)])), ((ad 54), .inr (0, [.ref (ad 55), .ref (ad 75), .ref (ad 56), .ref (ad 57), .ref (ad 58), .int fr])), ((ad 55), .inl (y 0, 12, .inl cm)), ((ad 56), .inl (y 0, 192, .inl rd)), ((ad 57), .inl (y 0, 192, .inl td)), ((ad 58), .inl (y 0, 16, .inl od)), ((ad 75), .inl (y 0, 192, .inl (zOf cm)))] s.heap.size = A at hD ⊢
  have hA : ∀ q : Nat, s.heap.size ≤ q → A q := fun q h => by rw [← hAe]; exact Or.inr h
  have hS : va_S A s.heap s.heap [] := va_S.rf
  have hP : va_P D vwCl [((ad 0), .inr (4, [.ref (ad 1), .ref (ad 8), .ref (ad 9), .ref (ad 10), .ref (ad 54), .ref (ad 59), .ref (ad 60), .int (nI 0)])), ((ad 1), .inr (2, [.ref (ad 2), .ref (ad 3), .ref (ad 4), .ref (ad 5), .ref (ad 6), .ref (ad 7), .int (S 0), .int (S 1), .int (S 4), .int (S 5)])), ((ad 2), .inl (y 0, 32, .inl (zT S))), ((ad 3), .inl (y 0, 16, .inl (zU S))), ((ad 4), .inl (y 0, 2, .inl (zB S))), ((ad 5), .inl (y 0, 3, .inl (zE S))), ((ad 6), .inl (y 0, 384, .inl (zR S))), ((ad 7), .inl (y 0, 6, .inl (zY S))), ((ad 10), .inr (1, [.ref (ad 11), .int (nI ro), .int (nI rv)])), ((ad 54), .inr (0, [.ref (ad 55), .ref (ad 75), .ref (ad 56), .ref (ad 57), .ref (ad 58), .int fr])), ((ad 55), .inl (y 0, 12, .inl cm)), ((ad 56), .inl (y 0, 192, .inl rd)), ((ad 57), .inl (y 0, 192, .inl td)), ((ad 58), .inl (y 0, 16, .inl od)), ((ad 75), .inl (y 0, 192, .inl (zOf cm)))] s.heap := hP
  have hl := lv_entry ([.ref (ad 0)]) (n := 5) (Nat.le_of_ble_eq_true rfl)
  rw [lg_entry_eq]
  generalize (lg_sl ([.ref (ad 0)]) ++ List.replicate (5 - (lg_sl ([.ref (ad 0)])).length) Slot.unset).toArray = ls at hl ⊢
  have hl : lv_has ls 5 [(0, .ref (ad 0))] := hl
  have hO := hG.1
  have hn6 := hG.1.1
  refine lv_ldc2 hx hb hown (htg _ tw_231) dL_looks_0 ?_
  refine lv_lstore_n (lv' := [(1, .long (79)), (0, .ref (ad 0))]) hx hb dL_looks_3 rfl hl (by decide) rfl (fun ls hl => ?_)
  refine lv_iconst (v := 0) hx hb dL_looks_4 (by decide) ?_
  refine lv_istore_n (lv' := [(3, .int 0), (1, .long (79)), (0, .ref (ad 0))]) hx hb dL_looks_5 rfl hl (by decide) rfl (fun ls hl => ?_)
  refine zloop (fun i : Nat => 7 - i) (fun i H locs ls => i ≤ 7 ∧ va_P D vwCl [((ad 0), .inr (4, [.ref (ad 1), .ref (ad 8), .ref (ad 9), .ref (ad 10), .ref (ad 54), .ref (ad 59), .ref (ad 60), .int (nI 0)])), ((ad 1), .inr (2, [.ref (ad 2), .ref (ad 3), .ref (ad 4), .ref (ad 5), .ref (ad 6), .ref (ad 7), .int (S 0), .int (S 1), .int (S 4), .int (S 5)])), ((ad 2), .inl (y 0, 32, .inl (zT S))), ((ad 3), .inl (y 0, 16, .inl (zU S))), ((ad 4), .inl (y 0, 2, .inl (zB S))), ((ad 5), .inl (y 0, 3, .inl (zE S))), ((ad 6), .inl (y 0, 384, .inl (zR S))), ((ad 7), .inl (y 0, 6, .inl (zY S))), ((ad 10), .inr (1, [.ref (ad 11), .int (nI ro), .int (nI rv)])), ((ad 54), .inr (0, [.ref (ad 55), .ref (ad 75), .ref (ad 56), .ref (ad 57), .ref (ad 58), .int fr])), ((ad 55), .inl (y 0, 12, .inl cm)), ((ad 56), .inl (y 0, 192, .inl rd)), ((ad 57), .inl (y 0, 192, .inl td)), ((ad 58), .inl (y 0, 16, .inl od)), ((ad 75), .inl (y 0, 192, .inl (zOf cm)))] H ∧ va_D A [((ad 0), .inr (4, [.ref (ad 1), .ref (ad 8), .ref (ad 9), .ref (ad 10), .ref (ad 54), .ref (ad 59), .ref (ad 60), .int (nI 0)])), ((ad 1), .inr (2, [.ref (ad 2), .ref (ad 3), .ref (ad 4), .ref (ad 5), .ref (ad 6), .ref (ad 7), .int (S 0), .int (S 1), .int (S 4), .int (S 5)])), ((ad 2), .inl (y 0, 32, .inl (zT S))), ((ad 3), .inl (y 0, 16, .inl (zU S))), ((ad 4), .inl (y 0, 2, .inl (zB S))), ((ad 5), .inl (y 0, 3, .inl (zE S))), ((ad 6), .inl (y 0, 384, .inl (zR S))), ((ad 7), .inl (y 0, 6, .inl (zY S))), ((ad 10), .inr (1, [.ref (ad 11), .int (nI ro), .int (nI rv)])), ((ad 54), .inr (0, [.ref (ad 55), .ref (ad 75), .ref (ad 56), .ref (ad 57), .ref (ad 58), .int fr])), ((ad 55), .inl (y 0, 12, .inl cm)), ((ad 56), .inl (y 0, 192, .inl rd)), ((ad 57), .inl (y 0, 192, .inl td)), ((ad 58), .inl (y 0, 16, .inl od)), ((ad 75), .inl (y 0, 192, .inl (zOf cm)))] ∧ va_S A s.heap H locs ∧ lv_has ls 5 [(0, .ref (ad 0)), (1, .long (zLa S i)), (3, .int (nI i))]) 6 (fun _ => 0) (fun _ => 0) ?_ (0) ⟨by omega, hP, hD, hS, lv_sub hl [2, 1, 0] rfl⟩
  clear hl hS hP hD
  rintro i H locs ls ⟨hi, hP, hD, hS, hl⟩ ih6
  refine lv_iload_n hx hb dL_looks_6 rfl (lv_at hl 2 rfl) ?_
  refine lv_bipush (v := 7) hx hb dL_looks_7 (by decide) ?_
  refine lv_icmp_ge (tgt := 31) hx hb dL_looks_9 (by decide) (fun c_9 => ?_) (fun c_9 => ?_)
  · replace c_9 : 7 ≤ i := (nI_leI (a := 7) (b := i) (by omega) (by omega)).mp c_9
    have e7 : i = 7 := by omega
    have hl : lv_has ls 5 [(0, .ref (ad 0)), (1, .long (zLa S 7)), (3, .int (nI i))] := by rw [show (zLa S 7 : Int64) = zLa S i from (by rw [e7] : (zLa S i : Int64) = zLa S 7).symm]; exact hl
    refine lv_iconst (v := 0) hx hb dL_looks_31 (by decide) ?_
    refine lv_istore_n (lv' := [(3, .int 0), (0, .ref (ad 0)), (1, .long (zLa S 7))]) hx hb dL_looks_32 rfl hl (by decide) rfl (fun ls hl => ?_)
    refine zloop (fun q : Nat => 112 - q) (fun q H locs ls => q ≤ 112 ∧ va_P D vwCl [((ad 0), .inr (4, [.ref (ad 1), .ref (ad 8), .ref (ad 9), .ref (ad 10), .ref (ad 54), .ref (ad 59), .ref (ad 60), .int (nI 0)])), ((ad 1), .inr (2, [.ref (ad 2), .ref (ad 3), .ref (ad 4), .ref (ad 5), .ref (ad 6), .ref (ad 7), .int (S 0), .int (S 1), .int (S 4), .int (S 5)])), ((ad 2), .inl (y 0, 32, .inl (zT S))), ((ad 3), .inl (y 0, 16, .inl (zU S))), ((ad 4), .inl (y 0, 2, .inl (zB S))), ((ad 5), .inl (y 0, 3, .inl (zE S))), ((ad 6), .inl (y 0, 384, .inl (zR S))), ((ad 7), .inl (y 0, 6, .inl (zY S))), ((ad 10), .inr (1, [.ref (ad 11), .int (nI ro), .int (nI rv)])), ((ad 54), .inr (0, [.ref (ad 55), .ref (ad 75), .ref (ad 56), .ref (ad 57), .ref (ad 58), .int fr])), ((ad 55), .inl (y 0, 12, .inl cm)), ((ad 56), .inl (y 0, 192, .inl rd)), ((ad 57), .inl (y 0, 192, .inl td)), ((ad 58), .inl (y 0, 16, .inl od)), ((ad 75), .inl (y 0, 192, .inl (zOf cm)))] H ∧ va_D A [((ad 0), .inr (4, [.ref (ad 1), .ref (ad 8), .ref (ad 9), .ref (ad 10), .ref (ad 54), .ref (ad 59), .ref (ad 60), .int (nI 0)])), ((ad 1), .inr (2, [.ref (ad 2), .ref (ad 3), .ref (ad 4), .ref (ad 5), .ref (ad 6), .ref (ad 7), .int (S 0), .int (S 1), .int (S 4), .int (S 5)])), ((ad 2), .inl (y 0, 32, .inl (zT S))), ((ad 3), .inl (y 0, 16, .inl (zU S))), ((ad 4), .inl (y 0, 2, .inl (zB S))), ((ad 5), .inl (y 0, 3, .inl (zE S))), ((ad 6), .inl (y 0, 384, .inl (zR S))), ((ad 7), .inl (y 0, 6, .inl (zY S))), ((ad 10), .inr (1, [.ref (ad 11), .int (nI ro), .int (nI rv)])), ((ad 54), .inr (0, [.ref (ad 55), .ref (ad 75), .ref (ad 56), .ref (ad 57), .ref (ad 58), .int fr])), ((ad 55), .inl (y 0, 12, .inl cm)), ((ad 56), .inl (y 0, 192, .inl rd)), ((ad 57), .inl (y 0, 192, .inl td)), ((ad 58), .inl (y 0, 16, .inl od)), ((ad 75), .inl (y 0, 192, .inl (zOf cm)))] ∧ va_S A s.heap H locs ∧ lv_has ls 5 [(0, .ref (ad 0)), (1, .long (zLb S q)), (3, .int (nI q))]) 33 (fun _ => 0) (fun _ => 0) ?_ (0) ⟨by omega, hP, hD, hS, lv_sub hl [1, 2, 0] rfl⟩
    clear hl hS hP hD
    rintro q H locs ls ⟨hq, hP, hD, hS, hl⟩ ih33
    refine lv_iload_n hx hb dL_looks_33 rfl (lv_at hl 2 rfl) ?_
    refine lv_bipush (v := 112) hx hb dL_looks_34 (by decide) ?_
    refine lv_icmp_ge (tgt := 65) hx hb dL_looks_36 (by decide) (fun c_36 => ?_) (fun c_36 => ?_)
    · replace c_36 : 112 ≤ q := (nI_leI (a := 112) (b := q) (by omega) (by omega)).mp c_36
      have e8 : q = 112 := by omega
      have hl : lv_has ls 5 [(0, .ref (ad 0)), (1, .long (zLb S 112)), (3, .int (nI q))] := by rw [show (zLb S 112 : Int64) = zLb S q from (by rw [e8] : (zLb S q : Int64) = zLb S 112).symm]; exact hl
      refine lv_iconst (v := 0) hx hb dL_looks_65 (by decide) ?_
      refine lv_istore_n (lv' := [(3, .int 0), (0, .ref (ad 0)), (1, .long (zLb S 112))]) hx hb dL_looks_66 rfl hl (by decide) rfl (fun ls hl => ?_)
      refine zloop (fun k : Nat => n - k) (fun k H locs ls => ∃ cm2 : Nat → Int32, ∃ rd2 : Nat → Int32, ∃ td2 : Nat → Int32, ∃ od2 : Nat → Int32, ∃ fr2 : Int32, k ≤ n ∧ zFq S n cm2 rd2 td2 fr2 ∧ va_P D vwCl [((ad 0), .inr (4, [.ref (ad 1), .ref (ad 8), .ref (ad 9), .ref (ad 10), .ref (ad 54), .ref (ad 59), .ref (ad 60), .int (nI 0)])), ((ad 1), .inr (2, [.ref (ad 2), .ref (ad 3), .ref (ad 4), .ref (ad 5), .ref (ad 6), .ref (ad 7), .int (S 0), .int (S 1), .int (S 4), .int (S 5)])), ((ad 2), .inl (y 0, 32, .inl (zT S))), ((ad 3), .inl (y 0, 16, .inl (zU S))), ((ad 4), .inl (y 0, 2, .inl (zB S))), ((ad 5), .inl (y 0, 3, .inl (zE S))), ((ad 6), .inl (y 0, 384, .inl (zR S))), ((ad 7), .inl (y 0, 6, .inl (zY S))), ((ad 10), .inr (1, [.ref (ad 11), .int (nI ro), .int (nI rv)])), ((ad 54), .inr (0, [.ref (ad 55), .ref (ad 75), .ref (ad 56), .ref (ad 57), .ref (ad 58), .int fr2])), ((ad 55), .inl (y 0, 12, .inl cm2)), ((ad 56), .inl (y 0, 192, .inl rd2)), ((ad 57), .inl (y 0, 192, .inl td2)), ((ad 58), .inl (y 0, 16, .inl od2)), ((ad 75), .inl (y 0, 192, .inl (zOf cm2)))] H ∧ va_D A [((ad 0), .inr (4, [.ref (ad 1), .ref (ad 8), .ref (ad 9), .ref (ad 10), .ref (ad 54), .ref (ad 59), .ref (ad 60), .int (nI 0)])), ((ad 1), .inr (2, [.ref (ad 2), .ref (ad 3), .ref (ad 4), .ref (ad 5), .ref (ad 6), .ref (ad 7), .int (S 0), .int (S 1), .int (S 4), .int (S 5)])), ((ad 2), .inl (y 0, 32, .inl (zT S))), ((ad 3), .inl (y 0, 16, .inl (zU S))), ((ad 4), .inl (y 0, 2, .inl (zB S))), ((ad 5), .inl (y 0, 3, .inl (zE S))), ((ad 6), .inl (y 0, 384, .inl (zR S))), ((ad 7), .inl (y 0, 6, .inl (zY S))), ((ad 10), .inr (1, [.ref (ad 11), .int (nI ro), .int (nI rv)])), ((ad 54), .inr (0, [.ref (ad 55), .ref (ad 75), .ref (ad 56), .ref (ad 57), .ref (ad 58), .int fr2])), ((ad 55), .inl (y 0, 12, .inl cm2)), ((ad 56), .inl (y 0, 192, .inl rd2)), ((ad 57), .inl (y 0, 192, .inl td2)), ((ad 58), .inl (y 0, 16, .inl od2)), ((ad 75), .inl (y 0, 192, .inl (zOf cm2)))] ∧ va_S A s.heap H locs ∧ lv_has ls 5 [(0, .ref (ad 0)), (1, .long (zLc S k)), (3, .int (nI k))]) 67 (fun _ => 0) (fun _ => 0) ?_ (0) ⟨cm, rd, td, od, fr, by omega, hF, hP, hD, hS, lv_sub hl [1, 2, 0] rfl⟩
      clear hl hS hP hD
      rintro k H locs ls ⟨cm2, rd2, td2, od2, fr2, hk, hF2, hP, hD, hS, hl⟩ ih67
      refine lv_iload_n hx hb dL_looks_67 rfl (lv_at hl 2 rfl) ?_
      refine lv_aload_n hx hb dL_looks_68 rfl (lv_at hl 0 rfl) ?_
      refine lv_iconst (v := 1) hx hb dL_looks_69 (by decide) ?_
      refine zr_calli (va_runV (As := [.int 1]) (rest := [.int (nI k)]) ⟨hx, hb, hml, hown, hts⟩ (mX4_count l D y ad S (nI 0) ro rv 1 (by first | assumption | rfl | omega | decide)) (cwV 1 hts (zgV tw_234 tw_235 tw_236 tw_23 tw_205) rfl rfl rfl (by decide +kernel) ⟨Nat.le_of_ble_eq_true rfl, Nat.le_of_ble_eq_true rfl⟩) (zRO_preV hKN hP (ci := 4) (q0 := 0) rfl rfl [0, 1, 2, 3, 4, 8] rfl) rfl rfl hl.1 rfl (lv_room (Nat.le_of_ble_eq_true rfl)) dL_looks_70 ⟨Nat.zero_le _, Nat.zero_le _⟩) hS (fun r_1 H locs hw_70 hT hS => ?_)
      replace hP := hT _ _ hP
      obtain rfl : r_1 = qCt S (nI rv) 1 := hw_70
      refine zz_top (y := S 1) (qCt_w (by decide)) ?_
      refine zz_top (y := nI n) (hO.2.1) ?_
      refine lv_icmp_ge (tgt := 165) hx hb dL_looks_73 (by decide) (fun c_73 => ?_) (fun c_73 => ?_)
      · replace c_73 : n ≤ k := (nI_leI (a := n) (b := k) (by omega) (by omega)).mp c_73
        have e9 : k = n := by omega
        have hl : lv_has ls 5 [(0, .ref (ad 0)), (1, .long (zLc S n)), (3, .int (nI k))] := by rw [show (zLc S n : Int64) = zLc S k from (by rw [e9] : (zLc S k : Int64) = zLc S n).symm]; exact hl
        refine lv_ldc2 hx hb hown (htg _ tw_232) dL_looks_165 ?_
        refine lv_ldc2 hx hb hown (htg _ tw_232) dL_looks_168 ?_
        refine lv_ldc2 hx hb hown (htg _ tw_232) dL_looks_171 ?_
        refine lv_lload_n hx hb dL_looks_174 rfl (lv_at hl 1 rfl) ?_
        refine lv_lmul hx hb dL_looks_175 ?_
        refine lv_aload_n hx hb dL_looks_176 rfl (lv_at hl 0 rfl) ?_
        refine lv_iconst (v := 0) hx hb dL_looks_177 (by decide) ?_
        refine zr_calli (va_runV (As := [.int 0]) (rest := [.long ((31) * (zLc S n)), .long (31), .long (31)]) ⟨hx, hb, hml, hown, hts⟩ (mX4_setting l D y ad S (nI 0) 0 (by first | assumption | rfl | omega | decide)) (cwV 1 hts (zgV tw_246 tw_247 tw_248 tw_23 tw_210) rfl rfl rfl (by decide +kernel) ⟨Nat.le_of_ble_eq_true rfl, Nat.le_of_ble_eq_true rfl⟩) (zRO_preV hKN hP (ci := 4) (q0 := 0) rfl rfl [0, 1, 2, 5] rfl) rfl rfl hl.1 rfl (lv_room (Nat.le_of_ble_eq_true rfl)) dL_looks_178 ⟨Nat.zero_le _, Nat.zero_le _⟩) hS (fun r_2 H locs hw_178 hT hS => ?_)
        replace hP := hT _ _ hP
        obtain rfl : r_2 = S (6 + 0) := hw_178
        refine lv_i2l (v := (S (6 + 0)).toInt64) hx hb dL_looks_181 rfl ?_
        refine lv_ladd hx hb dL_looks_182 ?_
        refine lv_lmul hx hb dL_looks_183 ?_
        refine lv_aload_n hx hb dL_looks_184 rfl (lv_at hl 0 rfl) ?_
        refine lv_iconst (v := 1) hx hb dL_looks_185 (by decide) ?_
        refine zr_calli (va_runV (As := [.int 1]) (rest := [.long ((31) * (((31) * (zLc S n)) + ((S (6 + 0)).toInt64))), .long (31)]) ⟨hx, hb, hml, hown, hts⟩ (mX4_setting l D y ad S (nI 0) 1 (by first | assumption | rfl | omega | decide)) (cwV 1 hts (zgV tw_246 tw_247 tw_248 tw_23 tw_210) rfl rfl rfl (by decide +kernel) ⟨Nat.le_of_ble_eq_true rfl, Nat.le_of_ble_eq_true rfl⟩) (zRO_preV hKN hP (ci := 4) (q0 := 0) rfl rfl [0, 1, 2, 5] rfl) rfl rfl hl.1 rfl (lv_room (Nat.le_of_ble_eq_true rfl)) dL_looks_186 ⟨Nat.zero_le _, Nat.zero_le _⟩) hS (fun r_3 H locs hw_186 hT hS => ?_)
        replace hP := hT _ _ hP
        obtain rfl : r_3 = S (6 + 1) := hw_186
        refine lv_i2l (v := (S (6 + 1)).toInt64) hx hb dL_looks_189 rfl ?_
        refine lv_ladd hx hb dL_looks_190 ?_
        refine lv_lmul hx hb dL_looks_191 ?_
        refine lv_aload_n hx hb dL_looks_192 rfl (lv_at hl 0 rfl) ?_
        refine lv_iconst (v := 2) hx hb dL_looks_193 (by decide) ?_
        refine zr_calli (va_runV (As := [.int 2]) (rest := [.long ((31) * (((31) * (((31) * (zLc S n)) + ((S (6 + 0)).toInt64))) + ((S (6 + 1)).toInt64)))]) ⟨hx, hb, hml, hown, hts⟩ (mX4_setting l D y ad S (nI 0) 2 (by first | assumption | rfl | omega | decide)) (cwV 1 hts (zgV tw_246 tw_247 tw_248 tw_23 tw_210) rfl rfl rfl (by decide +kernel) ⟨Nat.le_of_ble_eq_true rfl, Nat.le_of_ble_eq_true rfl⟩) (zRO_preV hKN hP (ci := 4) (q0 := 0) rfl rfl [0, 1, 2, 5] rfl) rfl rfl hl.1 rfl (lv_room (Nat.le_of_ble_eq_true rfl)) dL_looks_194 ⟨Nat.zero_le _, Nat.zero_le _⟩) hS (fun r_4 H locs hw_194 hT hS => ?_)
        replace hP := hT _ _ hP
        obtain rfl : r_4 = S (6 + 2) := hw_194
        refine lv_i2l (v := (S (6 + 2)).toInt64) hx hb dL_looks_197 rfl ?_
        refine lv_ladd hx hb dL_looks_198 ?_
        refine W.widen (k := 0) (n := 0) (by first | exact Nat.le_of_ble_eq_true rfl | omega) (by first | exact Nat.le_of_ble_eq_true rfl | omega) ?_
        exact W.lret (v := (((31) * (((31) * (((31) * (zLc S n)) + ((S (6 + 0)).toInt64))) + ((S (6 + 1)).toInt64))) + ((S (6 + 2)).toInt64))) hx hb hr (fun t ht hW => ⟨⟨((31) * (((31) * (((31) * (zLc S n)) + ((S (6 + 0)).toInt64))) + ((S (6 + 1)).toInt64))) + ((S (6 + 2)).toInt64), ((cm2, rd2, td2, od2), fr2), rfl, ⟨rfl, hF2⟩, ⟨by rw [ht]; exact hP, hD⟩⟩, hS.F ht⟩) hS.2.2 dL_looks_199
      · replace c_73 : ¬ n ≤ k := fun h => c_73 ((nI_leI (a := n) (b := k) (by omega) (by omega)).mpr h)
        refine lv_ldc2 hx hb hown (htg _ tw_232) dL_looks_76 ?_
        refine lv_lload_n hx hb dL_looks_79 rfl (lv_at hl 1 rfl) ?_
        refine lv_lmul hx hb dL_looks_80 ?_
        refine lv_aload_n hx hb dL_looks_81 rfl (lv_at hl 0 rfl) ?_
        refine lv_iload_n hx hb dL_looks_82 rfl (lv_at hl 2 rfl) ?_
        refine lv_iconst (v := 0) hx hb dL_looks_83 (by decide) ?_
        refine zw_calli (wr := [((ad 10), .inr (1, [.ref (ad 11), .int (nI ro), .int (nI rv)]))]) (w1 := (fun u : ((Nat → Int32) × (Nat → Int32) × (Nat → Int32) × (Nat → Int32)) => [((ad 0), .inr (4, [.ref (ad 1), .ref (ad 8), .ref (ad 9), .ref (ad 10), .ref (ad 54), .ref (ad 59), .ref (ad 60), .int (nI 0)])), ((ad 1), .inr (2, [.ref (ad 2), .ref (ad 3), .ref (ad 4), .ref (ad 5), .ref (ad 6), .ref (ad 7), .int (S 0), .int (S 1), .int (S 4), .int (S 5)])), ((ad 2), .inl (y 0, 32, .inl (zT S))), ((ad 3), .inl (y 0, 16, .inl (zU S))), ((ad 4), .inl (y 0, 2, .inl (zB S))), ((ad 5), .inl (y 0, 3, .inl (zE S))), ((ad 6), .inl (y 0, 384, .inl (zR S))), ((ad 7), .inl (y 0, 6, .inl (zY S))), ((ad 54), .inr (0, [.ref (ad 55), .ref (ad 75), .ref (ad 56), .ref (ad 57), .ref (ad 58), .int 1])), ((ad 55), .inl (y 0, 12, .inl u.1)), ((ad 56), .inl (y 0, 192, .inl u.2.1)), ((ad 57), .inl (y 0, 192, .inl u.2.2.1)), ((ad 58), .inl (y 0, 16, .inl u.2.2.2)), ((ad 75), .inl (y 0, 192, .inl (zOf u.1)))])) hP hD hS hA [0, 1, 2, 3, 4, 5, 6, 7, 9, 10, 11, 12, 13, 14] [8] rfl rfl (by decide +kernel) (by decide +kernel) (va_runV (As := [.int (nI k), .int 0]) (rest := [.long ((31) * (zLc S k))]) ⟨hx, hb, hml, hown, hts⟩ (mX4_surveyOf l D y _ ad S (nI 0) cm2 rd2 td2 od2 fr2 n k 0 (hO.1) (hO.2.1) (hO.2.2.1) (hO.2.2.2.1) (hF2) (by first | assumption | rfl | omega | decide) (by first | assumption | rfl | omega | decide)) (cwV 2 hts (zgV tw_240 tw_241 tw_242 tw_23 tw_189) rfl rfl rfl (by decide +kernel) ⟨Nat.le_of_ble_eq_true rfl, Nat.le_of_ble_eq_true rfl⟩) (zRW_preV hKN hP hD (ci := 4) (q0 := 0) rfl rfl [0, 1, 2, 3, 4, 5, 6, 7, 9, 10, 11, 12, 13, 14] rfl (by decide)) rfl rfl hl.1 rfl (lv_room (Nat.le_of_ble_eq_true rfl)) dL_looks_84 ⟨Nat.zero_le _, Nat.zero_le _⟩) (fun r_5 u_6 H locs hw_84 hP hD hS => ?_)
        have hP : va_P D vwCl [((ad 10), .inr (1, [.ref (ad 11), .int (nI ro), .int (nI rv)])), ((ad 0), .inr (4, [.ref (ad 1), .ref (ad 8), .ref (ad 9), .ref (ad 10), .ref (ad 54), .ref (ad 59), .ref (ad 60), .int (nI 0)])), ((ad 1), .inr (2, [.ref (ad 2), .ref (ad 3), .ref (ad 4), .ref (ad 5), .ref (ad 6), .ref (ad 7), .int (S 0), .int (S 1), .int (S 4), .int (S 5)])), ((ad 2), .inl (y 0, 32, .inl (zT S))), ((ad 3), .inl (y 0, 16, .inl (zU S))), ((ad 4), .inl (y 0, 2, .inl (zB S))), ((ad 5), .inl (y 0, 3, .inl (zE S))), ((ad 6), .inl (y 0, 384, .inl (zR S))), ((ad 7), .inl (y 0, 6, .inl (zY S))), ((ad 54), .inr (0, [.ref (ad 55), .ref (ad 75), .ref (ad 56), .ref (ad 57), .ref (ad 58), .int 1])), ((ad 55), .inl (y 0, 12, .inl u_6.1)), ((ad 56), .inl (y 0, 192, .inl u_6.2.1)), ((ad 57), .inl (y 0, 192, .inl u_6.2.2.1)), ((ad 58), .inl (y 0, 16, .inl u_6.2.2.2)), ((ad 75), .inl (y 0, 192, .inl (zOf u_6.1)))] H := hP
        have hD : va_D A [((ad 10), .inr (1, [.ref (ad 11), .int (nI ro), .int (nI rv)])), ((ad 0), .inr (4, [.ref (ad 1), .ref (ad 8), .ref (ad 9), .ref (ad 10), .ref (ad 54), .ref (ad 59), .ref (ad 60), .int (nI 0)])), ((ad 1), .inr (2, [.ref (ad 2), .ref (ad 3), .ref (ad 4), .ref (ad 5), .ref (ad 6), .ref (ad 7), .int (S 0), .int (S 1), .int (S 4), .int (S 5)])), ((ad 2), .inl (y 0, 32, .inl (zT S))), ((ad 3), .inl (y 0, 16, .inl (zU S))), ((ad 4), .inl (y 0, 2, .inl (zB S))), ((ad 5), .inl (y 0, 3, .inl (zE S))), ((ad 6), .inl (y 0, 384, .inl (zR S))), ((ad 7), .inl (y 0, 6, .inl (zY S))), ((ad 54), .inr (0, [.ref (ad 55), .ref (ad 75), .ref (ad 56), .ref (ad 57), .ref (ad 58), .int 1])), ((ad 55), .inl (y 0, 12, .inl u_6.1)), ((ad 56), .inl (y 0, 192, .inl u_6.2.1)), ((ad 57), .inl (y 0, 192, .inl u_6.2.2.1)), ((ad 58), .inl (y 0, 16, .inl u_6.2.2.2)), ((ad 75), .inl (y 0, 192, .inl (zOf u_6.1)))] := hD
        obtain rfl : r_5 = qOfS S k 0 := (hw_84).1
        refine zz_top (y := S (57 + 65 * k)) (qOfS_0) ?_
        refine lv_i2l (v := (S (57 + 65 * k)).toInt64) hx hb dL_looks_87 rfl ?_
        refine lv_ladd hx hb dL_looks_88 ?_
        refine lv_lstore_n (lv' := [(1, .long (((31) * (zLc S k)) + ((S (57 + 65 * k)).toInt64))), (0, .ref (ad 0)), (3, .int (nI k))]) hx hb dL_looks_89 rfl hl (by decide) rfl (fun ls hl => ?_)
        refine lv_iconst (v := 0) hx hb dL_looks_90 (by decide) ?_
        refine lv_istore (lv' := [(4, .int 0), (1, .long (((31) * (zLc S k)) + ((S (57 + 65 * k)).toInt64))), (0, .ref (ad 0)), (3, .int (nI k))]) hx hb dL_looks_91 hl (by decide) rfl (fun ls hl => ?_)
        refine zloop (fun j : Nat => 96 - j) (fun j H locs ls => ∃ cm3 : Nat → Int32, ∃ rd3 : Nat → Int32, ∃ td3 : Nat → Int32, ∃ od3 : Nat → Int32, ∃ fr3 : Int32, j ≤ 96 ∧ zFq S n cm3 rd3 td3 fr3 ∧ va_P D vwCl [((ad 10), .inr (1, [.ref (ad 11), .int (nI ro), .int (nI rv)])), ((ad 0), .inr (4, [.ref (ad 1), .ref (ad 8), .ref (ad 9), .ref (ad 10), .ref (ad 54), .ref (ad 59), .ref (ad 60), .int (nI 0)])), ((ad 1), .inr (2, [.ref (ad 2), .ref (ad 3), .ref (ad 4), .ref (ad 5), .ref (ad 6), .ref (ad 7), .int (S 0), .int (S 1), .int (S 4), .int (S 5)])), ((ad 2), .inl (y 0, 32, .inl (zT S))), ((ad 3), .inl (y 0, 16, .inl (zU S))), ((ad 4), .inl (y 0, 2, .inl (zB S))), ((ad 5), .inl (y 0, 3, .inl (zE S))), ((ad 6), .inl (y 0, 384, .inl (zR S))), ((ad 7), .inl (y 0, 6, .inl (zY S))), ((ad 54), .inr (0, [.ref (ad 55), .ref (ad 75), .ref (ad 56), .ref (ad 57), .ref (ad 58), .int fr3])), ((ad 55), .inl (y 0, 12, .inl cm3)), ((ad 56), .inl (y 0, 192, .inl rd3)), ((ad 57), .inl (y 0, 192, .inl td3)), ((ad 58), .inl (y 0, 16, .inl od3)), ((ad 75), .inl (y 0, 192, .inl (zOf cm3)))] H ∧ va_D A [((ad 10), .inr (1, [.ref (ad 11), .int (nI ro), .int (nI rv)])), ((ad 0), .inr (4, [.ref (ad 1), .ref (ad 8), .ref (ad 9), .ref (ad 10), .ref (ad 54), .ref (ad 59), .ref (ad 60), .int (nI 0)])), ((ad 1), .inr (2, [.ref (ad 2), .ref (ad 3), .ref (ad 4), .ref (ad 5), .ref (ad 6), .ref (ad 7), .int (S 0), .int (S 1), .int (S 4), .int (S 5)])), ((ad 2), .inl (y 0, 32, .inl (zT S))), ((ad 3), .inl (y 0, 16, .inl (zU S))), ((ad 4), .inl (y 0, 2, .inl (zB S))), ((ad 5), .inl (y 0, 3, .inl (zE S))), ((ad 6), .inl (y 0, 384, .inl (zR S))), ((ad 7), .inl (y 0, 6, .inl (zY S))), ((ad 54), .inr (0, [.ref (ad 55), .ref (ad 75), .ref (ad 56), .ref (ad 57), .ref (ad 58), .int fr3])), ((ad 55), .inl (y 0, 12, .inl cm3)), ((ad 56), .inl (y 0, 192, .inl rd3)), ((ad 57), .inl (y 0, 192, .inl td3)), ((ad 58), .inl (y 0, 16, .inl od3)), ((ad 75), .inl (y 0, 192, .inl (zOf cm3)))] ∧ va_S A s.heap H locs ∧ lv_has ls 5 [(0, .ref (ad 0)), (1, .long (zLd S k (zLc S k) j)), (3, .int (nI k)), (4, .int (nI j))]) 93 (fun _ => 0) (fun _ => 0) ?_ (0) ⟨u_6.1, u_6.2.1, u_6.2.2.1, u_6.2.2.2, 1, by omega, (Or.inr ⟨rfl, hw_84.2⟩), hP, hD, hS, lv_sub hl [2, 1, 3, 0] rfl⟩
        clear hl hS hP hD
        rintro j H locs ls ⟨cm3, rd3, td3, od3, fr3, hj, hF3, hP, hD, hS, hl⟩ ih93
        refine lv_iload hx hb dL_looks_93 (lv_at hl 3 rfl) ?_
        refine lv_bipush (v := 96) hx hb dL_looks_95 (by decide) ?_
        refine lv_icmp_ge (tgt := 159) hx hb dL_looks_97 (by decide) (fun c_97 => ?_) (fun c_97 => ?_)
        · replace c_97 : 96 ≤ j := (nI_leI (a := 96) (b := j) (by omega) (by omega)).mp c_97
          have e6 : j = 96 := by omega
          have hl : lv_has ls 5 [(0, .ref (ad 0)), (1, .long (zLc S (k + 1))), (3, .int (nI k)), (4, .int (nI j))] := by rw [show (zLc S (k + 1) : Int64) = zLd S k (zLc S k) j from (by rw [e6]; rfl : (zLd S k (zLc S k) j : Int64) = zLc S (k + 1)).symm]; exact hl
          refine lv_iinc (v := nI (k + 1)) (lv' := [(3, .int (nI (k + 1))), (0, .ref (ad 0)), (1, .long (zLc S (k + 1))), (4, .int (nI j))]) hx hb dL_looks_159 hl (k := 2) rfl (nI_1 k) (by decide) rfl (fun ls hl => ?_)
          refine lv_goto (tgt := 67) hx hb dL_looks_162 (by decide) ?_
          have hP := hP.sub (ws' := [((ad 0), .inr (4, [.ref (ad 1), .ref (ad 8), .ref (ad 9), .ref (ad 10), .ref (ad 54), .ref (ad 59), .ref (ad 60), .int (nI 0)])), ((ad 1), .inr (2, [.ref (ad 2), .ref (ad 3), .ref (ad 4), .ref (ad 5), .ref (ad 6), .ref (ad 7), .int (S 0), .int (S 1), .int (S 4), .int (S 5)])), ((ad 2), .inl (y 0, 32, .inl (zT S))), ((ad 3), .inl (y 0, 16, .inl (zU S))), ((ad 4), .inl (y 0, 2, .inl (zB S))), ((ad 5), .inl (y 0, 3, .inl (zE S))), ((ad 6), .inl (y 0, 384, .inl (zR S))), ((ad 7), .inl (y 0, 6, .inl (zY S))), ((ad 10), .inr (1, [.ref (ad 11), .int (nI ro), .int (nI rv)])), ((ad 54), .inr (0, [.ref (ad 55), .ref (ad 75), .ref (ad 56), .ref (ad 57), .ref (ad 58), .int fr3])), ((ad 55), .inl (y 0, 12, .inl cm3)), ((ad 56), .inl (y 0, 192, .inl rd3)), ((ad 57), .inl (y 0, 192, .inl td3)), ((ad 58), .inl (y 0, 16, .inl od3)), ((ad 75), .inl (y 0, 192, .inl (zOf cm3)))]) [1, 2, 3, 4, 5, 6, 7, 8, 0, 9, 10, 11, 12, 13, 14] rfl
          have hD := hD.sub (ws' := [((ad 0), .inr (4, [.ref (ad 1), .ref (ad 8), .ref (ad 9), .ref (ad 10), .ref (ad 54), .ref (ad 59), .ref (ad 60), .int (nI 0)])), ((ad 1), .inr (2, [.ref (ad 2), .ref (ad 3), .ref (ad 4), .ref (ad 5), .ref (ad 6), .ref (ad 7), .int (S 0), .int (S 1), .int (S 4), .int (S 5)])), ((ad 2), .inl (y 0, 32, .inl (zT S))), ((ad 3), .inl (y 0, 16, .inl (zU S))), ((ad 4), .inl (y 0, 2, .inl (zB S))), ((ad 5), .inl (y 0, 3, .inl (zE S))), ((ad 6), .inl (y 0, 384, .inl (zR S))), ((ad 7), .inl (y 0, 6, .inl (zY S))), ((ad 10), .inr (1, [.ref (ad 11), .int (nI ro), .int (nI rv)])), ((ad 54), .inr (0, [.ref (ad 55), .ref (ad 75), .ref (ad 56), .ref (ad 57), .ref (ad 58), .int fr3])), ((ad 55), .inl (y 0, 12, .inl cm3)), ((ad 56), .inl (y 0, 192, .inl rd3)), ((ad 57), .inl (y 0, 192, .inl td3)), ((ad 58), .inl (y 0, 16, .inl od3)), ((ad 75), .inl (y 0, 192, .inl (zOf cm3)))]) [1, 2, 3, 4, 5, 6, 7, 8, 0, 9, 10, 11, 12, 13, 14] (by decide) rfl
          exact ih67 (k + 1) _ _ _ (by omega) ⟨cm3, rd3, td3, od3, fr3, by omega, hF3, hP, hD, hS, lv_sub hl [1, 2, 0] rfl⟩
        · replace c_97 : ¬ 96 ≤ j := fun h => c_97 ((nI_leI (a := 96) (b := j) (by omega) (by omega)).mpr h)
          refine lv_ldc2 hx hb hown (htg _ tw_232) dL_looks_100 ?_
          refine lv_lload_n hx hb dL_looks_103 rfl (lv_at hl 1 rfl) ?_
          refine lv_lmul hx hb dL_looks_104 ?_
          refine lv_aload_n hx hb dL_looks_105 rfl (lv_at hl 0 rfl) ?_
          refine lv_iload_n hx hb dL_looks_106 rfl (lv_at hl 2 rfl) ?_
          refine lv_iload hx hb dL_looks_107 (lv_at hl 3 rfl) ?_
          refine lv_bipush (v := 6) hx hb dL_looks_109 (by decide) ?_
          refine lv_idiv hx hb dL_looks_111 (by decide) ?_
          refine zz_top (y := nI (j / 6)) (pk_div (by omega) (by decide) (by decide)) ?_
          refine lv_iload hx hb dL_looks_112 (lv_at hl 3 rfl) ?_
          refine lv_iconst (v := 3) hx hb dL_looks_114 (by decide) ?_
          refine lv_idiv hx hb dL_looks_115 (by decide) ?_
          refine zz_top (y := nI (j / 3)) (pk_div (by omega) (by decide) (by decide)) ?_
          refine lv_iconst (v := 2) hx hb dL_looks_116 (by decide) ?_
          refine lv_irem hx hb dL_looks_117 (by decide) ?_
          refine zz_top (y := nI ((j / 3) % 2)) (pk_rem (by omega) (by decide) (by decide)) ?_
          refine lv_iconst (v := 2) hx hb dL_looks_118 (by decide) ?_
          refine lv_iload hx hb dL_looks_119 (lv_at hl 3 rfl) ?_
          refine lv_iconst (v := 3) hx hb dL_looks_121 (by decide) ?_
          refine lv_irem hx hb dL_looks_122 (by decide) ?_
          refine zz_top (y := nI (j % 3)) (pk_rem (by omega) (by decide) (by decide)) ?_
          refine lv_imul hx hb dL_looks_123 ?_
          refine zz_top (y := nI (2 * (j % 3))) (pk_mul 2 (j % 3)) ?_
          refine zw_calli (wr := [((ad 10), .inr (1, [.ref (ad 11), .int (nI ro), .int (nI rv)]))]) (w1 := (fun u : ((Nat → Int32) × (Nat → Int32) × (Nat → Int32) × (Nat → Int32)) => [((ad 0), .inr (4, [.ref (ad 1), .ref (ad 8), .ref (ad 9), .ref (ad 10), .ref (ad 54), .ref (ad 59), .ref (ad 60), .int (nI 0)])), ((ad 1), .inr (2, [.ref (ad 2), .ref (ad 3), .ref (ad 4), .ref (ad 5), .ref (ad 6), .ref (ad 7), .int (S 0), .int (S 1), .int (S 4), .int (S 5)])), ((ad 2), .inl (y 0, 32, .inl (zT S))), ((ad 3), .inl (y 0, 16, .inl (zU S))), ((ad 4), .inl (y 0, 2, .inl (zB S))), ((ad 5), .inl (y 0, 3, .inl (zE S))), ((ad 6), .inl (y 0, 384, .inl (zR S))), ((ad 7), .inl (y 0, 6, .inl (zY S))), ((ad 54), .inr (0, [.ref (ad 55), .ref (ad 75), .ref (ad 56), .ref (ad 57), .ref (ad 58), .int 1])), ((ad 55), .inl (y 0, 12, .inl u.1)), ((ad 56), .inl (y 0, 192, .inl u.2.1)), ((ad 57), .inl (y 0, 192, .inl u.2.2.1)), ((ad 58), .inl (y 0, 16, .inl u.2.2.2)), ((ad 75), .inl (y 0, 192, .inl (zOf u.1)))])) hP hD hS hA [1, 2, 3, 4, 5, 6, 7, 8, 9, 10, 11, 12, 13, 14] [0] rfl rfl (by decide +kernel) (by decide +kernel) (va_runV (As := [.int (nI k), .int (nI (j / 6)), .int (nI ((j / 3) % 2)), .int (nI (2 * (j % 3)))]) (rest := [.long ((31) * (zLd S k (zLc S k) j))]) ⟨hx, hb, hml, hown, hts⟩ (mX4_reading l D y _ ad S (nI 0) cm3 rd3 td3 od3 fr3 n k (j / 6) ((j / 3) % 2) (2 * (j % 3)) (hO.1) (hO.2.1) (hO.2.2.1) (hO.2.2.2.1) (hF3) (by first | assumption | rfl | omega | decide) (by first | assumption | rfl | omega | decide) (by first | assumption | rfl | omega | decide) (by first | assumption | rfl | omega | decide)) (cwV 4 hts (zgV tw_243 tw_244 tw_245 tw_23 tw_180) rfl rfl rfl (by decide +kernel) ⟨Nat.le_of_ble_eq_true rfl, Nat.le_of_ble_eq_true rfl⟩) (zRW_preV hKN hP hD (ci := 4) (q0 := 1) rfl rfl [1, 2, 3, 4, 5, 6, 7, 8, 9, 10, 11, 12, 13, 14] rfl (by decide)) rfl rfl hl.1 rfl (lv_room (Nat.le_of_ble_eq_true rfl)) dL_looks_124 ⟨Nat.zero_le _, Nat.zero_le _⟩) (fun r_7 u_8 H locs hw_124 hP hD hS => ?_)
          have hP : va_P D vwCl [((ad 10), .inr (1, [.ref (ad 11), .int (nI ro), .int (nI rv)])), ((ad 0), .inr (4, [.ref (ad 1), .ref (ad 8), .ref (ad 9), .ref (ad 10), .ref (ad 54), .ref (ad 59), .ref (ad 60), .int (nI 0)])), ((ad 1), .inr (2, [.ref (ad 2), .ref (ad 3), .ref (ad 4), .ref (ad 5), .ref (ad 6), .ref (ad 7), .int (S 0), .int (S 1), .int (S 4), .int (S 5)])), ((ad 2), .inl (y 0, 32, .inl (zT S))), ((ad 3), .inl (y 0, 16, .inl (zU S))), ((ad 4), .inl (y 0, 2, .inl (zB S))), ((ad 5), .inl (y 0, 3, .inl (zE S))), ((ad 6), .inl (y 0, 384, .inl (zR S))), ((ad 7), .inl (y 0, 6, .inl (zY S))), ((ad 54), .inr (0, [.ref (ad 55), .ref (ad 75), .ref (ad 56), .ref (ad 57), .ref (ad 58), .int 1])), ((ad 55), .inl (y 0, 12, .inl u_8.1)), ((ad 56), .inl (y 0, 192, .inl u_8.2.1)), ((ad 57), .inl (y 0, 192, .inl u_8.2.2.1)), ((ad 58), .inl (y 0, 16, .inl u_8.2.2.2)), ((ad 75), .inl (y 0, 192, .inl (zOf u_8.1)))] H := hP
          have hD : va_D A [((ad 10), .inr (1, [.ref (ad 11), .int (nI ro), .int (nI rv)])), ((ad 0), .inr (4, [.ref (ad 1), .ref (ad 8), .ref (ad 9), .ref (ad 10), .ref (ad 54), .ref (ad 59), .ref (ad 60), .int (nI 0)])), ((ad 1), .inr (2, [.ref (ad 2), .ref (ad 3), .ref (ad 4), .ref (ad 5), .ref (ad 6), .ref (ad 7), .int (S 0), .int (S 1), .int (S 4), .int (S 5)])), ((ad 2), .inl (y 0, 32, .inl (zT S))), ((ad 3), .inl (y 0, 16, .inl (zU S))), ((ad 4), .inl (y 0, 2, .inl (zB S))), ((ad 5), .inl (y 0, 3, .inl (zE S))), ((ad 6), .inl (y 0, 384, .inl (zR S))), ((ad 7), .inl (y 0, 6, .inl (zY S))), ((ad 54), .inr (0, [.ref (ad 55), .ref (ad 75), .ref (ad 56), .ref (ad 57), .ref (ad 58), .int 1])), ((ad 55), .inl (y 0, 12, .inl u_8.1)), ((ad 56), .inl (y 0, 192, .inl u_8.2.1)), ((ad 57), .inl (y 0, 192, .inl u_8.2.2.1)), ((ad 58), .inl (y 0, 16, .inl u_8.2.2.2)), ((ad 75), .inl (y 0, 192, .inl (zOf u_8.1)))] := hD
          obtain rfl : r_7 = qOfR S k (j / 6) ((j / 3) % 2) (2 * (j % 3)) := (hw_124).1
          refine lv_i2l (v := (qOfR S k (j / 6) ((j / 3) % 2) (2 * (j % 3))).toInt64) hx hb dL_looks_127 rfl ?_
          refine lv_ladd hx hb dL_looks_128 ?_
          refine lv_ldc2 hx hb hown (htg _ tw_233) dL_looks_129 ?_
          refine lv_aload_n hx hb dL_looks_132 rfl (lv_at hl 0 rfl) ?_
          refine lv_iload_n hx hb dL_looks_133 rfl (lv_at hl 2 rfl) ?_
          refine lv_iload hx hb dL_looks_134 (lv_at hl 3 rfl) ?_
          refine lv_bipush (v := 6) hx hb dL_looks_136 (by decide) ?_
          refine lv_idiv hx hb dL_looks_138 (by decide) ?_
          refine zz_top (y := nI (j / 6)) (pk_div (by omega) (by decide) (by decide)) ?_
          refine lv_iload hx hb dL_looks_139 (lv_at hl 3 rfl) ?_
          refine lv_iconst (v := 3) hx hb dL_looks_141 (by decide) ?_
          refine lv_idiv hx hb dL_looks_142 (by decide) ?_
          refine zz_top (y := nI (j / 3)) (pk_div (by omega) (by decide) (by decide)) ?_
          refine lv_iconst (v := 2) hx hb dL_looks_143 (by decide) ?_
          refine lv_irem hx hb dL_looks_144 (by decide) ?_
          refine zz_top (y := nI ((j / 3) % 2)) (pk_rem (by omega) (by decide) (by decide)) ?_
          refine lv_iconst (v := 0) hx hb dL_looks_145 (by decide) ?_
          refine zw_calli (wr := [((ad 10), .inr (1, [.ref (ad 11), .int (nI ro), .int (nI rv)]))]) (w1 := (fun u : ((Nat → Int32) × (Nat → Int32) × (Nat → Int32) × (Nat → Int32)) => [((ad 0), .inr (4, [.ref (ad 1), .ref (ad 8), .ref (ad 9), .ref (ad 10), .ref (ad 54), .ref (ad 59), .ref (ad 60), .int (nI 0)])), ((ad 1), .inr (2, [.ref (ad 2), .ref (ad 3), .ref (ad 4), .ref (ad 5), .ref (ad 6), .ref (ad 7), .int (S 0), .int (S 1), .int (S 4), .int (S 5)])), ((ad 2), .inl (y 0, 32, .inl (zT S))), ((ad 3), .inl (y 0, 16, .inl (zU S))), ((ad 4), .inl (y 0, 2, .inl (zB S))), ((ad 5), .inl (y 0, 3, .inl (zE S))), ((ad 6), .inl (y 0, 384, .inl (zR S))), ((ad 7), .inl (y 0, 6, .inl (zY S))), ((ad 54), .inr (0, [.ref (ad 55), .ref (ad 75), .ref (ad 56), .ref (ad 57), .ref (ad 58), .int 1])), ((ad 55), .inl (y 0, 12, .inl u.1)), ((ad 56), .inl (y 0, 192, .inl u.2.1)), ((ad 57), .inl (y 0, 192, .inl u.2.2.1)), ((ad 58), .inl (y 0, 16, .inl u.2.2.2)), ((ad 75), .inl (y 0, 192, .inl (zOf u.1)))])) hP hD hS hA [1, 2, 3, 4, 5, 6, 7, 8, 9, 10, 11, 12, 13, 14] [0] rfl rfl (by decide +kernel) (by decide +kernel) (va_runV (As := [.int (nI k), .int (nI (j / 6)), .int (nI ((j / 3) % 2)), .int 0]) (rest := [.long (7), .long (((31) * (zLd S k (zLc S k) j)) + ((qOfR S k (j / 6) ((j / 3) % 2) (2 * (j % 3))).toInt64))]) ⟨hx, hb, hml, hown, hts⟩ (mX4_reading l D y _ ad S (nI 0) u_8.1 u_8.2.1 u_8.2.2.1 u_8.2.2.2 1 n k (j / 6) ((j / 3) % 2) 0 (hO.1) (hO.2.1) (hO.2.2.1) (hO.2.2.2.1) ((Or.inr ⟨rfl, hw_124.2⟩)) (by first | assumption | rfl | omega | decide) (by first | assumption | rfl | omega | decide) (by first | assumption | rfl | omega | decide) (by first | assumption | rfl | omega | decide)) (cwV 4 hts (zgV tw_243 tw_244 tw_245 tw_23 tw_180) rfl rfl rfl (by decide +kernel) ⟨Nat.le_of_ble_eq_true rfl, Nat.le_of_ble_eq_true rfl⟩) (zRW_preV hKN hP hD (ci := 4) (q0 := 1) rfl rfl [1, 2, 3, 4, 5, 6, 7, 8, 9, 10, 11, 12, 13, 14] rfl (by decide)) rfl rfl hl.1 rfl (lv_room (Nat.le_of_ble_eq_true rfl)) dL_looks_146 ⟨Nat.zero_le _, Nat.zero_le _⟩) (fun r_9 u_10 H locs hw_146 hP hD hS => ?_)
          have hP : va_P D vwCl [((ad 10), .inr (1, [.ref (ad 11), .int (nI ro), .int (nI rv)])), ((ad 0), .inr (4, [.ref (ad 1), .ref (ad 8), .ref (ad 9), .ref (ad 10), .ref (ad 54), .ref (ad 59), .ref (ad 60), .int (nI 0)])), ((ad 1), .inr (2, [.ref (ad 2), .ref (ad 3), .ref (ad 4), .ref (ad 5), .ref (ad 6), .ref (ad 7), .int (S 0), .int (S 1), .int (S 4), .int (S 5)])), ((ad 2), .inl (y 0, 32, .inl (zT S))), ((ad 3), .inl (y 0, 16, .inl (zU S))), ((ad 4), .inl (y 0, 2, .inl (zB S))), ((ad 5), .inl (y 0, 3, .inl (zE S))), ((ad 6), .inl (y 0, 384, .inl (zR S))), ((ad 7), .inl (y 0, 6, .inl (zY S))), ((ad 54), .inr (0, [.ref (ad 55), .ref (ad 75), .ref (ad 56), .ref (ad 57), .ref (ad 58), .int 1])), ((ad 55), .inl (y 0, 12, .inl u_10.1)), ((ad 56), .inl (y 0, 192, .inl u_10.2.1)), ((ad 57), .inl (y 0, 192, .inl u_10.2.2.1)), ((ad 58), .inl (y 0, 16, .inl u_10.2.2.2)), ((ad 75), .inl (y 0, 192, .inl (zOf u_10.1)))] H := hP
          have hD : va_D A [((ad 10), .inr (1, [.ref (ad 11), .int (nI ro), .int (nI rv)])), ((ad 0), .inr (4, [.ref (ad 1), .ref (ad 8), .ref (ad 9), .ref (ad 10), .ref (ad 54), .ref (ad 59), .ref (ad 60), .int (nI 0)])), ((ad 1), .inr (2, [.ref (ad 2), .ref (ad 3), .ref (ad 4), .ref (ad 5), .ref (ad 6), .ref (ad 7), .int (S 0), .int (S 1), .int (S 4), .int (S 5)])), ((ad 2), .inl (y 0, 32, .inl (zT S))), ((ad 3), .inl (y 0, 16, .inl (zU S))), ((ad 4), .inl (y 0, 2, .inl (zB S))), ((ad 5), .inl (y 0, 3, .inl (zE S))), ((ad 6), .inl (y 0, 384, .inl (zR S))), ((ad 7), .inl (y 0, 6, .inl (zY S))), ((ad 54), .inr (0, [.ref (ad 55), .ref (ad 75), .ref (ad 56), .ref (ad 57), .ref (ad 58), .int 1])), ((ad 55), .inl (y 0, 12, .inl u_10.1)), ((ad 56), .inl (y 0, 192, .inl u_10.2.1)), ((ad 57), .inl (y 0, 192, .inl u_10.2.2.1)), ((ad 58), .inl (y 0, 16, .inl u_10.2.2.2)), ((ad 75), .inl (y 0, 192, .inl (zOf u_10.1)))] := hD
          obtain rfl : r_9 = qOfR S k (j / 6) ((j / 3) % 2) 0 := (hw_146).1
          refine zz_top (y := qRd S k (j / 6) ((j / 3) % 2) 0) (qOfR_0) ?_
          refine lv_i2l (v := (qRd S k (j / 6) ((j / 3) % 2) 0).toInt64) hx hb dL_looks_149 rfl ?_
          refine lv_lmul hx hb dL_looks_150 ?_
          refine lv_ladd hx hb dL_looks_151 ?_
          refine zz_topl (y := zLd S k (zLc S k) (j + 1)) (rfl) ?_
          refine lv_lstore_n (lv' := [(1, .long (zLd S k (zLc S k) (j + 1))), (0, .ref (ad 0)), (3, .int (nI k)), (4, .int (nI j))]) hx hb dL_looks_152 rfl hl (by decide) rfl (fun ls hl => ?_)
          refine lv_iinc (v := nI (j + 1)) (lv' := [(4, .int (nI (j + 1))), (1, .long (zLd S k (zLc S k) (j + 1))), (0, .ref (ad 0)), (3, .int (nI k))]) hx hb dL_looks_153 hl (k := 3) rfl (nI_1 j) (by decide) rfl (fun ls hl => ?_)
          refine lv_goto (tgt := 93) hx hb dL_looks_156 (by decide) ?_
          exact ih93 (j + 1) _ _ _ (by omega) ⟨u_10.1, u_10.2.1, u_10.2.2.1, u_10.2.2.2, 1, by omega, (Or.inr ⟨rfl, hw_146.2⟩), hP, hD, hS, lv_sub hl [2, 1, 3, 0] rfl⟩
    · replace c_36 : ¬ 112 ≤ q := fun h => c_36 ((nI_leI (a := 112) (b := q) (by omega) (by omega)).mpr h)
      refine lv_ldc2 hx hb hown (htg _ tw_232) dL_looks_39 ?_
      refine lv_lload_n hx hb dL_looks_42 rfl (lv_at hl 1 rfl) ?_
      refine lv_lmul hx hb dL_looks_43 ?_
      refine lv_aload_n hx hb dL_looks_44 rfl (lv_at hl 0 rfl) ?_
      refine lv_iload_n hx hb dL_looks_45 rfl (lv_at hl 2 rfl) ?_
      refine lv_bipush (v := 7) hx hb dL_looks_46 (by decide) ?_
      refine lv_idiv hx hb dL_looks_48 (by decide) ?_
      refine zz_top (y := nI (q / 7)) (pk_div (by omega) (by decide) (by decide)) ?_
      refine lv_iload_n hx hb dL_looks_49 rfl (lv_at hl 2 rfl) ?_
      refine lv_bipush (v := 7) hx hb dL_looks_50 (by decide) ?_
      refine lv_irem hx hb dL_looks_52 (by decide) ?_
      refine zz_top (y := nI (q % 7)) (pk_rem (by omega) (by decide) (by decide)) ?_
      refine zr_calli (va_runV (As := [.int (nI (q / 7)), .int (nI (q % 7))]) (rest := [.long ((31) * (zLb S q))]) ⟨hx, hb, hml, hown, hts⟩ (mX4_levelOf l D y ad S (nI 0) (q / 7) (q % 7) (by first | assumption | rfl | omega | decide) (by first | assumption | rfl | omega | decide)) (cwV 2 hts (zgV tw_237 tw_238 tw_239 tw_23 tw_179) rfl rfl rfl (by decide +kernel) ⟨Nat.le_of_ble_eq_true rfl, Nat.le_of_ble_eq_true rfl⟩) (zRO_preV hKN hP (ci := 4) (q0 := 0) rfl rfl [0, 1, 2, 3, 4] rfl) rfl rfl hl.1 rfl (lv_room (Nat.le_of_ble_eq_true rfl)) dL_looks_53 ⟨Nat.zero_le _, Nat.zero_le _⟩) hS (fun r_11 H locs hw_53 hT hS => ?_)
      replace hP := hT _ _ hP
      obtain rfl : r_11 = qOfL S (q / 7) (q % 7) := hw_53
      refine lv_i2l (v := (qOfL S (q / 7) (q % 7)).toInt64) hx hb dL_looks_56 rfl ?_
      refine lv_ladd hx hb dL_looks_57 ?_
      refine zz_topl (y := zLb S (q + 1)) (rfl) ?_
      refine lv_lstore_n (lv' := [(1, .long (zLb S (q + 1))), (0, .ref (ad 0)), (3, .int (nI q))]) hx hb dL_looks_58 rfl hl (by decide) rfl (fun ls hl => ?_)
      refine lv_iinc (v := nI (q + 1)) (lv' := [(3, .int (nI (q + 1))), (1, .long (zLb S (q + 1))), (0, .ref (ad 0))]) hx hb dL_looks_59 hl (k := 2) rfl (nI_1 q) (by decide) rfl (fun ls hl => ?_)
      refine lv_goto (tgt := 33) hx hb dL_looks_62 (by decide) ?_
      exact ih33 (q + 1) _ _ _ (by omega) ⟨by omega, hP, hD, hS, lv_sub hl [2, 1, 0] rfl⟩
  · replace c_9 : ¬ 7 ≤ i := fun h => c_9 ((nI_leI (a := 7) (b := i) (by omega) (by omega)).mpr h)
    refine lv_ldc2 hx hb hown (htg _ tw_232) dL_looks_12 ?_
    refine lv_lload_n hx hb dL_looks_15 rfl (lv_at hl 1 rfl) ?_
    refine lv_lmul hx hb dL_looks_16 ?_
    refine lv_aload_n hx hb dL_looks_17 rfl (lv_at hl 0 rfl) ?_
    refine lv_iload_n hx hb dL_looks_18 rfl (lv_at hl 2 rfl) ?_
    refine zr_calli (va_runV (As := [.int (nI i)]) (rest := [.long ((31) * (zLa S i))]) ⟨hx, hb, hml, hown, hts⟩ (mX4_count l D y ad S (nI 0) ro rv i (by first | assumption | rfl | omega | decide)) (cwV 1 hts (zgV tw_234 tw_235 tw_236 tw_23 tw_205) rfl rfl rfl (by decide +kernel) ⟨Nat.le_of_ble_eq_true rfl, Nat.le_of_ble_eq_true rfl⟩) (zRO_preV hKN hP (ci := 4) (q0 := 0) rfl rfl [0, 1, 2, 3, 4, 8] rfl) rfl rfl hl.1 rfl (lv_room (Nat.le_of_ble_eq_true rfl)) dL_looks_19 ⟨Nat.zero_le _, Nat.zero_le _⟩) hS (fun r_12 H locs hw_19 hT hS => ?_)
    replace hP := hT _ _ hP
    obtain rfl : r_12 = qCt S (nI rv) i := hw_19
    refine lv_i2l (v := (qCt S (nI rv) i).toInt64) hx hb dL_looks_22 rfl ?_
    refine lv_ladd hx hb dL_looks_23 ?_
    refine zz_topl (y := zLa S (i + 1)) (by rw [qCt_b (by omega)]; rfl) ?_
    refine lv_lstore_n (lv' := [(1, .long (zLa S (i + 1))), (0, .ref (ad 0)), (3, .int (nI i))]) hx hb dL_looks_24 rfl hl (by decide) rfl (fun ls hl => ?_)
    refine lv_iinc (v := nI (i + 1)) (lv' := [(3, .int (nI (i + 1))), (1, .long (zLa S (i + 1))), (0, .ref (ad 0))]) hx hb dL_looks_25 hl (k := 2) rfl (nI_1 i) (by decide) rfl (fun ls hl => ?_)
    refine lv_goto (tgt := 6) hx hb dL_looks_28 (by decide) ?_
    exact ih6 (i + 1) _ _ _ (by omega) ⟨by omega, hP, hD, hS, lv_sub hl [2, 1, 0] rfl⟩

set_option maxHeartbeats 4000000 in
set_option maxRecDepth 100000 in
theorem mL_isLevel (l : Launch) (D : va_G) (y : Nat → ClassId) (ad : Nat → Nat) (S : Nat → Int32) (ro : Nat) (rv : Nat) (n : Nat) (b : Int) (v : Nat) (hG : zGd S n b) (hv : v < 16) : Met l yL_isLevel (ws_ yL_isLevel cL_isLevel 9 (some .boolean)) ({ frames := 3, cells := 0, slots := 0, locals := 70 }) (va_Pc [.ref (ad 0), .int (nI v)] (zRO D y [((ad 0), .inr (4, [.ref (ad 1), .ref (ad 8), .ref (ad 9), .ref (ad 10), .ref (ad 54), .ref (ad 59), .ref (ad 60), .int (nI 0)])), ((ad 1), .inr (2, [.ref (ad 2), .ref (ad 3), .ref (ad 4), .ref (ad 5), .ref (ad 6), .ref (ad 7), .int (S 0), .int (S 1), .int (S 4), .int (S 5)])), ((ad 2), .inl (y 0, 32, .inl (zT S))), ((ad 3), .inl (y 0, 16, .inl (zU S))), ((ad 4), .inl (y 0, 2, .inl (zB S))), ((ad 10), .inr (1, [.ref (ad 11), .int (nI ro), .int (nI rv)]))])) (va_Qi (fun (r : Int32) (_ : Unit) => r = 1) (fun _ _ => True) (fun _ => False)) 0 0 (fun _ => False) := by
  refine Met.ofW (cc := cL_isLevel) (maxL := 9) (ret := (some .boolean)) (by decide) rfl ?_
  intro p e s m args below meth c s₁ B hml hpre9
  obtain ⟨rfl, hP, hKN⟩ := hpre9
  have hK := hKN.1
  have hx := B.exec
  have hb := B.bytes
  have hr := B.returns
  have hts := atoms_spec (ws := (ws_ yL_isLevel cL_isLevel 9 (some .boolean))) B.pre
  have htg : ∀ w ∈ gT, w.before _ s = true := fun w h => hts w (List.mem_cons_of_mem _ h)
  have hown : s.vm.findClass RL = some m.cls := findClass_of_methodNamed B.named
  have hlocks := B.notSynchronized
  have hS : va_S (fun _ => False) s.heap s.heap [] := va_S.rf
  have hP : va_P D vwCl [((ad 0), .inr (4, [.ref (ad 1), .ref (ad 8), .ref (ad 9), .ref (ad 10), .ref (ad 54), .ref (ad 59), .ref (ad 60), .int (nI 0)])), ((ad 1), .inr (2, [.ref (ad 2), .ref (ad 3), .ref (ad 4), .ref (ad 5), .ref (ad 6), .ref (ad 7), .int (S 0), .int (S 1), .int (S 4), .int (S 5)])), ((ad 2), .inl (y 0, 32, .inl (zT S))), ((ad 3), .inl (y 0, 16, .inl (zU S))), ((ad 4), .inl (y 0, 2, .inl (zB S))), ((ad 10), .inr (1, [.ref (ad 11), .int (nI ro), .int (nI rv)]))] s.heap := hP
  have hl := lv_entry ([.ref (ad 0), .int (nI v)]) (n := 9) (Nat.le_of_ble_eq_true rfl)
  rw [lg_entry_eq]
  generalize (lg_sl ([.ref (ad 0), .int (nI v)]) ++ List.replicate (9 - (lg_sl ([.ref (ad 0), .int (nI v)])).length) Slot.unset).toArray = ls at hl ⊢
  have hl : lv_has ls 9 [(0, .ref (ad 0)), (1, .int (nI v))] := hl
  have hO := hG.1
  have ht4 := hG.1.2.2.2.1 v hv
  refine lv_aload_n hx hb dL_isLevel_0 rfl (lv_at hl 0 rfl) ?_
  refine lv_iload_n hx hb dL_isLevel_1 rfl (lv_at hl 1 rfl) ?_
  refine lv_iconst (v := 3) hx hb dL_isLevel_2 (by decide) ?_
  refine zr_calli (va_runV (As := [.int (nI v), .int 3]) (rest := []) ⟨hx, hb, hml, hown, hts⟩ (mX4_levelOf l D y ad S (nI 0) v 3 (by first | assumption | rfl | omega | decide) (by first | assumption | rfl | omega | decide)) (cwV 2 hts (zgV tw_237 tw_238 tw_239 tw_23 tw_179) rfl rfl rfl (by decide +kernel) ⟨Nat.le_of_ble_eq_true rfl, Nat.le_of_ble_eq_true rfl⟩) (zRO_preV hKN hP (ci := 4) (q0 := 0) rfl rfl [0, 1, 2, 3, 4] rfl) rfl rfl hl.1 rfl (lv_room (Nat.le_of_ble_eq_true rfl)) dL_isLevel_3 ⟨Nat.zero_le _, Nat.zero_le _⟩) hS (fun r_1 H locs hw_3 hT hS => ?_)
  replace hP := hT _ _ hP
  obtain rfl : r_1 = qOfL S v 3 := hw_3
  refine zz_top (y := qPr S v 0 0) (qOfL_3) ?_
  refine lv_aload_n hx hb dL_isLevel_6 rfl (lv_at hl 0 rfl) ?_
  refine lv_iload_n hx hb dL_isLevel_7 rfl (lv_at hl 1 rfl) ?_
  refine lv_iconst (v := 4) hx hb dL_isLevel_8 (by decide) ?_
  refine zr_calli (va_runV (As := [.int (nI v), .int 4]) (rest := [.int (qPr S v 0 0)]) ⟨hx, hb, hml, hown, hts⟩ (mX4_levelOf l D y ad S (nI 0) v 4 (by first | assumption | rfl | omega | decide) (by first | assumption | rfl | omega | decide)) (cwV 2 hts (zgV tw_237 tw_238 tw_239 tw_23 tw_179) rfl rfl rfl (by decide +kernel) ⟨Nat.le_of_ble_eq_true rfl, Nat.le_of_ble_eq_true rfl⟩) (zRO_preV hKN hP (ci := 4) (q0 := 0) rfl rfl [0, 1, 2, 3, 4] rfl) rfl rfl hl.1 rfl (lv_room (Nat.le_of_ble_eq_true rfl)) dL_isLevel_9 ⟨Nat.zero_le _, Nat.zero_le _⟩) hS (fun r_2 H locs hw_9 hT hS => ?_)
  replace hP := hT _ _ hP
  obtain rfl : r_2 = qOfL S v 4 := hw_9
  refine zz_top (y := qPr S v 0 1) (qOfL_4) ?_
  refine lv_iadd hx hb dL_isLevel_12 ?_
  refine lv_iconst (v := 2) hx hb dL_isLevel_13 (by decide) ?_
  refine lv_aload_n hx hb dL_isLevel_14 rfl (lv_at hl 0 rfl) ?_
  refine lv_iconst (v := 2) hx hb dL_isLevel_15 (by decide) ?_
  refine zr_calli (va_runV (As := [.int 2]) (rest := [.int 2, .int ((qPr S v 0 0) + (qPr S v 0 1))]) ⟨hx, hb, hml, hown, hts⟩ (mX4_count l D y ad S (nI 0) ro rv 2 (by first | assumption | rfl | omega | decide)) (cwV 1 hts (zgV tw_234 tw_235 tw_236 tw_23 tw_205) rfl rfl rfl (by decide +kernel) ⟨Nat.le_of_ble_eq_true rfl, Nat.le_of_ble_eq_true rfl⟩) (zRO_preV hKN hP (ci := 4) (q0 := 0) rfl rfl [0, 1, 2, 3, 4, 5] rfl) rfl rfl hl.1 rfl (lv_room (Nat.le_of_ble_eq_true rfl)) dL_isLevel_16 ⟨Nat.zero_le _, Nat.zero_le _⟩) hS (fun r_3 H locs hw_16 hT hS => ?_)
  replace hP := hT _ _ hP
  obtain rfl : r_3 = qCt S (nI rv) 2 := hw_16
  refine zz_top (y := S 2) (qCt_w (by decide)) ?_
  refine lv_imul hx hb dL_isLevel_19 ?_
  refine lv_icmp_ne (tgt := 51) hx hb dL_isLevel_20 (by decide) (fun c_20 => absurd (qPr_sum S v 0) c_20) (fun _ => ?_)
  refine lv_aload_n hx hb dL_isLevel_23 rfl (lv_at hl 0 rfl) ?_
  refine lv_iload_n hx hb dL_isLevel_24 rfl (lv_at hl 1 rfl) ?_
  refine lv_iconst (v := 5) hx hb dL_isLevel_25 (by decide) ?_
  refine zr_calli (va_runV (As := [.int (nI v), .int 5]) (rest := []) ⟨hx, hb, hml, hown, hts⟩ (mX4_levelOf l D y ad S (nI 0) v 5 (by first | assumption | rfl | omega | decide) (by first | assumption | rfl | omega | decide)) (cwV 2 hts (zgV tw_237 tw_238 tw_239 tw_23 tw_179) rfl rfl rfl (by decide +kernel) ⟨Nat.le_of_ble_eq_true rfl, Nat.le_of_ble_eq_true rfl⟩) (zRO_preV hKN hP (ci := 4) (q0 := 0) rfl rfl [0, 1, 2, 3, 4] rfl) rfl rfl hl.1 rfl (lv_room (Nat.le_of_ble_eq_true rfl)) dL_isLevel_26 ⟨Nat.zero_le _, Nat.zero_le _⟩) hS (fun r_4 H locs hw_26 hT hS => ?_)
  replace hP := hT _ _ hP
  obtain rfl : r_4 = qOfL S v 5 := hw_26
  refine zz_top (y := qPr S v 1 0) (qOfL_5) ?_
  refine lv_aload_n hx hb dL_isLevel_29 rfl (lv_at hl 0 rfl) ?_
  refine lv_iload_n hx hb dL_isLevel_30 rfl (lv_at hl 1 rfl) ?_
  refine lv_bipush (v := 6) hx hb dL_isLevel_31 (by decide) ?_
  refine zr_calli (va_runV (As := [.int (nI v), .int 6]) (rest := [.int (qPr S v 1 0)]) ⟨hx, hb, hml, hown, hts⟩ (mX4_levelOf l D y ad S (nI 0) v 6 (by first | assumption | rfl | omega | decide) (by first | assumption | rfl | omega | decide)) (cwV 2 hts (zgV tw_237 tw_238 tw_239 tw_23 tw_179) rfl rfl rfl (by decide +kernel) ⟨Nat.le_of_ble_eq_true rfl, Nat.le_of_ble_eq_true rfl⟩) (zRO_preV hKN hP (ci := 4) (q0 := 0) rfl rfl [0, 1, 2, 3, 4] rfl) rfl rfl hl.1 rfl (lv_room (Nat.le_of_ble_eq_true rfl)) dL_isLevel_33 ⟨Nat.zero_le _, Nat.zero_le _⟩) hS (fun r_5 H locs hw_33 hT hS => ?_)
  replace hP := hT _ _ hP
  obtain rfl : r_5 = qOfL S v 6 := hw_33
  refine zz_top (y := qPr S v 1 1) (qOfL_6) ?_
  refine lv_iadd hx hb dL_isLevel_36 ?_
  refine lv_iconst (v := 2) hx hb dL_isLevel_37 (by decide) ?_
  refine lv_aload_n hx hb dL_isLevel_38 rfl (lv_at hl 0 rfl) ?_
  refine lv_iconst (v := 3) hx hb dL_isLevel_39 (by decide) ?_
  refine zr_calli (va_runV (As := [.int 3]) (rest := [.int 2, .int ((qPr S v 1 0) + (qPr S v 1 1))]) ⟨hx, hb, hml, hown, hts⟩ (mX4_count l D y ad S (nI 0) ro rv 3 (by first | assumption | rfl | omega | decide)) (cwV 1 hts (zgV tw_234 tw_235 tw_236 tw_23 tw_205) rfl rfl rfl (by decide +kernel) ⟨Nat.le_of_ble_eq_true rfl, Nat.le_of_ble_eq_true rfl⟩) (zRO_preV hKN hP (ci := 4) (q0 := 0) rfl rfl [0, 1, 2, 3, 4, 5] rfl) rfl rfl hl.1 rfl (lv_room (Nat.le_of_ble_eq_true rfl)) dL_isLevel_40 ⟨Nat.zero_le _, Nat.zero_le _⟩) hS (fun r_6 H locs hw_40 hT hS => ?_)
  replace hP := hT _ _ hP
  obtain rfl : r_6 = qCt S (nI rv) 3 := hw_40
  refine zz_top (y := S 3) (qCt_w (by decide)) ?_
  refine lv_imul hx hb dL_isLevel_43 ?_
  refine lv_icmp_ne (tgt := 51) hx hb dL_isLevel_44 (by decide) (fun c_44 => absurd (qPr_sum S v 1) c_44) (fun _ => ?_)
  refine lv_iconst (v := 1) hx hb dL_isLevel_47 (by decide) ?_
  refine lv_goto (tgt := 52) hx hb dL_isLevel_48 (by decide) ?_
  refine lv_istore_n (lv' := [(2, .int 1), (0, .ref (ad 0)), (1, .int (nI v))]) hx hb dL_isLevel_52 rfl hl (by decide) rfl (fun ls hl => ?_)
  refine lv_aload_n hx hb dL_isLevel_53 rfl (lv_at hl 1 rfl) ?_
  refine lv_iload_n hx hb dL_isLevel_54 rfl (lv_at hl 2 rfl) ?_
  refine lv_iconst (v := 3) hx hb dL_isLevel_55 (by decide) ?_
  refine zr_calli (va_runV (As := [.int (nI v), .int 3]) (rest := []) ⟨hx, hb, hml, hown, hts⟩ (mX4_levelOf l D y ad S (nI 0) v 3 (by first | assumption | rfl | omega | decide) (by first | assumption | rfl | omega | decide)) (cwV 2 hts (zgV tw_237 tw_238 tw_239 tw_23 tw_179) rfl rfl rfl (by decide +kernel) ⟨Nat.le_of_ble_eq_true rfl, Nat.le_of_ble_eq_true rfl⟩) (zRO_preV hKN hP (ci := 4) (q0 := 0) rfl rfl [0, 1, 2, 3, 4] rfl) rfl rfl hl.1 rfl (lv_room (Nat.le_of_ble_eq_true rfl)) dL_isLevel_56 ⟨Nat.zero_le _, Nat.zero_le _⟩) hS (fun r_7 H locs hw_56 hT hS => ?_)
  replace hP := hT _ _ hP
  obtain rfl : r_7 = qOfL S v 3 := hw_56
  refine zz_top (y := qPr S v 0 0) (qOfL_3) ?_
  refine lv_aload_n hx hb dL_isLevel_59 rfl (lv_at hl 1 rfl) ?_
  refine lv_iload_n hx hb dL_isLevel_60 rfl (lv_at hl 2 rfl) ?_
  refine lv_iconst (v := 4) hx hb dL_isLevel_61 (by decide) ?_
  refine zr_calli (va_runV (As := [.int (nI v), .int 4]) (rest := [.int (qPr S v 0 0)]) ⟨hx, hb, hml, hown, hts⟩ (mX4_levelOf l D y ad S (nI 0) v 4 (by first | assumption | rfl | omega | decide) (by first | assumption | rfl | omega | decide)) (cwV 2 hts (zgV tw_237 tw_238 tw_239 tw_23 tw_179) rfl rfl rfl (by decide +kernel) ⟨Nat.le_of_ble_eq_true rfl, Nat.le_of_ble_eq_true rfl⟩) (zRO_preV hKN hP (ci := 4) (q0 := 0) rfl rfl [0, 1, 2, 3, 4] rfl) rfl rfl hl.1 rfl (lv_room (Nat.le_of_ble_eq_true rfl)) dL_isLevel_62 ⟨Nat.zero_le _, Nat.zero_le _⟩) hS (fun r_8 H locs hw_62 hT hS => ?_)
  replace hP := hT _ _ hP
  obtain rfl : r_8 = qOfL S v 4 := hw_62
  refine zz_top (y := qPr S v 0 1) (qOfL_4) ?_
  refine lv_isub hx hb dL_isLevel_65 ?_
  refine lv_iconst (v := 2) hx hb dL_isLevel_66 (by decide) ?_
  refine lv_idiv hx hb dL_isLevel_67 (by decide) ?_
  refine zz_top (y := qOwn S v 0) (qPr_half hG hv) ?_
  refine lv_istore_n (lv' := [(3, .int (qOwn S v 0)), (2, .int 1), (0, .ref (ad 0)), (1, .int (nI v))]) hx hb dL_isLevel_68 rfl hl (by decide) rfl (fun ls hl => ?_)
  refine lv_aload_n hx hb dL_isLevel_69 rfl (lv_at hl 2 rfl) ?_
  refine lv_iload_n hx hb dL_isLevel_70 rfl (lv_at hl 3 rfl) ?_
  refine lv_iconst (v := 5) hx hb dL_isLevel_71 (by decide) ?_
  refine zr_calli (va_runV (As := [.int (nI v), .int 5]) (rest := []) ⟨hx, hb, hml, hown, hts⟩ (mX4_levelOf l D y ad S (nI 0) v 5 (by first | assumption | rfl | omega | decide) (by first | assumption | rfl | omega | decide)) (cwV 2 hts (zgV tw_237 tw_238 tw_239 tw_23 tw_179) rfl rfl rfl (by decide +kernel) ⟨Nat.le_of_ble_eq_true rfl, Nat.le_of_ble_eq_true rfl⟩) (zRO_preV hKN hP (ci := 4) (q0 := 0) rfl rfl [0, 1, 2, 3, 4] rfl) rfl rfl hl.1 rfl (lv_room (Nat.le_of_ble_eq_true rfl)) dL_isLevel_72 ⟨Nat.zero_le _, Nat.zero_le _⟩) hS (fun r_9 H locs hw_72 hT hS => ?_)
  replace hP := hT _ _ hP
  obtain rfl : r_9 = qOfL S v 5 := hw_72
  refine zz_top (y := qPr S v 1 0) (qOfL_5) ?_
  refine lv_aload_n hx hb dL_isLevel_75 rfl (lv_at hl 2 rfl) ?_
  refine lv_iload_n hx hb dL_isLevel_76 rfl (lv_at hl 3 rfl) ?_
  refine lv_bipush (v := 6) hx hb dL_isLevel_77 (by decide) ?_
  refine zr_calli (va_runV (As := [.int (nI v), .int 6]) (rest := [.int (qPr S v 1 0)]) ⟨hx, hb, hml, hown, hts⟩ (mX4_levelOf l D y ad S (nI 0) v 6 (by first | assumption | rfl | omega | decide) (by first | assumption | rfl | omega | decide)) (cwV 2 hts (zgV tw_237 tw_238 tw_239 tw_23 tw_179) rfl rfl rfl (by decide +kernel) ⟨Nat.le_of_ble_eq_true rfl, Nat.le_of_ble_eq_true rfl⟩) (zRO_preV hKN hP (ci := 4) (q0 := 0) rfl rfl [0, 1, 2, 3, 4] rfl) rfl rfl hl.1 rfl (lv_room (Nat.le_of_ble_eq_true rfl)) dL_isLevel_79 ⟨Nat.zero_le _, Nat.zero_le _⟩) hS (fun r_10 H locs hw_79 hT hS => ?_)
  replace hP := hT _ _ hP
  obtain rfl : r_10 = qOfL S v 6 := hw_79
  refine zz_top (y := qPr S v 1 1) (qOfL_6) ?_
  refine lv_isub hx hb dL_isLevel_82 ?_
  refine lv_iconst (v := 2) hx hb dL_isLevel_83 (by decide) ?_
  refine lv_idiv hx hb dL_isLevel_84 (by decide) ?_
  refine zz_top (y := qOwn S v 1) (qPr_half hG hv) ?_
  refine lv_istore (lv' := [(4, .int (qOwn S v 1)), (3, .int (qOwn S v 0)), (2, .int 1), (0, .ref (ad 0)), (1, .int (nI v))]) hx hb dL_isLevel_85 hl (by decide) rfl (fun ls hl => ?_)
  refine lv_aload_n hx hb dL_isLevel_87 rfl (lv_at hl 3 rfl) ?_
  refine lv_iload_n hx hb dL_isLevel_88 rfl (lv_at hl 4 rfl) ?_
  refine lv_iconst (v := 0) hx hb dL_isLevel_89 (by decide) ?_
  refine zr_calli (va_runV (As := [.int (nI v), .int 0]) (rest := []) ⟨hx, hb, hml, hown, hts⟩ (mX4_levelOf l D y ad S (nI 0) v 0 (by first | assumption | rfl | omega | decide) (by first | assumption | rfl | omega | decide)) (cwV 2 hts (zgV tw_237 tw_238 tw_239 tw_23 tw_179) rfl rfl rfl (by decide +kernel) ⟨Nat.le_of_ble_eq_true rfl, Nat.le_of_ble_eq_true rfl⟩) (zRO_preV hKN hP (ci := 4) (q0 := 0) rfl rfl [0, 1, 2, 3, 4] rfl) rfl rfl hl.1 rfl (lv_room (Nat.le_of_ble_eq_true rfl)) dL_isLevel_90 ⟨Nat.zero_le _, Nat.zero_le _⟩) hS (fun r_11 H locs hw_90 hT hS => ?_)
  replace hP := hT _ _ hP
  obtain rfl : r_11 = qOfL S v 0 := hw_90
  refine zz_top (y := S (9 + 3 * v)) (qOfL_0) ?_
  refine lv_istore (lv' := [(5, .int (S (9 + 3 * v))), (4, .int (qOwn S v 1)), (3, .int (qOwn S v 0)), (2, .int 1), (0, .ref (ad 0)), (1, .int (nI v))]) hx hb dL_isLevel_93 hl (by decide) rfl (fun ls hl => ?_)
  refine lv_aload_n hx hb dL_isLevel_95 rfl (lv_at hl 4 rfl) ?_
  refine lv_iload_n hx hb dL_isLevel_96 rfl (lv_at hl 5 rfl) ?_
  refine lv_iconst (v := 1) hx hb dL_isLevel_97 (by decide) ?_
  refine zr_calli (va_runV (As := [.int (nI v), .int 1]) (rest := []) ⟨hx, hb, hml, hown, hts⟩ (mX4_levelOf l D y ad S (nI 0) v 1 (by first | assumption | rfl | omega | decide) (by first | assumption | rfl | omega | decide)) (cwV 2 hts (zgV tw_237 tw_238 tw_239 tw_23 tw_179) rfl rfl rfl (by decide +kernel) ⟨Nat.le_of_ble_eq_true rfl, Nat.le_of_ble_eq_true rfl⟩) (zRO_preV hKN hP (ci := 4) (q0 := 0) rfl rfl [0, 1, 2, 3, 4] rfl) rfl rfl hl.1 rfl (lv_room (Nat.le_of_ble_eq_true rfl)) dL_isLevel_98 ⟨Nat.zero_le _, Nat.zero_le _⟩) hS (fun r_12 H locs hw_98 hT hS => ?_)
  replace hP := hT _ _ hP
  obtain rfl : r_12 = qOfL S v 1 := hw_98
  refine zz_top (y := S (10 + 3 * v)) (qOfL_1) ?_
  refine lv_istore (lv' := [(6, .int (S (10 + 3 * v))), (5, .int (S (9 + 3 * v))), (4, .int (qOwn S v 1)), (3, .int (qOwn S v 0)), (2, .int 1), (0, .ref (ad 0)), (1, .int (nI v))]) hx hb dL_isLevel_101 hl (by decide) rfl (fun ls hl => ?_)
  refine lv_aload_n hx hb dL_isLevel_103 rfl (lv_at hl 5 rfl) ?_
  refine lv_iload_n hx hb dL_isLevel_104 rfl (lv_at hl 6 rfl) ?_
  refine lv_iconst (v := 2) hx hb dL_isLevel_105 (by decide) ?_
  refine zr_calli (va_runV (As := [.int (nI v), .int 2]) (rest := []) ⟨hx, hb, hml, hown, hts⟩ (mX4_levelOf l D y ad S (nI 0) v 2 (by first | assumption | rfl | omega | decide) (by first | assumption | rfl | omega | decide)) (cwV 2 hts (zgV tw_237 tw_238 tw_239 tw_23 tw_179) rfl rfl rfl (by decide +kernel) ⟨Nat.le_of_ble_eq_true rfl, Nat.le_of_ble_eq_true rfl⟩) (zRO_preV hKN hP (ci := 4) (q0 := 0) rfl rfl [0, 1, 2, 3, 4] rfl) rfl rfl hl.1 rfl (lv_room (Nat.le_of_ble_eq_true rfl)) dL_isLevel_106 ⟨Nat.zero_le _, Nat.zero_le _⟩) hS (fun r_13 H locs hw_106 hT hS => ?_)
  replace hP := hT _ _ hP
  obtain rfl : r_13 = qOfL S v 2 := hw_106
  refine zz_top (y := S (11 + 3 * v)) (qOfL_2) ?_
  rcases ht4 with h9 | h9 | h9 | h9
  · refine zz_top (y := 0) h9 ?_
    refine lv_istore (lv' := [(7, .int 0), (6, .int (S (10 + 3 * v))), (5, .int (S (9 + 3 * v))), (4, .int (qOwn S v 1)), (3, .int (qOwn S v 0)), (2, .int 1), (0, .ref (ad 0)), (1, .int (nI v))]) hx hb dL_isLevel_109 hl (by decide) rfl (fun ls hl => ?_)
    refine lv_iload hx hb dL_isLevel_111 (lv_at hl 0 rfl) ?_
    refine lv_if_le (tgt := 135) hx hb dL_isLevel_113 (by decide) (fun _ => ?_) (fun c_113 => absurd (by decide) c_113)
    refine lv_iload_n hx hb dL_isLevel_135 rfl (lv_at hl 5 rfl) ?_
    refine lv_if_eq (tgt := 156) hx hb dL_isLevel_136 (by decide) (fun c_136 => absurd c_136 (by decide)) (fun _ => ?_)
    refine lv_iload_n hx hb dL_isLevel_139 rfl (lv_at hl 4 rfl) ?_
    refine lv_iload hx hb dL_isLevel_140 (lv_at hl 2 rfl) ?_
    refine lv_icmp_ne (tgt := 156) hx hb dL_isLevel_142 (by decide) (fun c_142 => absurd (by unfold qOwn; rw [h9]; simp [zTurn]) c_142) (fun _ => ?_)
    refine lv_iload hx hb dL_isLevel_145 (lv_at hl 3 rfl) ?_
    refine lv_iload hx hb dL_isLevel_147 (lv_at hl 1 rfl) ?_
    refine lv_icmp_ne (tgt := 156) hx hb dL_isLevel_149 (by decide) (fun c_149 => absurd (by unfold qOwn; rw [h9]; simp [zTurn]) c_149) (fun _ => ?_)
    refine lv_iconst (v := 1) hx hb dL_isLevel_152 (by decide) ?_
    refine lv_goto (tgt := 157) hx hb dL_isLevel_153 (by decide) ?_
    exact W.zret (v := 1) hx hb hr (by first | rfl | (split <;> rfl)) (fun t ht hW => ⟨⟨1, (), rfl, rfl, trivial⟩, hS.F ht⟩) hS.2.2 dL_isLevel_157
  · refine zz_top (y := 1) h9 ?_
    refine lv_istore (lv' := [(7, .int 1), (6, .int (S (10 + 3 * v))), (5, .int (S (9 + 3 * v))), (4, .int (qOwn S v 1)), (3, .int (qOwn S v 0)), (2, .int 1), (0, .ref (ad 0)), (1, .int (nI v))]) hx hb dL_isLevel_109 hl (by decide) rfl (fun ls hl => ?_)
    refine lv_iload hx hb dL_isLevel_111 (lv_at hl 0 rfl) ?_
    refine lv_if_le (tgt := 135) hx hb dL_isLevel_113 (by decide) (fun c_113 => absurd c_113 (by decide)) (fun _ => ?_)
    refine lv_iload hx hb dL_isLevel_116 (lv_at hl 1 rfl) ?_
    refine lv_istore (lv' := [(8, .int (S (10 + 3 * v))), (7, .int 1), (6, .int (S (10 + 3 * v))), (5, .int (S (9 + 3 * v))), (4, .int (qOwn S v 1)), (3, .int (qOwn S v 0)), (2, .int 1), (0, .ref (ad 0)), (1, .int (nI v))]) hx hb dL_isLevel_118 hl (by decide) rfl (fun ls hl => ?_)
    refine lv_iload hx hb dL_isLevel_120 (lv_at hl 3 rfl) ?_
    refine lv_ineg hx hb dL_isLevel_122 ?_
    refine lv_istore (lv' := [(6, .int (-(S (9 + 3 * v)))), (8, .int (S (10 + 3 * v))), (7, .int 1), (5, .int (S (9 + 3 * v))), (4, .int (qOwn S v 1)), (3, .int (qOwn S v 0)), (2, .int 1), (0, .ref (ad 0)), (1, .int (nI v))]) hx hb dL_isLevel_123 hl (by decide) rfl (fun ls hl => ?_)
    refine lv_iload hx hb dL_isLevel_125 (lv_at hl 1 rfl) ?_
    refine lv_istore (lv' := [(5, .int (S (10 + 3 * v))), (6, .int (-(S (9 + 3 * v)))), (8, .int (S (10 + 3 * v))), (7, .int 1), (4, .int (qOwn S v 1)), (3, .int (qOwn S v 0)), (2, .int 1), (0, .ref (ad 0)), (1, .int (nI v))]) hx hb dL_isLevel_127 hl (by decide) rfl (fun ls hl => ?_)
    refine lv_iinc (v := 0) (lv' := [(7, .int 0), (5, .int (S (10 + 3 * v))), (6, .int (-(S (9 + 3 * v)))), (8, .int (S (10 + 3 * v))), (4, .int (qOwn S v 1)), (3, .int (qOwn S v 0)), (2, .int 1), (0, .ref (ad 0)), (1, .int (nI v))]) hx hb dL_isLevel_129 hl (k := 3) rfl (by decide) (by decide) rfl (fun ls hl => ?_)
    refine lv_goto (tgt := 111) hx hb dL_isLevel_132 (by decide) ?_
    refine lv_iload hx hb dL_isLevel_111 (lv_at hl 0 rfl) ?_
    refine lv_if_le (tgt := 135) hx hb dL_isLevel_113 (by decide) (fun _ => ?_) (fun c_113 => absurd (by decide) c_113)
    refine lv_iload_n hx hb dL_isLevel_135 rfl (lv_at hl 6 rfl) ?_
    refine lv_if_eq (tgt := 156) hx hb dL_isLevel_136 (by decide) (fun c_136 => absurd c_136 (by decide)) (fun _ => ?_)
    refine lv_iload_n hx hb dL_isLevel_139 rfl (lv_at hl 5 rfl) ?_
    refine lv_iload hx hb dL_isLevel_140 (lv_at hl 1 rfl) ?_
    refine lv_icmp_ne (tgt := 156) hx hb dL_isLevel_142 (by decide) (fun c_142 => absurd (by unfold qOwn; rw [h9]; simp [zTurn]) c_142) (fun _ => ?_)
    refine lv_iload hx hb dL_isLevel_145 (lv_at hl 4 rfl) ?_
    refine lv_iload hx hb dL_isLevel_147 (lv_at hl 2 rfl) ?_
    refine lv_icmp_ne (tgt := 156) hx hb dL_isLevel_149 (by decide) (fun c_149 => absurd (by unfold qOwn; rw [h9]; simp [zTurn]) c_149) (fun _ => ?_)
    refine lv_iconst (v := 1) hx hb dL_isLevel_152 (by decide) ?_
    refine lv_goto (tgt := 157) hx hb dL_isLevel_153 (by decide) ?_
    exact W.zret (v := 1) hx hb hr (by first | rfl | (split <;> rfl)) (fun t ht hW => ⟨⟨1, (), rfl, rfl, trivial⟩, hS.F ht⟩) hS.2.2 dL_isLevel_157
  · refine zz_top (y := 2) h9 ?_
    refine lv_istore (lv' := [(7, .int 2), (6, .int (S (10 + 3 * v))), (5, .int (S (9 + 3 * v))), (4, .int (qOwn S v 1)), (3, .int (qOwn S v 0)), (2, .int 1), (0, .ref (ad 0)), (1, .int (nI v))]) hx hb dL_isLevel_109 hl (by decide) rfl (fun ls hl => ?_)
    refine lv_iload hx hb dL_isLevel_111 (lv_at hl 0 rfl) ?_
    refine lv_if_le (tgt := 135) hx hb dL_isLevel_113 (by decide) (fun c_113 => absurd c_113 (by decide)) (fun _ => ?_)
    refine lv_iload hx hb dL_isLevel_116 (lv_at hl 1 rfl) ?_
    refine lv_istore (lv' := [(8, .int (S (10 + 3 * v))), (7, .int 2), (6, .int (S (10 + 3 * v))), (5, .int (S (9 + 3 * v))), (4, .int (qOwn S v 1)), (3, .int (qOwn S v 0)), (2, .int 1), (0, .ref (ad 0)), (1, .int (nI v))]) hx hb dL_isLevel_118 hl (by decide) rfl (fun ls hl => ?_)
    refine lv_iload hx hb dL_isLevel_120 (lv_at hl 3 rfl) ?_
    refine lv_ineg hx hb dL_isLevel_122 ?_
    refine lv_istore (lv' := [(6, .int (-(S (9 + 3 * v)))), (8, .int (S (10 + 3 * v))), (7, .int 2), (5, .int (S (9 + 3 * v))), (4, .int (qOwn S v 1)), (3, .int (qOwn S v 0)), (2, .int 1), (0, .ref (ad 0)), (1, .int (nI v))]) hx hb dL_isLevel_123 hl (by decide) rfl (fun ls hl => ?_)
    refine lv_iload hx hb dL_isLevel_125 (lv_at hl 1 rfl) ?_
    refine lv_istore (lv' := [(5, .int (S (10 + 3 * v))), (6, .int (-(S (9 + 3 * v)))), (8, .int (S (10 + 3 * v))), (7, .int 2), (4, .int (qOwn S v 1)), (3, .int (qOwn S v 0)), (2, .int 1), (0, .ref (ad 0)), (1, .int (nI v))]) hx hb dL_isLevel_127 hl (by decide) rfl (fun ls hl => ?_)
    refine lv_iinc (v := 1) (lv' := [(7, .int 1), (5, .int (S (10 + 3 * v))), (6, .int (-(S (9 + 3 * v)))), (8, .int (S (10 + 3 * v))), (4, .int (qOwn S v 1)), (3, .int (qOwn S v 0)), (2, .int 1), (0, .ref (ad 0)), (1, .int (nI v))]) hx hb dL_isLevel_129 hl (k := 3) rfl (by decide) (by decide) rfl (fun ls hl => ?_)
    refine lv_goto (tgt := 111) hx hb dL_isLevel_132 (by decide) ?_
    refine lv_iload hx hb dL_isLevel_111 (lv_at hl 0 rfl) ?_
    refine lv_if_le (tgt := 135) hx hb dL_isLevel_113 (by decide) (fun c_113 => absurd c_113 (by decide)) (fun _ => ?_)
    refine lv_iload hx hb dL_isLevel_116 (lv_at hl 2 rfl) ?_
    refine lv_istore (lv' := [(8, .int (-(S (9 + 3 * v)))), (7, .int 1), (5, .int (S (10 + 3 * v))), (6, .int (-(S (9 + 3 * v)))), (4, .int (qOwn S v 1)), (3, .int (qOwn S v 0)), (2, .int 1), (0, .ref (ad 0)), (1, .int (nI v))]) hx hb dL_isLevel_118 hl (by decide) rfl (fun ls hl => ?_)
    refine lv_iload hx hb dL_isLevel_120 (lv_at hl 2 rfl) ?_
    refine lv_ineg hx hb dL_isLevel_122 ?_
    refine lv_istore (lv' := [(6, .int (-(S (10 + 3 * v)))), (8, .int (-(S (9 + 3 * v)))), (7, .int 1), (5, .int (S (10 + 3 * v))), (4, .int (qOwn S v 1)), (3, .int (qOwn S v 0)), (2, .int 1), (0, .ref (ad 0)), (1, .int (nI v))]) hx hb dL_isLevel_123 hl (by decide) rfl (fun ls hl => ?_)
    refine lv_iload hx hb dL_isLevel_125 (lv_at hl 1 rfl) ?_
    refine lv_istore (lv' := [(5, .int (-(S (9 + 3 * v)))), (6, .int (-(S (10 + 3 * v)))), (8, .int (-(S (9 + 3 * v)))), (7, .int 1), (4, .int (qOwn S v 1)), (3, .int (qOwn S v 0)), (2, .int 1), (0, .ref (ad 0)), (1, .int (nI v))]) hx hb dL_isLevel_127 hl (by decide) rfl (fun ls hl => ?_)
    refine lv_iinc (v := 0) (lv' := [(7, .int 0), (5, .int (-(S (9 + 3 * v)))), (6, .int (-(S (10 + 3 * v)))), (8, .int (-(S (9 + 3 * v)))), (4, .int (qOwn S v 1)), (3, .int (qOwn S v 0)), (2, .int 1), (0, .ref (ad 0)), (1, .int (nI v))]) hx hb dL_isLevel_129 hl (k := 3) rfl (by decide) (by decide) rfl (fun ls hl => ?_)
    refine lv_goto (tgt := 111) hx hb dL_isLevel_132 (by decide) ?_
    refine lv_iload hx hb dL_isLevel_111 (lv_at hl 0 rfl) ?_
    refine lv_if_le (tgt := 135) hx hb dL_isLevel_113 (by decide) (fun _ => ?_) (fun c_113 => absurd (by decide) c_113)
    refine lv_iload_n hx hb dL_isLevel_135 rfl (lv_at hl 6 rfl) ?_
    refine lv_if_eq (tgt := 156) hx hb dL_isLevel_136 (by decide) (fun c_136 => absurd c_136 (by decide)) (fun _ => ?_)
    refine lv_iload_n hx hb dL_isLevel_139 rfl (lv_at hl 5 rfl) ?_
    refine lv_iload hx hb dL_isLevel_140 (lv_at hl 1 rfl) ?_
    refine lv_icmp_ne (tgt := 156) hx hb dL_isLevel_142 (by decide) (fun c_142 => absurd (by unfold qOwn; rw [h9]; simp [zTurn]) c_142) (fun _ => ?_)
    refine lv_iload hx hb dL_isLevel_145 (lv_at hl 4 rfl) ?_
    refine lv_iload hx hb dL_isLevel_147 (lv_at hl 2 rfl) ?_
    refine lv_icmp_ne (tgt := 156) hx hb dL_isLevel_149 (by decide) (fun c_149 => absurd (by unfold qOwn; rw [h9]; simp [zTurn]) c_149) (fun _ => ?_)
    refine lv_iconst (v := 1) hx hb dL_isLevel_152 (by decide) ?_
    refine lv_goto (tgt := 157) hx hb dL_isLevel_153 (by decide) ?_
    exact W.zret (v := 1) hx hb hr (by first | rfl | (split <;> rfl)) (fun t ht hW => ⟨⟨1, (), rfl, rfl, trivial⟩, hS.F ht⟩) hS.2.2 dL_isLevel_157
  · refine zz_top (y := 3) h9 ?_
    refine lv_istore (lv' := [(7, .int 3), (6, .int (S (10 + 3 * v))), (5, .int (S (9 + 3 * v))), (4, .int (qOwn S v 1)), (3, .int (qOwn S v 0)), (2, .int 1), (0, .ref (ad 0)), (1, .int (nI v))]) hx hb dL_isLevel_109 hl (by decide) rfl (fun ls hl => ?_)
    refine lv_iload hx hb dL_isLevel_111 (lv_at hl 0 rfl) ?_
    refine lv_if_le (tgt := 135) hx hb dL_isLevel_113 (by decide) (fun c_113 => absurd c_113 (by decide)) (fun _ => ?_)
    refine lv_iload hx hb dL_isLevel_116 (lv_at hl 1 rfl) ?_
    refine lv_istore (lv' := [(8, .int (S (10 + 3 * v))), (7, .int 3), (6, .int (S (10 + 3 * v))), (5, .int (S (9 + 3 * v))), (4, .int (qOwn S v 1)), (3, .int (qOwn S v 0)), (2, .int 1), (0, .ref (ad 0)), (1, .int (nI v))]) hx hb dL_isLevel_118 hl (by decide) rfl (fun ls hl => ?_)
    refine lv_iload hx hb dL_isLevel_120 (lv_at hl 3 rfl) ?_
    refine lv_ineg hx hb dL_isLevel_122 ?_
    refine lv_istore (lv' := [(6, .int (-(S (9 + 3 * v)))), (8, .int (S (10 + 3 * v))), (7, .int 3), (5, .int (S (9 + 3 * v))), (4, .int (qOwn S v 1)), (3, .int (qOwn S v 0)), (2, .int 1), (0, .ref (ad 0)), (1, .int (nI v))]) hx hb dL_isLevel_123 hl (by decide) rfl (fun ls hl => ?_)
    refine lv_iload hx hb dL_isLevel_125 (lv_at hl 1 rfl) ?_
    refine lv_istore (lv' := [(5, .int (S (10 + 3 * v))), (6, .int (-(S (9 + 3 * v)))), (8, .int (S (10 + 3 * v))), (7, .int 3), (4, .int (qOwn S v 1)), (3, .int (qOwn S v 0)), (2, .int 1), (0, .ref (ad 0)), (1, .int (nI v))]) hx hb dL_isLevel_127 hl (by decide) rfl (fun ls hl => ?_)
    refine lv_iinc (v := 2) (lv' := [(7, .int 2), (5, .int (S (10 + 3 * v))), (6, .int (-(S (9 + 3 * v)))), (8, .int (S (10 + 3 * v))), (4, .int (qOwn S v 1)), (3, .int (qOwn S v 0)), (2, .int 1), (0, .ref (ad 0)), (1, .int (nI v))]) hx hb dL_isLevel_129 hl (k := 3) rfl (by decide) (by decide) rfl (fun ls hl => ?_)
    refine lv_goto (tgt := 111) hx hb dL_isLevel_132 (by decide) ?_
    refine lv_iload hx hb dL_isLevel_111 (lv_at hl 0 rfl) ?_
    refine lv_if_le (tgt := 135) hx hb dL_isLevel_113 (by decide) (fun c_113 => absurd c_113 (by decide)) (fun _ => ?_)
    refine lv_iload hx hb dL_isLevel_116 (lv_at hl 2 rfl) ?_
    refine lv_istore (lv' := [(8, .int (-(S (9 + 3 * v)))), (7, .int 2), (5, .int (S (10 + 3 * v))), (6, .int (-(S (9 + 3 * v)))), (4, .int (qOwn S v 1)), (3, .int (qOwn S v 0)), (2, .int 1), (0, .ref (ad 0)), (1, .int (nI v))]) hx hb dL_isLevel_118 hl (by decide) rfl (fun ls hl => ?_)
    refine lv_iload hx hb dL_isLevel_120 (lv_at hl 2 rfl) ?_
    refine lv_ineg hx hb dL_isLevel_122 ?_
    refine lv_istore (lv' := [(6, .int (-(S (10 + 3 * v)))), (8, .int (-(S (9 + 3 * v)))), (7, .int 2), (5, .int (S (10 + 3 * v))), (4, .int (qOwn S v 1)), (3, .int (qOwn S v 0)), (2, .int 1), (0, .ref (ad 0)), (1, .int (nI v))]) hx hb dL_isLevel_123 hl (by decide) rfl (fun ls hl => ?_)
    refine lv_iload hx hb dL_isLevel_125 (lv_at hl 1 rfl) ?_
    refine lv_istore (lv' := [(5, .int (-(S (9 + 3 * v)))), (6, .int (-(S (10 + 3 * v)))), (8, .int (-(S (9 + 3 * v)))), (7, .int 2), (4, .int (qOwn S v 1)), (3, .int (qOwn S v 0)), (2, .int 1), (0, .ref (ad 0)), (1, .int (nI v))]) hx hb dL_isLevel_127 hl (by decide) rfl (fun ls hl => ?_)
    refine lv_iinc (v := 1) (lv' := [(7, .int 1), (5, .int (-(S (9 + 3 * v)))), (6, .int (-(S (10 + 3 * v)))), (8, .int (-(S (9 + 3 * v)))), (4, .int (qOwn S v 1)), (3, .int (qOwn S v 0)), (2, .int 1), (0, .ref (ad 0)), (1, .int (nI v))]) hx hb dL_isLevel_129 hl (k := 3) rfl (by decide) (by decide) rfl (fun ls hl => ?_)
    refine lv_goto (tgt := 111) hx hb dL_isLevel_132 (by decide) ?_
    refine lv_iload hx hb dL_isLevel_111 (lv_at hl 0 rfl) ?_
    refine lv_if_le (tgt := 135) hx hb dL_isLevel_113 (by decide) (fun c_113 => absurd c_113 (by decide)) (fun _ => ?_)
    refine lv_iload hx hb dL_isLevel_116 (lv_at hl 2 rfl) ?_
    refine lv_istore (lv' := [(8, .int (-(S (10 + 3 * v)))), (7, .int 1), (5, .int (-(S (9 + 3 * v)))), (6, .int (-(S (10 + 3 * v)))), (4, .int (qOwn S v 1)), (3, .int (qOwn S v 0)), (2, .int 1), (0, .ref (ad 0)), (1, .int (nI v))]) hx hb dL_isLevel_118 hl (by decide) rfl (fun ls hl => ?_)
    refine lv_iload hx hb dL_isLevel_120 (lv_at hl 2 rfl) ?_
    refine lv_ineg hx hb dL_isLevel_122 ?_
    refine lv_istore (lv' := [(6, .int (-(-(S (9 + 3 * v))))), (8, .int (-(S (10 + 3 * v)))), (7, .int 1), (5, .int (-(S (9 + 3 * v)))), (4, .int (qOwn S v 1)), (3, .int (qOwn S v 0)), (2, .int 1), (0, .ref (ad 0)), (1, .int (nI v))]) hx hb dL_isLevel_123 hl (by decide) rfl (fun ls hl => ?_)
    refine lv_iload hx hb dL_isLevel_125 (lv_at hl 1 rfl) ?_
    refine lv_istore (lv' := [(5, .int (-(S (10 + 3 * v)))), (6, .int (-(-(S (9 + 3 * v))))), (8, .int (-(S (10 + 3 * v)))), (7, .int 1), (4, .int (qOwn S v 1)), (3, .int (qOwn S v 0)), (2, .int 1), (0, .ref (ad 0)), (1, .int (nI v))]) hx hb dL_isLevel_127 hl (by decide) rfl (fun ls hl => ?_)
    refine lv_iinc (v := 0) (lv' := [(7, .int 0), (5, .int (-(S (10 + 3 * v)))), (6, .int (-(-(S (9 + 3 * v))))), (8, .int (-(S (10 + 3 * v)))), (4, .int (qOwn S v 1)), (3, .int (qOwn S v 0)), (2, .int 1), (0, .ref (ad 0)), (1, .int (nI v))]) hx hb dL_isLevel_129 hl (k := 3) rfl (by decide) (by decide) rfl (fun ls hl => ?_)
    refine lv_goto (tgt := 111) hx hb dL_isLevel_132 (by decide) ?_
    refine lv_iload hx hb dL_isLevel_111 (lv_at hl 0 rfl) ?_
    refine lv_if_le (tgt := 135) hx hb dL_isLevel_113 (by decide) (fun _ => ?_) (fun c_113 => absurd (by decide) c_113)
    refine lv_iload_n hx hb dL_isLevel_135 rfl (lv_at hl 6 rfl) ?_
    refine lv_if_eq (tgt := 156) hx hb dL_isLevel_136 (by decide) (fun c_136 => absurd c_136 (by decide)) (fun _ => ?_)
    refine lv_iload_n hx hb dL_isLevel_139 rfl (lv_at hl 5 rfl) ?_
    refine lv_iload hx hb dL_isLevel_140 (lv_at hl 1 rfl) ?_
    refine lv_icmp_ne (tgt := 156) hx hb dL_isLevel_142 (by decide) (fun c_142 => absurd (by unfold qOwn; rw [h9]; simp [zTurn]) c_142) (fun _ => ?_)
    refine lv_iload hx hb dL_isLevel_145 (lv_at hl 4 rfl) ?_
    refine lv_iload hx hb dL_isLevel_147 (lv_at hl 2 rfl) ?_
    refine lv_icmp_ne (tgt := 156) hx hb dL_isLevel_149 (by decide) (fun c_149 => absurd (by unfold qOwn; rw [h9]; simp [zTurn]) c_149) (fun _ => ?_)
    refine lv_iconst (v := 1) hx hb dL_isLevel_152 (by decide) ?_
    refine lv_goto (tgt := 157) hx hb dL_isLevel_153 (by decide) ?_
    exact W.zret (v := 1) hx hb hr (by first | rfl | (split <;> rfl)) (fun t ht hW => ⟨⟨1, (), rfl, rfl, trivial⟩, hS.F ht⟩) hS.2.2 dL_isLevel_157
