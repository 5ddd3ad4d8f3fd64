set_option maxHeartbeats 4000000 in
set_option maxRecDepth 100000 in
theorem mX5_holds (l : Launch) (D : va_G) (y : Nat → ClassId) (sz : Nat) (g : Nat → Nat) (th : Int32) (sv : Nat) (ln : Nat) (at9 : Nat) (pl : Nat) (va : Int32) (hs : Int64) (x : Int32) : Met l yX5_holds (ws_ yX5_holds cX5_holds 2 (some .boolean)) ({ frames := 0, cells := 0, slots := 0, locals := 0 }) (va_Pc [.ref (g 0), .int x] (zRW D y [((g 0), .inr (5, [.int th, .ref (g 1), .int (nI sv), .ref (g 2), .ref (g 3), .int (nI ln), .int (nI at9), .int (nI pl), .int va, .long hs]))] sz)) (va_Qi (fun (r : Int32) (_ : Unit) => r = (if (x : Int32) = 0 then 1 else 0)) (fun (_ : Unit) t => zOut D (va_A [((g 0), .inr (5, [.int th, .ref (g 1), .int (nI sv), .ref (g 2), .ref (g 3), .int (nI ln), .int (nI at9), .int (nI pl), .int va, .long hs]))] sz) [((g 0), .inr (5, [.int x, .ref (g 1), .int (nI sv), .ref (g 2), .ref (g 3), .int (nI ln), .int (nI at9), .int (nI pl), .int va, .long hs]))] t) (va_A [((g 0), .inr (5, [.int th, .ref (g 1), .int (nI sv), .ref (g 2), .ref (g 3), .int (nI ln), .int (nI at9), .int (nI pl), .int va, .long hs]))] sz)) 0 0 (va_A [((g 0), .inr (5, [.int th, .ref (g 1), .int (nI sv), .ref (g 2), .ref (g 3), .int (nI ln), .int (nI at9), .int (nI pl), .int va, .long hs]))] sz) := by
  refine Met.ofW (cc := cX5_holds) (maxL := 2) (ret := (some .boolean)) (by decide) rfl ?_
  intro p e s m args below meth c s₁ B hml hpre9
  obtain ⟨rfl, hsz, hP, hKN, hD0⟩ := hpre9
  have hK := hKN.1
  have hx := B.exec
  have hb := B.bytes
  have hr := B.returns
  have hts := atoms_spec (ws := (ws_ yX5_holds cX5_holds 2 (some .boolean))) B.pre
  have htg : ∀ w ∈ gT, w.before _ s = true := fun w h => hts w (List.mem_cons_of_mem _ h)
  have hown : s.vm.findClass RX5 = some m.cls := findClass_of_methodNamed B.named
  have hlocks := B.notSynchronized
  subst hsz
  have hD := hD0.self (sz := s.heap.size)
  clear hD0
  generalize hAe : va_A [((g 0), .inr (5, [.int th, .ref (g 1), .int (nI sv), .ref (g 2), .ref (g 3), .int (nI ln), .int (nI at9), .int (nI pl), .int va, .long hs]))] s.heap.size = A at hD ⊢
  have hA : ∀ q : Nat, s.heap.size ≤ q → A q := fun q h => by rw [← hAe]; exact Or.inr h
  have hS : va_S A s.heap s.heap [] := va_S.rf
  have hP : va_P D vwCl [((g 0), .inr (5, [.int th, .ref (g 1), .int (nI sv), .ref (g 2), .ref (g 3), .int (nI ln), .int (nI at9), .int (nI pl), .int va, .long hs]))] s.heap := hP
  have hl := lv_entry ([.ref (g 0), .int x]) (n := 2) (Nat.le_of_ble_eq_true rfl)
  rw [lg_entry_eq]
  generalize (lg_sl ([.ref (g 0), .int x]) ++ List.replicate (2 - (lg_sl ([.ref (g 0), .int x])).length) Slot.unset).toArray = ls at hl ⊢
  have hl : lv_has ls 2 [(0, .ref (g 0)), (1, .int x)] := hl
  refine lv_aload_n hx hb dX5_holds_0 rfl (lv_at hl 0 rfl) ?_
  refine lv_iload_n hx hb dX5_holds_1 rfl (lv_at hl 1 rfl) ?_
  refine va_put (D := D) (ci := 5) (v := .int x) (ty := .int) (C := RX5) (T := TX5) (N := 10) hx hb htg iX5 tyX5 tyX5_ok nmX5 hown hK hP hD hS 0 rfl rfl 0 (by decide) (htg _ tw_363) (fun _ h9 => h9) rfl (tyX5_ok 0 (by decide)) (rfl) (rfl) (Nat.le_of_ble_eq_true rfl) dX5_holds_2 (fun H locs hP hD hS => ?_)
  have hP : va_P D vwCl [((g 0), .inr (5, [.int x, .ref (g 1), .int (nI sv), .ref (g 2), .ref (g 3), .int (nI ln), .int (nI at9), .int (nI pl), .int va, .long hs]))] H := hP
  have hD : va_D A [((g 0), .inr (5, [.int x, .ref (g 1), .int (nI sv), .ref (g 2), .ref (g 3), .int (nI ln), .int (nI at9), .int (nI pl), .int va, .long hs]))] := hD
  refine lv_iload_n hx hb dX5_holds_5 rfl (lv_at hl 1 rfl) ?_
  refine lv_if_ne (tgt := 13) hx hb dX5_holds_6 (by decide) (fun c_6 => ?_) (fun c_6 => ?_)
  · refine lv_iconst (v := 0) hx hb dX5_holds_13 (by decide) ?_
    refine W.widen (k := 0) (n := 0) (by first | exact Nat.le_of_ble_eq_true rfl | omega) (by first | exact Nat.le_of_ble_eq_true rfl | omega) ?_
    exact W.zret (v := 0) hx hb hr (by first | rfl | (split <;> rfl)) (fun t ht hW => ⟨⟨0, (), rfl, (if_neg c_6).symm, ⟨by rw [ht]; exact hP, hD⟩⟩, hS.F ht⟩) hS.2.2 dX5_holds_14
  · refine lv_iconst (v := 1) hx hb dX5_holds_9 (by decide) ?_
    refine lv_goto (tgt := 14) hx hb dX5_holds_10 (by decide) ?_
    refine W.widen (k := 0) (n := 0) (by first | exact Nat.le_of_ble_eq_true rfl | omega) (by first | exact Nat.le_of_ble_eq_true rfl | omega) ?_
    exact W.zret (v := 1) hx hb hr (by first | rfl | (split <;> rfl)) (fun t ht hW => ⟨⟨1, (), rfl, (if_pos c_6).symm, ⟨by rw [ht]; exact hP, hD⟩⟩, hS.F ht⟩) hS.2.2 dX5_holds_14

set_option maxHeartbeats 4000000 in
set_option maxRecDepth 100000 in
theorem mX5_copies (l : Launch) (D : va_G) (y : Nat → ClassId) (sz : Nat) (g : Nat → Nat) (S : (Nat → Int32)) (th : Int32) (sv : Nat) (ln : Nat) (at9 : Nat) (pl : Nat) (va : Int32) (hs : Int64) (a : Nat) (b : Nat) (ha : a < 9) (hb9 : b < 9) (hab : a ≠ b) : Met l yX5_copies (ws_ yX5_copies cX5_copies 4 none) ({ frames := 0, cells := 0, slots := 0, locals := 0 }) (va_Pc [.ref (g 0), .int (nI a), .int (nI b)] (zRW D y [((g 0), .inr (5, [.int th, .ref (g 1), .int (nI sv), .ref (g 2), .ref (g 3), .int (nI ln), .int (nI at9), .int (nI pl), .int va, .long hs])), ((g 1), .inl (y 0, 4023, .inl S))] sz)) (va_Qv (fun (_ : Unit) => True) (fun (_ : Unit) t => zOut D (va_A [((g 0), .inr (5, [.int th, .ref (g 1), .int (nI sv), .ref (g 2), .ref (g 3), .int (nI ln), .int (nI at9), .int (nI pl), .int va, .long hs])), ((g 1), .inl (y 0, 4023, .inl S))] sz) [((g 0), .inr (5, [.int th, .ref (g 1), .int (nI sv), .ref (g 2), .ref (g 3), .int (nI ln), .int (nI at9), .int (nI pl), .int va, .long hs])), ((g 1), .inl (y 0, 4023, .inl (cpS S a b)))] t) (va_A [((g 0), .inr (5, [.int th, .ref (g 1), .int (nI sv), .ref (g 2), .ref (g 3), .int (nI ln), .int (nI at9), .int (nI pl), .int va, .long hs])), ((g 1), .inl (y 0, 4023, .inl S))] sz)) 0 0 (va_A [((g 0), .inr (5, [.int th, .ref (g 1), .int (nI sv), .ref (g 2), .ref (g 3), .int (nI ln), .int (nI at9), .int (nI pl), .int va, .long hs])), ((g 1), .inl (y 0, 4023, .inl S))] sz) := by
  refine Met.ofW (cc := cX5_copies) (maxL := 4) (ret := none) (by decide) rfl ?_
  intro p e s m args below meth c s₁ B hml hpre9
  obtain ⟨rfl, hsz, hP, hKN, hD0⟩ := hpre9
  have hK := hKN.1
  have hx := B.exec
  have hb := B.bytes
  have hr := B.returns
  have hts := atoms_spec (ws := (ws_ yX5_copies cX5_copies 4 none)) B.pre
  have htg : ∀ w ∈ gT, w.before _ s = true := fun w h => hts w (List.mem_cons_of_mem _ h)
  have hown : s.vm.findClass RX5 = some m.cls := findClass_of_methodNamed B.named
  have hlocks := B.notSynchronized
  subst hsz
  have hD := hD0.self (sz := s.heap.size)
  clear hD0
  generalize hAe : va_A [((g 0), .inr (5, [.int th, .ref (g 1), .int (nI sv), .ref (g 2), .ref (g 3), .int (nI ln), .int (nI at9), .int (nI pl), .int va, .long hs])), ((g 1), .inl (y 0, 4023, .inl S))] s.heap.size = A at hD ⊢
  have hA : ∀ q : Nat, s.heap.size ≤ q → A q := fun q h => by rw [← hAe]; exact Or.inr h
  have hS : va_S A s.heap s.heap [] := va_S.rf
  have hP : va_P D vwCl [((g 0), .inr (5, [.int th, .ref (g 1), .int (nI sv), .ref (g 2), .ref (g 3), .int (nI ln), .int (nI at9), .int (nI pl), .int va, .long hs])), ((g 1), .inl (y 0, 4023, .inl S))] s.heap := hP
  have hl := lv_entry ([.ref (g 0), .int (nI a), .int (nI b)]) (n := 4) (Nat.le_of_ble_eq_true rfl)
  rw [lg_entry_eq]
  generalize (lg_sl ([.ref (g 0), .int (nI a), .int (nI b)]) ++ List.replicate (4 - (lg_sl ([.ref (g 0), .int (nI a), .int (nI b)])).length) Slot.unset).toArray = ls at hl ⊢
  have hl : lv_has ls 4 [(0, .ref (g 0)), (1, .int (nI a)), (2, .int (nI b))] := hl
  refine lv_iconst (v := 0) hx hb dX5_copies_0 (by decide) ?_
  refine lv_istore_n (lv' := [(3, .int 0), (0, .ref (g 0)), (1, .int (nI a)), (2, .int (nI b))]) hx hb dX5_copies_1 rfl hl (by decide) rfl (fun ls hl => ?_)
  refine zloop (fun i : Nat => 447 - i) (fun i H locs ls => ∃ R2 : Nat → Int32, i ≤ 447 ∧ cpP S R2 a b i ∧ va_P D vwCl [((g 0), .inr (5, [.int th, .ref (g 1), .int (nI sv), .ref (g 2), .ref (g 3), .int (nI ln), .int (nI at9), .int (nI pl), .int va, .long hs])), ((g 1), .inl (y 0, 4023, .inl R2))] H ∧ va_D A [((g 0), .inr (5, [.int th, .ref (g 1), .int (nI sv), .ref (g 2), .ref (g 3), .int (nI ln), .int (nI at9), .int (nI pl), .int va, .long hs])), ((g 1), .inl (y 0, 4023, .inl R2))] ∧ va_S A s.heap H locs ∧ lv_has ls 4 [(0, .ref (g 0)), (1, .int (nI a)), (2, .int (nI b)), (3, .int (nI i))]) 2 (fun _ => 0) (fun _ => 0) ?_ (0) ⟨S, by omega, cpP_0, hP, hD, hS, lv_sub hl [1, 2, 3, 0] rfl⟩
  clear hl hS hP hD
  rintro i H locs ls ⟨R2, hi, hR2, hP, hD, hS, hl⟩ ih2
  refine lv_iload_n hx hb dX5_copies_2 rfl (lv_at hl 3 rfl) ?_
  refine lv_sipush (v := 447) hx hb dX5_copies_3 (by decide) ?_
  refine lv_icmp_ge (tgt := 39) hx hb dX5_copies_6 (by decide) (fun c_6 => ?_) (fun c_6 => ?_)
  · replace c_6 : 447 ≤ i := (nI_leI (a := 447) (b := i) (by omega) (by omega)).mp c_6
    have e8 : i = 447 := by omega
    obtain rfl := cpP_e hR2 e8
    have hP : va_P D vwCl [((g 0), .inr (5, [.int th, .ref (g 1), .int (nI sv), .ref (g 2), .ref (g 3), .int (nI ln), .int (nI at9), .int (nI pl), .int va, .long hs])), ((g 1), .inl (y 0, 4023, .inl (cpS S a b)))] H := hP
    have hD : va_D A [((g 0), .inr (5, [.int th, .ref (g 1), .int (nI sv), .ref (g 2), .ref (g 3), .int (nI ln), .int (nI at9), .int (nI pl), .int va, .long hs])), ((g 1), .inl (y 0, 4023, .inl (cpS S a b)))] := hD
    refine W.widen (k := 0) (n := 0) (by first | exact Nat.le_of_ble_eq_true rfl | omega) (by first | exact Nat.le_of_ble_eq_true rfl | omega) ?_
    exact W.vret hx hb hr (fun t ht hW => ⟨⟨(), rfl, by first | rfl | trivial | simp_all, ⟨by rw [ht]; exact hP, hD⟩⟩, hS.F ht⟩) hS.2.2 dX5_copies_39
  · replace c_6 : ¬ 447 ≤ i := fun h => c_6 ((nI_leI (a := 447) (b := i) (by omega) (by omega)).mpr h)
    refine lv_aload_n hx hb dX5_copies_9 rfl (lv_at hl 0 rfl) ?_
    refine va_get (D := D) (ci := 5) (v := .ref (g 1)) (C := RX5) (T := TX5) (N := 10) hx hb htg iX5 hown hK hP 0 rfl rfl 1 (by decide) (htg _ tw_359) (fun _ h9 => h9) rfl dX5_copies_10 ?_
    refine lv_sipush (v := 447) hx hb dX5_copies_13 (by decide) ?_
    refine lv_iload_n hx hb dX5_copies_16 rfl (lv_at hl 2 rfl) ?_
    refine lv_imul hx hb dX5_copies_17 ?_
    refine zz_top (y := nI (447 * b)) (pk_mul 447 b) ?_
    refine lv_iload_n hx hb dX5_copies_18 rfl (lv_at hl 3 rfl) ?_
    refine lv_iadd hx hb dX5_copies_19 ?_
    refine zz_top (y := nI ((447 * b) + i)) (nI_add (447 * b) i) ?_
    refine lv_aload_n hx hb dX5_copies_20 rfl (lv_at hl 0 rfl) ?_
    refine va_get (D := D) (ci := 5) (v := .ref (g 1)) (C := RX5) (T := TX5) (N := 10) hx hb htg iX5 hown hK hP 0 rfl rfl 1 (by decide) (htg _ tw_359) (fun _ h9 => h9) rfl dX5_copies_21 ?_
    refine lv_sipush (v := 447) hx hb dX5_copies_24 (by decide) ?_
    refine lv_iload_n hx hb dX5_copies_27 rfl (lv_at hl 1 rfl) ?_
    refine lv_imul hx hb dX5_copies_28 ?_
    refine zz_top (y := nI (447 * a)) (pk_mul 447 a) ?_
    refine lv_iload_n hx hb dX5_copies_29 rfl (lv_at hl 3 rfl) ?_
    refine lv_iadd hx hb dX5_copies_30 ?_
    refine zz_top (y := nI ((447 * a) + i)) (nI_add (447 * a) i) ?_
    refine va_iald hx hb hK hP 1 0 rfl rfl (vp_in_nI (by omega) (by decide)) dX5_copies_31 ?_
    refine zz_top (y := R2 ((447 * a) + i)) (congrArg R2 (nI_clamp (by omega))) ?_
    refine va_iast hx hb hK hP hD hS 1 0 rfl rfl (vp_in_nI (by omega) (by decide)) dX5_copies_32 (fun H locs hP hD hS => ?_)
    rw [show (nI ((447 * b) + i)).toNatClampNeg = (447 * b) + i from (nI_clamp (by omega))] at hP hD
    have hP : va_P D vwCl [((g 0), .inr (5, [.int th, .ref (g 1), .int (nI sv), .ref (g 2), .ref (g 3), .int (nI ln), .int (nI at9), .int (nI pl), .int va, .long hs])), ((g 1), .inl (y 0, 4023, .inl (upd R2 ((447 * b) + i) (R2 ((447 * a) + i)))))] H := hP
    have hD : va_D A [((g 0), .inr (5, [.int th, .ref (g 1), .int (nI sv), .ref (g 2), .ref (g 3), .int (nI ln), .int (nI at9), .int (nI pl), .int va, .long hs])), ((g 1), .inl (y 0, 4023, .inl (upd R2 ((447 * b) + i) (R2 ((447 * a) + i)))))] := hD
    refine lv_iinc (v := nI (i + 1)) (lv' := [(3, .int (nI (i + 1))), (0, .ref (g 0)), (1, .int (nI a)), (2, .int (nI b))]) hx hb dX5_copies_33 hl (k := 3) rfl (nI_1 i) (by decide) rfl (fun ls hl => ?_)
    refine lv_goto (tgt := 2) hx hb dX5_copies_36 (by decide) ?_
    exact ih2 (i + 1) _ _ _ (by omega) ⟨upd R2 ((447 * b) + i) (R2 ((447 * a) + i)), by omega, cpP_1 hR2 hab (by omega), hP, hD, hS, lv_sub hl [1, 2, 3, 0] rfl⟩

set_option maxHeartbeats 4000000 in
set_option maxRecDepth 100000 in
theorem mX5_save (l : Launch) (D : va_G) (y : Nat → ClassId) (sz : Nat) (g : Nat → Nat) (S : (Nat → Int32)) (th : Int32) (sv : Nat) (ln : Nat) (at9 : Nat) (pl : Nat) (va : Int32) (hs : Int64) (hv : sv ≤ 6) : Met l yX5_save (ws_ yX5_save cX5_save 2 none) ({ frames := 1, cells := 0, slots := 0, locals := 23 }) (va_Pc [.ref (g 0)] (zRW D y [((g 0), .inr (5, [.int th, .ref (g 1), .int (nI sv), .ref (g 2), .ref (g 3), .int (nI ln), .int (nI at9), .int (nI pl), .int va, .long hs])), ((g 1), .inl (y 0, 4023, .inl S))] sz)) (va_Qv (fun (_ : Unit) => True) (fun (_ : Unit) t => zOut D (va_A [((g 0), .inr (5, [.int th, .ref (g 1), .int (nI sv), .ref (g 2), .ref (g 3), .int (nI ln), .int (nI at9), .int (nI pl), .int va, .long hs])), ((g 1), .inl (y 0, 4023, .inl S))] sz) [((g 0), .inr (5, [.int th, .ref (g 1), .int (nI (sv2 sv)), .ref (g 2), .ref (g 3), .int (nI ln), .int (nI at9), .int (nI pl), .int va, .long hs])), ((g 1), .inl (y 0, 4023, .inl (svS S sv)))] t) (va_A [((g 0), .inr (5, [.int th, .ref (g 1), .int (nI sv), .ref (g 2), .ref (g 3), .int (nI ln), .int (nI at9), .int (nI pl), .int va, .long hs])), ((g 1), .inl (y 0, 4023, .inl S))] sz)) 0 0 (va_A [((g 0), .inr (5, [.int th, .ref (g 1), .int (nI sv), .ref (g 2), .ref (g 3), .int (nI ln), .int (nI at9), .int (nI pl), .int va, .long hs])), ((g 1), .inl (y 0, 4023, .inl S))] sz) := by
  refine Met.ofW (cc := cX5_save) (maxL := 2) (ret := none) (by decide) rfl ?_
  intro p e s m args below meth c s₁ B hml hpre9
  obtain ⟨rfl, hsz, hP, hKN, hD0⟩ := hpre9
  have hK := hKN.1
  have hx := B.exec
  have hb := B.bytes
  have hr := B.returns
  have hts := atoms_spec (ws := (ws_ yX5_save cX5_save 2 none)) B.pre
  have htg : ∀ w ∈ gT, w.before _ s = true := fun w h => hts w (List.mem_cons_of_mem _ h)
  have hown : s.vm.findClass RX5 = some m.cls := findClass_of_methodNamed B.named
  have hlocks := B.notSynchronized
  subst hsz
  have hD := hD0.self (sz := s.heap.size)
  clear hD0
  generalize hAe : va_A [((g 0), .inr (5, [.int th, .ref (g 1), .int (nI sv), .ref (g 2), .ref (g 3), .int (nI ln), .int (nI at9), .int (nI pl), .int va, .long hs])), ((g 1), .inl (y 0, 4023, .inl S))] s.heap.size = A at hD ⊢
  have hA : ∀ q : Nat, s.heap.size ≤ q → A q := fun q h => by rw [← hAe]; exact Or.inr h
  have hS : va_S A s.heap s.heap [] := va_S.rf
  have hP : va_P D vwCl [((g 0), .inr (5, [.int th, .ref (g 1), .int (nI sv), .ref (g 2), .ref (g 3), .int (nI ln), .int (nI at9), .int (nI pl), .int va, .long hs])), ((g 1), .inl (y 0, 4023, .inl S))] s.heap := hP
  have hl := lv_entry ([.ref (g 0)]) (n := 2) (Nat.le_of_ble_eq_true rfl)
  rw [lg_entry_eq]
  generalize (lg_sl ([.ref (g 0)]) ++ List.replicate (2 - (lg_sl ([.ref (g 0)])).length) Slot.unset).toArray = ls at hl ⊢
  have hl : lv_has ls 2 [(0, .ref (g 0))] := hl
  refine lv_iconst (v := 1) hx hb dX5_save_0 (by decide) ?_
  refine lv_istore_n (lv' := [(1, .int 1), (0, .ref (g 0))]) hx hb dX5_save_1 rfl hl (by decide) rfl (fun ls hl => ?_)
  refine lv_iload_n hx hb dX5_save_2 rfl (lv_at hl 0 rfl) ?_
  refine lv_bipush (v := 6) hx hb dX5_save_3 (by decide) ?_
  refine lv_icmp_ge (tgt := 31) hx hb dX5_save_5 (by decide) (fun c_5 => absurd c_5 (by decide)) (fun _ => ?_)
  refine lv_aload_n hx hb dX5_save_8 rfl (lv_at hl 1 rfl) ?_
  refine va_get (D := D) (ci := 5) (v := .int (nI sv)) (C := RX5) (T := TX5) (N := 10) hx hb htg iX5 hown hK hP 0 rfl rfl 2 (by decide) (htg _ tw_418) (fun _ h9 => h9) rfl dX5_save_9 ?_
  refine lv_bipush (v := 6) hx hb dX5_save_12 (by decide) ?_
  refine lv_icmp_ne (tgt := 31) hx hb dX5_save_14 (by decide) (fun c_14 => ?_) (fun c_14 => ?_)
  · replace c_14 : ¬ sv = 6 := fun h => c_14 ((nI_eq (a := sv) (b := 6) (by omega) (by omega)).mpr h)
    refine lv_aload_n hx hb dX5_save_31 rfl (lv_at hl 1 rfl) ?_
    refine lv_dup hx hb dX5_save_32 rfl ?_
    refine va_get (D := D) (ci := 5) (v := .int (nI sv)) (C := RX5) (T := TX5) (N := 10) hx hb htg iX5 hown hK hP 0 rfl rfl 2 (by decide) (htg _ tw_418) (fun _ h9 => h9) rfl dX5_save_33 ?_
    refine lv_aload_n hx hb dX5_save_36 rfl (lv_at hl 1 rfl) ?_
    refine va_get (D := D) (ci := 5) (v := .int (nI sv)) (C := RX5) (T := TX5) (N := 10) hx hb htg iX5 hown hK hP 0 rfl rfl 2 (by decide) (htg _ tw_418) (fun _ h9 => h9) rfl dX5_save_37 ?_
    refine lv_bipush (v := 6) hx hb dX5_save_40 (by decide) ?_
    refine lv_icmp_ge (tgt := 49) hx hb dX5_save_42 (by decide) (fun c_42 => ?_) (fun c_42 => ?_)
    · replace c_42 : 6 ≤ sv := (nI_leI (a := 6) (b := sv) (by omega) (by omega)).mp c_42
      exfalso; omega
    · replace c_42 : ¬ 6 ≤ sv := fun h => c_42 ((nI_leI (a := 6) (b := sv) (by omega) (by omega)).mpr h)
      refine lv_iconst (v := 1) hx hb dX5_save_45 (by decide) ?_
      refine lv_goto (tgt := 50) hx hb dX5_save_46 (by decide) ?_
      refine lv_iadd hx hb dX5_save_50 ?_
      refine zz_top (y := nI (sv + 1)) (nI_add sv 1) ?_
      refine va_put (D := D) (ci := 5) (v := .int (nI (sv + 1))) (ty := .int) (C := RX5) (T := TX5) (N := 10) hx hb htg iX5 tyX5 tyX5_ok nmX5 hown hK hP hD hS 0 rfl rfl 2 (by decide) (htg _ tw_418) (fun _ h9 => h9) rfl (tyX5_ok 2 (by decide)) (rfl) (rfl) (Nat.le_of_ble_eq_true rfl) dX5_save_51 (fun H locs hP hD hS => ?_)
      have hP : va_P D vwCl [((g 0), .inr (5, [.int th, .ref (g 1), .int (nI (sv + 1)), .ref (g 2), .ref (g 3), .int (nI ln), .int (nI at9), .int (nI pl), .int va, .long hs])), ((g 1), .inl (y 0, 4023, .inl S))] H := hP
      have hD : va_D A [((g 0), .inr (5, [.int th, .ref (g 1), .int (nI (sv + 1)), .ref (g 2), .ref (g 3), .int (nI ln), .int (nI at9), .int (nI pl), .int va, .long hs])), ((g 1), .inl (y 0, 4023, .inl S))] := hD
      refine lv_aload_n hx hb dX5_save_54 rfl (lv_at hl 1 rfl) ?_
      refine lv_iconst (v := 0) hx hb dX5_save_55 (by decide) ?_
      refine lv_aload_n hx hb dX5_save_56 rfl (lv_at hl 1 rfl) ?_
      refine va_get (D := D) (ci := 5) (v := .int (nI (sv + 1))) (C := RX5) (T := TX5) (N := 10) hx hb htg iX5 hown hK hP 0 rfl rfl 2 (by decide) (htg _ tw_418) (fun _ h9 => h9) rfl dX5_save_57 ?_
      refine zw_callv (wr := []) (w1 := (fun _ : Unit => [((g 0), .inr (5, [.int th, .ref (g 1), .int (nI (sv + 1)), .ref (g 2), .ref (g 3), .int (nI ln), .int (nI at9), .int (nI pl), .int va, .long hs])), ((g 1), .inl (y 0, 4023, .inl (cpS S 0 (sv + 1))))])) hP hD hS hA [0, 1] [] rfl rfl (by decide +kernel) (by decide +kernel) (va_runV (As := [.int 0, .int (nI (sv + 1))]) (rest := []) ⟨hx, hb, hml, hown, hts⟩ (mX5_copies l D y _ g S th (sv + 1) ln at9 pl va hs 0 (sv + 1) (by first | assumption | rfl | omega | decide) (by first | assumption | rfl | omega | decide) (by first | assumption | rfl | omega | decide)) (cwV 2 hts (zgV tw_419 tw_420 tw_421 tw_369 tw_416) rfl rfl rfl (by decide +kernel) ⟨Nat.le_of_ble_eq_true rfl, Nat.le_of_ble_eq_true rfl⟩) (zRW_preV hKN hP hD (ci := 5) (q0 := 0) rfl rfl [0, 1] rfl (by decide)) rfl rfl hl.1 rfl (lv_room (Nat.le_of_ble_eq_true rfl)) dX5_save_60 ⟨Nat.zero_le _, Nat.zero_le _⟩) (fun u_1 H locs hw_60 hP hD hS => ?_)
      have hP : va_P D vwCl [((g 0), .inr (5, [.int th, .ref (g 1), .int (nI (sv + 1)), .ref (g 2), .ref (g 3), .int (nI ln), .int (nI at9), .int (nI pl), .int va, .long hs])), ((g 1), .inl (y 0, 4023, .inl (cpS S 0 (sv + 1))))] H := hP
      have hD : va_D A [((g 0), .inr (5, [.int th, .ref (g 1), .int (nI (sv + 1)), .ref (g 2), .ref (g 3), .int (nI ln), .int (nI at9), .int (nI pl), .int va, .long hs])), ((g 1), .inl (y 0, 4023, .inl (cpS S 0 (sv + 1))))] := hD
      have e7 : svS S sv = (cpS S 0 (sv + 1)) := if_neg c_14
      have e6 : sv2 sv = sv + 1 := if_neg c_14
      rw [← e7, ← e6] at hP hD
      refine W.widen (k := 0) (n := 0) (by first | exact Nat.le_of_ble_eq_true rfl | omega) (by first | exact Nat.le_of_ble_eq_true rfl | omega) ?_
      exact W.vret hx hb hr (fun t ht hW => ⟨⟨(), rfl, by first | rfl | trivial | simp_all, ⟨by rw [ht]; exact hP, hD⟩⟩, hS.F ht⟩) hS.2.2 dX5_save_63
  · replace c_14 : sv = 6 := (nI_eq (a := sv) (b := 6) (by omega) (by omega)).mp c_14
    subst c_14
    refine lv_aload_n hx hb dX5_save_17 rfl (lv_at hl 1 rfl) ?_
    refine lv_iload_n hx hb dX5_save_18 rfl (lv_at hl 0 rfl) ?_
    refine lv_iconst (v := 1) hx hb dX5_save_19 (by decide) ?_
    refine lv_iadd hx hb dX5_save_20 ?_
    refine zz_top (y := 2) (by decide) ?_
    refine lv_iload_n hx hb dX5_save_21 rfl (lv_at hl 0 rfl) ?_
    refine zw_callv (wr := []) (w1 := (fun _ : Unit => [((g 0), .inr (5, [.int th, .ref (g 1), .int 6, .ref (g 2), .ref (g 3), .int (nI ln), .int (nI at9), .int (nI pl), .int va, .long hs])), ((g 1), .inl (y 0, 4023, .inl (cpS S 2 1)))])) hP hD hS hA [0, 1] [] rfl rfl (by decide +kernel) (by decide +kernel) (va_runV (As := [.int 2, .int 1]) (rest := []) ⟨hx, hb, hml, hown, hts⟩ (mX5_copies l D y _ g S th 6 ln at9 pl va hs 2 1 (by first | assumption | rfl | omega | decide) (by first | assumption | rfl | omega | decide) (by first | assumption | rfl | omega | decide)) (cwV 2 hts (zgV tw_419 tw_420 tw_421 tw_369 tw_416) rfl rfl rfl (by decide +kernel) ⟨Nat.le_of_ble_eq_true rfl, Nat.le_of_ble_eq_true rfl⟩) (zRW_preV hKN hP hD (ci := 5) (q0 := 0) rfl rfl [0, 1] rfl (by decide)) rfl rfl hl.1 rfl (lv_room (Nat.le_of_ble_eq_true rfl)) dX5_save_22 ⟨Nat.zero_le _, Nat.zero_le _⟩) (fun u_2 H locs hw_22 hP hD hS => ?_)
    have hP : va_P D vwCl [((g 0), .inr (5, [.int th, .ref (g 1), .int 6, .ref (g 2), .ref (g 3), .int (nI ln), .int (nI at9), .int (nI pl), .int va, .long hs])), ((g 1), .inl (y 0, 4023, .inl (cpS S 2 1)))] H := hP
    have hD : va_D A [((g 0), .inr (5, [.int th, .ref (g 1), .int 6, .ref (g 2), .ref (g 3), .int (nI ln), .int (nI at9), .int (nI pl), .int va, .long hs])), ((g 1), .inl (y 0, 4023, .inl (cpS S 2 1)))] := hD
    refine lv_iinc (v := 2) (lv' := [(1, .int 2), (0, .ref (g 0))]) hx hb dX5_save_25 hl (k := 0) rfl (by decide) (by decide) rfl (fun ls hl => ?_)
    refine lv_goto (tgt := 2) hx hb dX5_save_28 (by decide) ?_
    refine lv_iload_n hx hb dX5_save_2 rfl (lv_at hl 0 rfl) ?_
    refine lv_bipush (v := 6) hx hb dX5_save_3 (by decide) ?_
    refine lv_icmp_ge (tgt := 31) hx hb dX5_save_5 (by decide) (fun c_5 => absurd c_5 (by decide)) (fun _ => ?_)
    refine lv_aload_n hx hb dX5_save_8 rfl (lv_at hl 1 rfl) ?_
    refine va_get (D := D) (ci := 5) (v := .int 6) (C := RX5) (T := TX5) (N := 10) hx hb htg iX5 hown hK hP 0 rfl rfl 2 (by decide) (htg _ tw_418) (fun _ h9 => h9) rfl dX5_save_9 ?_
    refine lv_bipush (v := 6) hx hb dX5_save_12 (by decide) ?_
    refine lv_icmp_ne (tgt := 31) hx hb dX5_save_14 (by decide) (fun c_14 => absurd (rfl) c_14) (fun _ => ?_)
    refine lv_aload_n hx hb dX5_save_17 rfl (lv_at hl 1 rfl) ?_
    refine lv_iload_n hx hb dX5_save_18 rfl (lv_at hl 0 rfl) ?_
    refine lv_iconst (v := 1) hx hb dX5_save_19 (by decide) ?_
    refine lv_iadd hx hb dX5_save_20 ?_
    refine zz_top (y := 3) (by decide) ?_
    refine lv_iload_n hx hb dX5_save_21 rfl (lv_at hl 0 rfl) ?_
    refine zw_callv (wr := []) (w1 := (fun _ : Unit => [((g 0), .inr (5, [.int th, .ref (g 1), .int 6, .ref (g 2), .ref (g 3), .int (nI ln), .int (nI at9), .int (nI pl), .int va, .long hs])), ((g 1), .inl (y 0, 4023, .inl (cpS (cpS S 2 1) 3 2)))])) hP hD hS hA [0, 1] [] rfl rfl (by decide +kernel) (by decide +kernel) (va_runV (As := [.int 3, .int 2]) (rest := []) ⟨hx, hb, hml, hown, hts⟩ (mX5_copies l D y _ g (cpS S 2 1) th 6 ln at9 pl va hs 3 2 (by first | assumption | rfl | omega | decide) (by first | assumption | rfl | omega | decide) (by first | assumption | rfl | omega | decide)) (cwV 2 hts (zgV tw_419 tw_420 tw_421 tw_369 tw_416) rfl rfl rfl (by decide +kernel) ⟨Nat.le_of_ble_eq_true rfl, Nat.le_of_ble_eq_true rfl⟩) (zRW_preV hKN hP hD (ci := 5) (q0 := 0) rfl rfl [0, 1] rfl (by decide)) rfl rfl hl.1 rfl (lv_room (Nat.le_of_ble_eq_true rfl)) dX5_save_22 ⟨Nat.zero_le _, Nat.zero_le _⟩) (fun u_3 H locs hw_22 hP hD hS => ?_)
    have hP : va_P D vwCl [((g 0), .inr (5, [.int th, .ref (g 1), .int 6, .ref (g 2), .ref (g 3), .int (nI ln), .int (nI at9), .int (nI pl), .int va, .long hs])), ((g 1), .inl (y 0, 4023, .inl (cpS (cpS S 2 1) 3 2)))] H := hP
    have hD : va_D A [((g 0), .inr (5, [.int th, .ref (g 1), .int 6, .ref (g 2), .ref (g 3), .int (nI ln), .int (nI at9), .int (nI pl), .int va, .long hs])), ((g 1), .inl (y 0, 4023, .inl (cpS (cpS S 2 1) 3 2)))] := hD
    refine lv_iinc (v := 3) (lv' := [(1, .int 3), (0, .ref (g 0))]) hx hb dX5_save_25 hl (k := 0) rfl (by decide) (by decide) rfl (fun ls hl => ?_)
    refine lv_goto (tgt := 2) hx hb dX5_save_28 (by decide) ?_
    refine lv_iload_n hx hb dX5_save_2 rfl (lv_at hl 0 rfl) ?_
    refine lv_bipush (v := 6) hx hb dX5_save_3 (by decide) ?_
    refine lv_icmp_ge (tgt := 31) hx hb dX5_save_5 (by decide) (fun c_5 => absurd c_5 (by decide)) (fun _ => ?_)
    refine lv_aload_n hx hb dX5_save_8 rfl (lv_at hl 1 rfl) ?_
    refine va_get (D := D) (ci := 5) (v := .int 6) (C := RX5) (T := TX5) (N := 10) hx hb htg iX5 hown hK hP 0 rfl rfl 2 (by decide) (htg _ tw_418) (fun _ h9 => h9) rfl dX5_save_9 ?_
    refine lv_bipush (v := 6) hx hb dX5_save_12 (by decide) ?_
    refine lv_icmp_ne (tgt := 31) hx hb dX5_save_14 (by decide) (fun c_14 => absurd (rfl) c_14) (fun _ => ?_)
    refine lv_aload_n hx hb dX5_save_17 rfl (lv_at hl 1 rfl) ?_
    refine lv_iload_n hx hb dX5_save_18 rfl (lv_at hl 0 rfl) ?_
    refine lv_iconst (v := 1) hx hb dX5_save_19 (by decide) ?_
    refine lv_iadd hx hb dX5_save_20 ?_
    refine zz_top (y := 4) (by decide) ?_
    refine lv_iload_n hx hb dX5_save_21 rfl (lv_at hl 0 rfl) ?_
    refine zw_callv (wr := []) (w1 := (fun _ : Unit => [((g 0), .inr (5, [.int th, .ref (g 1), .int 6, .ref (g 2), .ref (g 3), .int (nI ln), .int (nI at9), .int (nI pl), .int va, .long hs])), ((g 1), .inl (y 0, 4023, .inl (cpS (cpS (cpS S 2 1) 3 2) 4 3)))])) hP hD hS hA [0, 1] [] rfl rfl (by decide +kernel) (by decide +kernel) (va_runV (As := [.int 4, .int 3]) (rest := []) ⟨hx, hb, hml, hown, hts⟩ (mX5_copies l D y _ g (cpS (cpS S 2 1) 3 2) th 6 ln at9 pl va hs 4 3 (by first | assumption | rfl | omega | decide) (by first | assumption | rfl | omega | decide) (by first | assumption | rfl | omega | decide)) (cwV 2 hts (zgV tw_419 tw_420 tw_421 tw_369 tw_416) rfl rfl rfl (by decide +kernel) ⟨Nat.le_of_ble_eq_true rfl, Nat.le_of_ble_eq_true rfl⟩) (zRW_preV hKN hP hD (ci := 5) (q0 := 0) rfl rfl [0, 1] rfl (by decide)) rfl rfl hl.1 rfl (lv_room (Nat.le_of_ble_eq_true rfl)) dX5_save_22 ⟨Nat.zero_le _, Nat.zero_le _⟩) (fun u_4 H locs hw_22 hP hD hS => ?_)
    have hP : va_P D vwCl [((g 0), .inr (5, [.int th, .ref (g 1), .int 6, .ref (g 2), .ref (g 3), .int (nI ln), .int (nI at9), .int (nI pl), .int va, .long hs])), ((g 1), .inl (y 0, 4023, .inl (cpS (cpS (cpS S 2 1) 3 2) 4 3)))] H := hP
    have hD : va_D A [((g 0), .inr (5, [.int th, .ref (g 1), .int 6, .ref (g 2), .ref (g 3), .int (nI ln), .int (nI at9), .int (nI pl), .int va, .long hs])), ((g 1), .inl (y 0, 4023, .inl (cpS (cpS (cpS S 2 1) 3 2) 4 3)))] := hD
    refine lv_iinc (v := 4) (lv' := [(1, .int 4), (0, .ref (g 0))]) hx hb dX5_save_25 hl (k := 0) rfl (by decide) (by decide) rfl (fun ls hl => ?_)
    refine lv_goto (tgt := 2) hx hb dX5_save_28 (by decide) ?_
    refine lv_iload_n hx hb dX5_save_2 rfl (lv_at hl 0 rfl) ?_
    refine lv_bipush (v := 6) hx hb dX5_save_3 (by decide) ?_
    refine lv_icmp_ge (tgt := 31) hx hb dX5_save_5 (by decide) (fun c_5 => absurd c_5 (by decide)) (fun _ => ?_)
    refine lv_aload_n hx hb dX5_save_8 rfl (lv_at hl 1 rfl) ?_
    refine va_get (D := D) (ci := 5) (v := .int 6) (C := RX5) (T := TX5) (N := 10) hx hb htg iX5 hown hK hP 0 rfl rfl 2 (by decide) (htg _ tw_418) (fun _ h9 => h9) rfl dX5_save_9 ?_
    refine lv_bipush (v := 6) hx hb dX5_save_12 (by decide) ?_
    refine lv_icmp_ne (tgt := 31) hx hb dX5_save_14 (by decide) (fun c_14 => absurd (rfl) c_14) (fun _ => ?_)
    refine lv_aload_n hx hb dX5_save_17 rfl (lv_at hl 1 rfl) ?_
    refine lv_iload_n hx hb dX5_save_18 rfl (lv_at hl 0 rfl) ?_
    refine lv_iconst (v := 1) hx hb dX5_save_19 (by decide) ?_
    refine lv_iadd hx hb dX5_save_20 ?_
    refine zz_top (y := 5) (by decide) ?_
    refine lv_iload_n hx hb dX5_save_21 rfl (lv_at hl 0 rfl) ?_
    refine zw_callv (wr := []) (w1 := (fun _ : Unit => [((g 0), .inr (5, [.int th, .ref (g 1), .int 6, .ref (g 2), .ref (g 3), .int (nI ln), .int (nI at9), .int (nI pl), .int va, .long hs])), ((g 1), .inl (y 0, 4023, .inl (cpS (cpS (cpS (cpS S 2 1) 3 2) 4 3) 5 4)))])) hP hD hS hA [0, 1] [] rfl rfl (by decide +kernel) (by decide +kernel) (va_runV (As := [.int 5, .int 4]) (rest := []) ⟨hx, hb, hml, hown, hts⟩ (mX5_copies l D y _ g (cpS (cpS (cpS S 2 1) 3 2) 4 3) th 6 ln at9 pl va hs 5 4 (by first | assumption | rfl | omega | decide) (by first | assumption | rfl | omega | decide) (by first | assumption | rfl | omega | decide)) (cwV 2 hts (zgV tw_419 tw_420 tw_421 tw_369 tw_416) rfl rfl rfl (by decide +kernel) ⟨Nat.le_of_ble_eq_true rfl, Nat.le_of_ble_eq_true rfl⟩) (zRW_preV hKN hP hD (ci := 5) (q0 := 0) rfl rfl [0, 1] rfl (by decide)) rfl rfl hl.1 rfl (lv_room (Nat.le_of_ble_eq_true rfl)) dX5_save_22 ⟨Nat.zero_le _, Nat.zero_le _⟩) (fun u_5 H locs hw_22 hP hD hS => ?_)
    have hP : va_P D vwCl [((g 0), .inr (5, [.int th, .ref (g 1), .int 6, .ref (g 2), .ref (g 3), .int (nI ln), .int (nI at9), .int (nI pl), .int va, .long hs])), ((g 1), .inl (y 0, 4023, .inl (cpS (cpS (cpS (cpS S 2 1) 3 2) 4 3) 5 4)))] H := hP
    have hD : va_D A [((g 0), .inr (5, [.int th, .ref (g 1), .int 6, .ref (g 2), .ref (g 3), .int (nI ln), .int (nI at9), .int (nI pl), .int va, .long hs])), ((g 1), .inl (y 0, 4023, .inl (cpS (cpS (cpS (cpS S 2 1) 3 2) 4 3) 5 4)))] := hD
    refine lv_iinc (v := 5) (lv' := [(1, .int 5), (0, .ref (g 0))]) hx hb dX5_save_25 hl (k := 0) rfl (by decide) (by decide) rfl (fun ls hl => ?_)
    refine lv_goto (tgt := 2) hx hb dX5_save_28 (by decide) ?_
    refine lv_iload_n hx hb dX5_save_2 rfl (lv_at hl 0 rfl) ?_
    refine lv_bipush (v := 6) hx hb dX5_save_3 (by decide) ?_
    refine lv_icmp_ge (tgt := 31) hx hb dX5_save_5 (by decide) (fun c_5 => absurd c_5 (by decide)) (fun _ => ?_)
    refine lv_aload_n hx hb dX5_save_8 rfl (lv_at hl 1 rfl) ?_
    refine va_get (D := D) (ci := 5) (v := .int 6) (C := RX5) (T := TX5) (N := 10) hx hb htg iX5 hown hK hP 0 rfl rfl 2 (by decide) (htg _ tw_418) (fun _ h9 => h9) rfl dX5_save_9 ?_
    refine lv_bipush (v := 6) hx hb dX5_save_12 (by decide) ?_
    refine lv_icmp_ne (tgt := 31) hx hb dX5_save_14 (by decide) (fun c_14 => absurd (rfl) c_14) (fun _ => ?_)
    refine lv_aload_n hx hb dX5_save_17 rfl (lv_at hl 1 rfl) ?_
    refine lv_iload_n hx hb dX5_save_18 rfl (lv_at hl 0 rfl) ?_
    refine lv_iconst (v := 1) hx hb dX5_save_19 (by decide) ?_
    refine lv_iadd hx hb dX5_save_20 ?_
    refine zz_top (y := 6) (by decide) ?_
    refine lv_iload_n hx hb dX5_save_21 rfl (lv_at hl 0 rfl) ?_
    refine zw_callv (wr := []) (w1 := (fun _ : Unit => [((g 0), .inr (5, [.int th, .ref (g 1), .int 6, .ref (g 2), .ref (g 3), .int (nI ln), .int (nI at9), .int (nI pl), .int va, .long hs])), ((g 1), .inl (y 0, 4023, .inl (cpS (cpS (cpS (cpS (cpS S 2 1) 3 2) 4 3) 5 4) 6 5)))])) hP hD hS hA [0, 1] [] rfl rfl (by decide +kernel) (by decide +kernel) (va_runV (As := [.int 6, .int 5]) (rest := []) ⟨hx, hb, hml, hown, hts⟩ (mX5_copies l D y _ g (cpS (cpS (cpS (cpS S 2 1) 3 2) 4 3) 5 4) th 6 ln at9 pl va hs 6 5 (by first | assumption | rfl | omega | decide) (by first | assumption | rfl | omega | decide) (by first | assumption | rfl | omega | decide)) (cwV 2 hts (zgV tw_419 tw_420 tw_421 tw_369 tw_416) rfl rfl rfl (by decide +kernel) ⟨Nat.le_of_ble_eq_true rfl, Nat.le_of_ble_eq_true rfl⟩) (zRW_preV hKN hP hD (ci := 5) (q0 := 0) rfl rfl [0, 1] rfl (by decide)) rfl rfl hl.1 rfl (lv_room (Nat.le_of_ble_eq_true rfl)) dX5_save_22 ⟨Nat.zero_le _, Nat.zero_le _⟩) (fun u_6 H locs hw_22 hP hD hS => ?_)
    have hP : va_P D vwCl [((g 0), .inr (5, [.int th, .ref (g 1), .int 6, .ref (g 2), .ref (g 3), .int (nI ln), .int (nI at9), .int (nI pl), .int va, .long hs])), ((g 1), .inl (y 0, 4023, .inl (cpS (cpS (cpS (cpS (cpS S 2 1) 3 2) 4 3) 5 4) 6 5)))] H := hP
    have hD : va_D A [((g 0), .inr (5, [.int th, .ref (g 1), .int 6, .ref (g 2), .ref (g 3), .int (nI ln), .int (nI at9), .int (nI pl), .int va, .long hs])), ((g 1), .inl (y 0, 4023, .inl (cpS (cpS (cpS (cpS (cpS S 2 1) 3 2) 4 3) 5 4) 6 5)))] := hD
    refine lv_iinc (v := 6) (lv' := [(1, .int 6), (0, .ref (g 0))]) hx hb dX5_save_25 hl (k := 0) rfl (by decide) (by decide) rfl (fun ls hl => ?_)
    refine lv_goto (tgt := 2) hx hb dX5_save_28 (by decide) ?_
    refine lv_iload_n hx hb dX5_save_2 rfl (lv_at hl 0 rfl) ?_
    refine lv_bipush (v := 6) hx hb dX5_save_3 (by decide) ?_
    refine lv_icmp_ge (tgt := 31) hx hb dX5_save_5 (by decide) (fun _ => ?_) (fun c_5 => absurd (by decide) c_5)
    refine lv_aload_n hx hb dX5_save_31 rfl (lv_at hl 1 rfl) ?_
    refine lv_dup hx hb dX5_save_32 rfl ?_
    refine va_get (D := D) (ci := 5) (v := .int 6) (C := RX5) (T := TX5) (N := 10) hx hb htg iX5 hown hK hP 0 rfl rfl 2 (by decide) (htg _ tw_418) (fun _ h9 => h9) rfl dX5_save_33 ?_
    refine lv_aload_n hx hb dX5_save_36 rfl (lv_at hl 1 rfl) ?_
    refine va_get (D := D) (ci := 5) (v := .int 6) (C := RX5) (T := TX5) (N := 10) hx hb htg iX5 hown hK hP 0 rfl rfl 2 (by decide) (htg _ tw_418) (fun _ h9 => h9) rfl dX5_save_37 ?_
    refine lv_bipush (v := 6) hx hb dX5_save_40 (by decide) ?_
    refine lv_icmp_ge (tgt := 49) hx hb dX5_save_42 (by decide) (fun _ => ?_) (fun c_42 => absurd (by decide) c_42)
    refine lv_iconst (v := 0) hx hb dX5_save_49 (by decide) ?_
    refine lv_iadd hx hb dX5_save_50 ?_
    refine zz_top (y := 6) (by decide) ?_
    refine va_put (D := D) (ci := 5) (v := .int 6) (ty := .int) (C := RX5) (T := TX5) (N := 10) hx hb htg iX5 tyX5 tyX5_ok nmX5 hown hK hP hD hS 0 rfl rfl 2 (by decide) (htg _ tw_418) (fun _ h9 => h9) rfl (tyX5_ok 2 (by decide)) (rfl) (rfl) (Nat.le_of_ble_eq_true rfl) dX5_save_51 (fun H locs hP hD hS => ?_)
    have hP : va_P D vwCl [((g 0), .inr (5, [.int th, .ref (g 1), .int 6, .ref (g 2), .ref (g 3), .int (nI ln), .int (nI at9), .int (nI pl), .int va, .long hs])), ((g 1), .inl (y 0, 4023, .inl (cpS (cpS (cpS (cpS (cpS S 2 1) 3 2) 4 3) 5 4) 6 5)))] H := hP
    have hD : va_D A [((g 0), .inr (5, [.int th, .ref (g 1), .int 6, .ref (g 2), .ref (g 3), .int (nI ln), .int (nI at9), .int (nI pl), .int va, .long hs])), ((g 1), .inl (y 0, 4023, .inl (cpS (cpS (cpS (cpS (cpS S 2 1) 3 2) 4 3) 5 4) 6 5)))] := hD
    refine lv_aload_n hx hb dX5_save_54 rfl (lv_at hl 1 rfl) ?_
    refine lv_iconst (v := 0) hx hb dX5_save_55 (by decide) ?_
    refine lv_aload_n hx hb dX5_save_56 rfl (lv_at hl 1 rfl) ?_
    refine va_get (D := D) (ci := 5) (v := .int 6) (C := RX5) (T := TX5) (N := 10) hx hb htg iX5 hown hK hP 0 rfl rfl 2 (by decide) (htg _ tw_418) (fun _ h9 => h9) rfl dX5_save_57 ?_
    refine zw_callv (wr := []) (w1 := (fun _ : Unit => [((g 0), .inr (5, [.int th, .ref (g 1), .int 6, .ref (g 2), .ref (g 3), .int (nI ln), .int (nI at9), .int (nI pl), .int va, .long hs])), ((g 1), .inl (y 0, 4023, .inl (cpS (cpS (cpS (cpS (cpS (cpS S 2 1) 3 2) 4 3) 5 4) 6 5) 0 6)))])) hP hD hS hA [0, 1] [] rfl rfl (by decide +kernel) (by decide +kernel) (va_runV (As := [.int 0, .int 6]) (rest := []) ⟨hx, hb, hml, hown, hts⟩ (mX5_copies l D y _ g (cpS (cpS (cpS (cpS (cpS S 2 1) 3 2) 4 3) 5 4) 6 5) th 6 ln at9 pl va hs 0 6 (by first | assumption | rfl | omega | decide) (by first | assumption | rfl | omega | decide) (by first | assumption | rfl | omega | decide)) (cwV 2 hts (zgV tw_419 tw_420 tw_421 tw_369 tw_416) rfl rfl rfl (by decide +kernel) ⟨Nat.le_of_ble_eq_true rfl, Nat.le_of_ble_eq_true rfl⟩) (zRW_preV hKN hP hD (ci := 5) (q0 := 0) rfl rfl [0, 1] rfl (by decide)) rfl rfl hl.1 rfl (lv_room (Nat.le_of_ble_eq_true rfl)) dX5_save_60 ⟨Nat.zero_le _, Nat.zero_le _⟩) (fun u_7 H locs hw_60 hP hD hS => ?_)
    have hP : va_P D vwCl [((g 0), .inr (5, [.int th, .ref (g 1), .int 6, .ref (g 2), .ref (g 3), .int (nI ln), .int (nI at9), .int (nI pl), .int va, .long hs])), ((g 1), .inl (y 0, 4023, .inl (cpS (cpS (cpS (cpS (cpS (cpS S 2 1) 3 2) 4 3) 5 4) 6 5) 0 6)))] H := hP
    have hD : va_D A [((g 0), .inr (5, [.int th, .ref (g 1), .int 6, .ref (g 2), .ref (g 3), .int (nI ln), .int (nI at9), .int (nI pl), .int va, .long hs])), ((g 1), .inl (y 0, 4023, .inl (cpS (cpS (cpS (cpS (cpS (cpS S 2 1) 3 2) 4 3) 5 4) 6 5) 0 6)))] := hD
    have e7 : svS S 6 = (cpS (cpS (cpS (cpS (cpS (cpS S 2 1) 3 2) 4 3) 5 4) 6 5) 0 6) := if_pos rfl
    rw [← e7] at hP hD
    refine W.widen (k := 0) (n := 0) (by first | exact Nat.le_of_ble_eq_true rfl | omega) (by first | exact Nat.le_of_ble_eq_true rfl | omega) ?_
    exact W.vret hx hb hr (fun t ht hW => ⟨⟨(), rfl, by first | rfl | trivial | simp_all, ⟨by rw [ht]; exact hP, hD⟩⟩, hS.F ht⟩) hS.2.2 dX5_save_63

set_option maxHeartbeats 4000000 in
set_option maxRecDepth 100000 in
theorem mX5_changed (l : Launch) (D : va_G) (y : Nat → ClassId) (sz : Nat) (g : Nat → Nat) (S : (Nat → Int32)) (th : Int32) (sv : Nat) (ln : Nat) (at9 : Nat) (pl : Nat) (va : Int32) (hs : Int64) (p9 : Nat) (x : Int32) (hv : sv ≤ 6) (hp : p9 < 447) : Met l yX5_changed (ws_ yX5_changed cX5_changed 4 (some .int)) ({ frames := 2, cells := 0, slots := 0, locals := 44 }) (va_Pc [.ref (g 0), .int (nI p9), .int x] (zRW D y [((g 0), .inr (5, [.int th, .ref (g 1), .int (nI sv), .ref (g 2), .ref (g 3), .int (nI ln), .int (nI at9), .int (nI pl), .int va, .long hs])), ((g 1), .inl (y 0, 4023, .inl S))] sz)) (va_Qi (fun (r : Int32) (_ : Unit) => r = S p9) (fun (_ : Unit) t => zOut D (va_A [((g 0), .inr (5, [.int th, .ref (g 1), .int (nI sv), .ref (g 2), .ref (g 3), .int (nI ln), .int (nI at9), .int (nI pl), .int va, .long hs])), ((g 1), .inl (y 0, 4023, .inl S))] sz) [((g 0), .inr (5, [.int th, .ref (g 1), .int (nI (sv2 sv)), .ref (g 2), .ref (g 3), .int (nI ln), .int (nI at9), .int (nI pl), .int va, .long hs])), ((g 1), .inl (y 0, 4023, .inl (upd (svS S sv) p9 x)))] t) (va_A [((g 0), .inr (5, [.int th, .ref (g 1), .int (nI sv), .ref (g 2), .ref (g 3), .int (nI ln), .int (nI at9), .int (nI pl), .int va, .long hs])), ((g 1), .inl (y 0, 4023, .inl S))] sz)) 0 0 (va_A [((g 0), .inr (5, [.int th, .ref (g 1), .int (nI sv), .ref (g 2), .ref (g 3), .int (nI ln), .int (nI at9), .int (nI pl), .int va, .long hs])), ((g 1), .inl (y 0, 4023, .inl S))] sz) := by
  refine Met.ofW (cc := cX5_changed) (maxL := 4) (ret := (some .int)) (by decide) rfl ?_
  intro p e s m args below meth c s₁ B hml hpre9
  obtain ⟨rfl, hsz, hP, hKN, hD0⟩ := hpre9
  have hK := hKN.1
  have hx := B.exec
  have hb := B.bytes
  have hr := B.returns
  have hts := atoms_spec (ws := (ws_ yX5_changed cX5_changed 4 (some .int))) B.pre
  have htg : ∀ w ∈ gT, w.before _ s = true := fun w h => hts w (List.mem_cons_of_mem _ h)
  have hown : s.vm.findClass RX5 = some m.cls := findClass_of_methodNamed B.named
  have hlocks := B.notSynchronized
  subst hsz
  have hD := hD0.self (sz := s.heap.size)
  clear hD0
  generalize hAe : va_A [((g 0), .inr (5, [.int th, .ref (g 1), .int (nI sv), .ref (g 2), .ref (g 3), .int (nI ln), .int (nI at9), .int (nI pl), .int va, .long hs])), ((g 1), .inl (y 0, 4023, .inl S))] s.heap.size = A at hD ⊢
  have hA : ∀ q : Nat, s.heap.size ≤ q → A q := fun q h => by rw [← hAe]; exact Or.inr h
  have hS : va_S A s.heap s.heap [] := va_S.rf
  have hP : va_P D vwCl [((g 0), .inr (5, [.int th, .ref (g 1), .int (nI sv), .ref (g 2), .ref (g 3), .int (nI ln), .int (nI at9), .int (nI pl), .int va, .long hs])), ((g 1), .inl (y 0, 4023, .inl S))] s.heap := hP
  have hl := lv_entry ([.ref (g 0), .int (nI p9), .int x]) (n := 4) (Nat.le_of_ble_eq_true rfl)
  rw [lg_entry_eq]
  generalize (lg_sl ([.ref (g 0), .int (nI p9), .int x]) ++ List.replicate (4 - (lg_sl ([.ref (g 0), .int (nI p9), .int x])).length) Slot.unset).toArray = ls at hl ⊢
  have hl : lv_has ls 4 [(0, .ref (g 0)), (1, .int (nI p9)), (2, .int x)] := hl
  refine lv_aload_n hx hb dX5_changed_0 rfl (lv_at hl 0 rfl) ?_
  refine zw_callv (wr := []) (w1 := (fun _ : Unit => [((g 0), .inr (5, [.int th, .ref (g 1), .int (nI (sv2 sv)), .ref (g 2), .ref (g 3), .int (nI ln), .int (nI at9), .int (nI pl), .int va, .long hs])), ((g 1), .inl (y 0, 4023, .inl (svS S sv)))])) hP hD hS hA [0, 1] [] rfl rfl (by decide +kernel) (by decide +kernel) (va_runV (As := []) (rest := []) ⟨hx, hb, hml, hown, hts⟩ (mX5_save l D y _ g S th sv ln at9 pl va hs (by first | assumption | rfl | omega | decide)) (cwV 0 hts (zgV tw_423 tw_424 tw_425 tw_369 tw_417) rfl rfl rfl (by decide +kernel) ⟨Nat.le_of_ble_eq_true rfl, Nat.le_of_ble_eq_true rfl⟩) (zRW_preV hKN hP hD (ci := 5) (q0 := 0) rfl rfl [0, 1] rfl (by decide)) rfl rfl hl.1 rfl (lv_room (Nat.le_of_ble_eq_true rfl)) dX5_changed_1 ⟨Nat.zero_le _, Nat.zero_le _⟩) (fun u_1 H locs hw_1 hP hD hS => ?_)
  have hP : va_P D vwCl [((g 0), .inr (5, [.int th, .ref (g 1), .int (nI (sv2 sv)), .ref (g 2), .ref (g 3), .int (nI ln), .int (nI at9), .int (nI pl), .int va, .long hs])), ((g 1), .inl (y 0, 4023, .inl (svS S sv)))] H := hP
  have hD : va_D A [((g 0), .inr (5, [.int th, .ref (g 1), .int (nI (sv2 sv)), .ref (g 2), .ref (g 3), .int (nI ln), .int (nI at9), .int (nI pl), .int va, .long hs])), ((g 1), .inl (y 0, 4023, .inl (svS S sv)))] := hD
  refine lv_aload_n hx hb dX5_changed_4 rfl (lv_at hl 0 rfl) ?_
  refine va_get (D := D) (ci := 5) (v := .ref (g 1)) (C := RX5) (T := TX5) (N := 10) hx hb htg iX5 hown hK hP 0 rfl rfl 1 (by decide) (htg _ tw_359) (fun _ h9 => h9) rfl dX5_changed_5 ?_
  refine lv_iload_n hx hb dX5_changed_8 rfl (lv_at hl 1 rfl) ?_
  refine va_iald hx hb hK hP 1 0 rfl rfl (vp_in_nI (by omega) (by decide)) dX5_changed_9 ?_
  refine zz_top (y := (svS S sv) p9) (congrArg (svS S sv) (nI_clamp (by omega))) ?_
  refine zz_top (y := S p9) (svS_lo hp) ?_
  refine lv_istore_n (lv' := [(3, .int (S p9)), (0, .ref (g 0)), (1, .int (nI p9)), (2, .int x)]) hx hb dX5_changed_10 rfl hl (by decide) rfl (fun ls hl => ?_)
  refine lv_aload_n hx hb dX5_changed_11 rfl (lv_at hl 1 rfl) ?_
  refine va_get (D := D) (ci := 5) (v := .ref (g 1)) (C := RX5) (T := TX5) (N := 10) hx hb htg iX5 hown hK hP 0 rfl rfl 1 (by decide) (htg _ tw_359) (fun _ h9 => h9) rfl dX5_changed_12 ?_
  refine lv_iload_n hx hb dX5_changed_15 rfl (lv_at hl 2 rfl) ?_
  refine lv_iload_n hx hb dX5_changed_16 rfl (lv_at hl 3 rfl) ?_
  refine va_iast hx hb hK hP hD hS 1 0 rfl rfl (vp_in_nI (by omega) (by decide)) dX5_changed_17 (fun H locs hP hD hS => ?_)
  rw [show (nI p9).toNatClampNeg = p9 from (nI_clamp (by omega))] at hP hD
  have hP : va_P D vwCl [((g 0), .inr (5, [.int th, .ref (g 1), .int (nI (sv2 sv)), .ref (g 2), .ref (g 3), .int (nI ln), .int (nI at9), .int (nI pl), .int va, .long hs])), ((g 1), .inl (y 0, 4023, .inl (upd (svS S sv) p9 x)))] H := hP
  have hD : va_D A [((g 0), .inr (5, [.int th, .ref (g 1), .int (nI (sv2 sv)), .ref (g 2), .ref (g 3), .int (nI ln), .int (nI at9), .int (nI pl), .int va, .long hs])), ((g 1), .inl (y 0, 4023, .inl (upd (svS S sv) p9 x)))] := hD
  refine lv_iload_n hx hb dX5_changed_18 rfl (lv_at hl 0 rfl) ?_
  refine W.widen (k := 0) (n := 0) (by first | exact Nat.le_of_ble_eq_true rfl | omega) (by first | exact Nat.le_of_ble_eq_true rfl | omega) ?_
  exact W.iret (v := (S p9)) hx hb hr (fun t ht hW => ⟨⟨S p9, (), rfl, by first | rfl | trivial | simp_all, ⟨by rw [ht]; exact hP, hD⟩⟩, hS.F ht⟩) hS.2.2 dX5_changed_19
