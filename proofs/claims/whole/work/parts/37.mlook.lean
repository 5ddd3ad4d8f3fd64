/-! the reference's public looks -/
theorem zsu {S : Nat → Int32} {n k : Nat} (h : S 1 = nI n) (hk : k < n) (h6 : n ≤ 6) : ¬ (S 1 - 1) < nI k := by
  rw [h, show nI n - (1 : Int32) = nI (n - 1) from pk_sub (a := n) (b := 1) (by omega)]
  exact nI_nlt (a := n - 1) (b := k) (by omega) (by omega)

set_option maxHeartbeats 4000000 in
set_option maxRecDepth 100000 in
theorem mX5_arePair (l : Launch) (D : va_G) (y : Nat → ClassId) (g : Nat → Nat) (S : (Nat → Int32)) (th : Int32) (sv : Nat) (ln : Nat) (at9 : Nat) (pl : Nat) (va : Int32) (hs : Int64) (a : Int32) (b : Int32) (q : Int32) : Met l yX5_arePair (ws_ yX5_arePair cX5_arePair 4 (some .boolean)) ({ frames := 2, cells := 0, slots := 0, locals := 43 }) (va_Pc [.ref (g 0), .int a, .int b, .int q] (zRO D y [((g 0), .inr (5, [.int th, .ref (g 1), .int (nI sv), .ref (g 2), .ref (g 3), .int (nI ln), .int (nI at9), .int (nI pl), .int va, .long hs])), ((g 1), .inl (y 0, 4023, .inl S))])) (va_Qi (fun (r : Int32) (_ : Unit) => r = (if (¬ a < 0 ∧ ¬ (S 1 - 1) < a) ∧ (¬ b < 0 ∧ ¬ (S 1 - 1) < b) ∧ (¬ q < 0 ∧ ¬ 1 < q) then 1 else 0)) (fun _ _ => True) (fun _ => False)) 0 0 (fun _ => False) := by
  refine Met.ofW (cc := cX5_arePair) (maxL := 4) (ret := (some .boolean)) (by decide) rfl ?_
  intro p e s m args below meth c s₁ B hml hpre9
  obtain ⟨rfl, hP, hKN⟩ := hpre9
  have hK := hKN.1
  have hx := B.exec
  have hb := B.bytes
  have hr := B.returns
  have hts := atoms_spec (ws := (ws_ yX5_arePair cX5_arePair 4 (some .boolean))) B.pre
  have htg : ∀ w ∈ gT, w.before _ s = true := fun w h => hts w (List.mem_cons_of_mem _ h)
  have hown : s.vm.findClass RX5 = some m.cls := findClass_of_methodNamed B.named
  have hlocks := B.notSynchronized
  have hS : va_S (fun _ => False) s.heap s.heap [] := va_S.rf
  have hP : va_P D vwCl [((g 0), .inr (5, [.int th, .ref (g 1), .int (nI sv), .ref (g 2), .ref (g 3), .int (nI ln), .int (nI at9), .int (nI pl), .int va, .long hs])), ((g 1), .inl (y 0, 4023, .inl S))] s.heap := hP
  have hl := lv_entry ([.ref (g 0), .int a, .int b, .int q]) (n := 4) (Nat.le_of_ble_eq_true rfl)
  rw [lg_entry_eq]
  generalize (lg_sl ([.ref (g 0), .int a, .int b, .int q]) ++ List.replicate (4 - (lg_sl ([.ref (g 0), .int a, .int b, .int q])).length) Slot.unset).toArray = ls at hl ⊢
  have hl : lv_has ls 4 [(0, .ref (g 0)), (1, .int a), (2, .int b), (3, .int q)] := hl
  refine lv_aload_n hx hb dX5_arePair_0 rfl (lv_at hl 0 rfl) ?_
  refine lv_iload_n hx hb dX5_arePair_1 rfl (lv_at hl 1 rfl) ?_
  refine zr_calli (va_runV (As := [.int a]) (rest := []) ⟨hx, hb, hml, hown, hts⟩ (mX5_isSurvey l D y g S th sv ln at9 pl va hs a) (cwV 1 hts (zgV tw_486 tw_487 tw_488 tw_369 tw_371) rfl rfl rfl (by decide +kernel) ⟨Nat.le_of_ble_eq_true rfl, Nat.le_of_ble_eq_true rfl⟩) (zRO_preV hKN hP (ci := 5) (q0 := 0) rfl rfl [0, 1] rfl) rfl rfl hl.1 rfl (lv_room (Nat.le_of_ble_eq_true rfl)) dX5_arePair_2 ⟨Nat.zero_le _, Nat.zero_le _⟩) hS (fun r_1 H locs hw_2 hT hS => ?_)
  replace hP := hT _ _ hP
  obtain rfl : r_1 = (if ¬ a < 0 ∧ ¬ (S 1 - 1) < a then (1 : Int32) else 0) := hw_2
  refine lv_if_eq (tgt := 27) hx hb dX5_arePair_5 (by decide) (fun c_5 => ?_) (fun c_5 => ?_)
  · replace c_5 := zb0.mp c_5
    refine lv_iconst (v := 0) hx hb dX5_arePair_27 (by decide) ?_
    exact W.zret (v := 0) hx hb hr (by first | rfl | (split <;> rfl)) (fun t ht hW => ⟨⟨0, (), rfl, (if_neg (fun h => c_5 h.1)).symm, trivial⟩, hS.F ht⟩) hS.2.2 dX5_arePair_28
  · replace c_5 := zb1.mp c_5
    refine lv_aload_n hx hb dX5_arePair_8 rfl (lv_at hl 0 rfl) ?_
    refine lv_iload_n hx hb dX5_arePair_9 rfl (lv_at hl 2 rfl) ?_
    refine zr_calli (va_runV (As := [.int b]) (rest := []) ⟨hx, hb, hml, hown, hts⟩ (mX5_isSurvey l D y g S th sv ln at9 pl va hs b) (cwV 1 hts (zgV tw_486 tw_487 tw_488 tw_369 tw_371) rfl rfl rfl (by decide +kernel) ⟨Nat.le_of_ble_eq_true rfl, Nat.le_of_ble_eq_true rfl⟩) (zRO_preV hKN hP (ci := 5) (q0 := 0) rfl rfl [0, 1] rfl) rfl rfl hl.1 rfl (lv_room (Nat.le_of_ble_eq_true rfl)) dX5_arePair_10 ⟨Nat.zero_le _, Nat.zero_le _⟩) hS (fun r_2 H locs hw_10 hT hS => ?_)
    replace hP := hT _ _ hP
    obtain rfl : r_2 = (if ¬ b < 0 ∧ ¬ (S 1 - 1) < b then (1 : Int32) else 0) := hw_10
    refine lv_if_eq (tgt := 27) hx hb dX5_arePair_13 (by decide) (fun c_13 => ?_) (fun c_13 => ?_)
    · replace c_13 := zb0.mp c_13
      refine lv_iconst (v := 0) hx hb dX5_arePair_27 (by decide) ?_
      exact W.zret (v := 0) hx hb hr (by first | rfl | (split <;> rfl)) (fun t ht hW => ⟨⟨0, (), rfl, (if_neg (fun h => c_13 h.2.1)).symm, trivial⟩, hS.F ht⟩) hS.2.2 dX5_arePair_28
    · replace c_13 := zb1.mp c_13
      refine lv_iload_n hx hb dX5_arePair_16 rfl (lv_at hl 3 rfl) ?_
      refine zr_calli (va_runS (As := [.int q]) (rest := []) ⟨hx, hb, hml, hown, hts⟩ (mX5_isSide l q) (va_cwS 1 hts (zgS tw_429 tw_430 tw_369 tw_370) rfl rfl rfl (by decide +kernel) ⟨Nat.le_of_ble_eq_true rfl, Nat.le_of_ble_eq_true rfl⟩) zP_pre rfl rfl hl.1 rfl (lv_room (Nat.le_of_ble_eq_true rfl)) dX5_arePair_17 ⟨Nat.zero_le _, Nat.zero_le _⟩) hS (fun r_3 H locs hw_17 hT hS => ?_)
      replace hP := hT _ _ hP
      obtain rfl : r_3 = (if ¬ q < 0 ∧ ¬ 1 < q then (1 : Int32) else 0) := hw_17
      refine lv_if_eq (tgt := 27) hx hb dX5_arePair_20 (by decide) (fun c_20 => ?_) (fun c_20 => ?_)
      · replace c_20 := zb0.mp c_20
        refine lv_iconst (v := 0) hx hb dX5_arePair_27 (by decide) ?_
        exact W.zret (v := 0) hx hb hr (by first | rfl | (split <;> rfl)) (fun t ht hW => ⟨⟨0, (), rfl, (if_neg (fun h => c_20 h.2.2)).symm, trivial⟩, hS.F ht⟩) hS.2.2 dX5_arePair_28
      · replace c_20 := zb1.mp c_20
        refine lv_iconst (v := 1) hx hb dX5_arePair_23 (by decide) ?_
        refine lv_goto (tgt := 28) hx hb dX5_arePair_24 (by decide) ?_
        exact W.zret (v := 1) hx hb hr (by first | rfl | (split <;> rfl)) (fun t ht hW => ⟨⟨1, (), rfl, (if_pos ⟨c_5, c_13, c_20⟩).symm, trivial⟩, hS.F ht⟩) hS.2.2 dX5_arePair_28

set_option maxHeartbeats 4000000 in
set_option maxRecDepth 100000 in
theorem mX5_thrown (l : Launch) (D : va_G) (y : Nat → ClassId) (g : Nat → Nat) (th : Int32) (sv : Nat) (ln : Nat) (at9 : Nat) (pl : Nat) (va : Int32) (hs : Int64) : Met l yX5_thrown (ws_ yX5_thrown cX5_thrown 1 (some .int)) ({ frames := 0, cells := 0, slots := 0, locals := 0 }) (va_Pc [.ref (g 0)] (zRO D y [((g 0), .inr (5, [.int th, .ref (g 1), .int (nI sv), .ref (g 2), .ref (g 3), .int (nI ln), .int (nI at9), .int (nI pl), .int va, .long hs]))])) (va_Qi (fun (r : Int32) (_ : Unit) => r = th) (fun _ _ => True) (fun _ => False)) 0 0 (fun _ => False) := by
  refine Met.ofW (cc := cX5_thrown) (maxL := 1) (ret := (some .int)) (by decide) rfl ?_
  intro p e s m args below meth c s₁ B hml hpre9
  obtain ⟨rfl, hP, hKN⟩ := hpre9
  have hK := hKN.1
  have hx := B.exec
  have hb := B.bytes
  have hr := B.returns
  have hts := atoms_spec (ws := (ws_ yX5_thrown cX5_thrown 1 (some .int))) B.pre
  have htg : ∀ w ∈ gT, w.before _ s = true := fun w h => hts w (List.mem_cons_of_mem _ h)
  have hown : s.vm.findClass RX5 = some m.cls := findClass_of_methodNamed B.named
  have hlocks := B.notSynchronized
  have hS : va_S (fun _ => False) s.heap s.heap [] := va_S.rf
  have hP : va_P D vwCl [((g 0), .inr (5, [.int th, .ref (g 1), .int (nI sv), .ref (g 2), .ref (g 3), .int (nI ln), .int (nI at9), .int (nI pl), .int va, .long hs]))] s.heap := hP
  have hl := lv_entry ([.ref (g 0)]) (n := 1) (Nat.le_of_ble_eq_true rfl)
  rw [lg_entry_eq]
  generalize (lg_sl ([.ref (g 0)]) ++ List.replicate (1 - (lg_sl ([.ref (g 0)])).length) Slot.unset).toArray = ls at hl ⊢
  have hl : lv_has ls 1 [(0, .ref (g 0))] := hl
  refine lv_aload_n hx hb dX5_thrown_0 rfl (lv_at hl 0 rfl) ?_
  refine va_get (D := D) (ci := 5) (v := .int th) (C := RX5) (T := TX5) (N := 10) hx hb htg iX5 hown hK hP 0 rfl rfl 0 (by decide) (htg _ tw_363) (fun _ h9 => h9) rfl dX5_thrown_1 ?_
  exact W.iret (v := th) hx hb hr (fun t ht hW => ⟨⟨th, (), rfl, by first | rfl | trivial | simp_all, trivial⟩, hS.F ht⟩) hS.2.2 dX5_thrown_4

set_option maxHeartbeats 4000000 in
set_option maxRecDepth 100000 in
theorem mX5_levelOf (l : Launch) (D : va_G) (y : Nat → ClassId) (sz : Nat) (g : Nat → Nat) (S : (Nat → Int32)) (th : Int32) (sv : Nat) (ln : Nat) (at9 : Nat) (pl : Nat) (va : Int32) (hs : Int64) (v : Nat) (w9 : Nat) (hl9 : v < 16) (hw9 : w9 < 7) (hTu : hTq S) : Met l yX5_levelOf (ws_ yX5_levelOf cX5_levelOf 3 (some .int)) ({ frames := 4, cells := 0, slots := 0, locals := 91 }) (va_Pc [.ref (g 0), .int (nI v), .int (nI w9)] (zRW D y [((g 0), .inr (5, [.int th, .ref (g 1), .int (nI sv), .ref (g 2), .ref (g 3), .int (nI ln), .int (nI at9), .int (nI pl), .int va, .long hs])), ((g 1), .inl (y 0, 4023, .inl S))] sz)) (va_Qi (fun (r : Int32) (_ : Unit) => r = qOfL S v w9) (fun (_ : Unit) t => zOut D (va_A [((g 0), .inr (5, [.int th, .ref (g 1), .int (nI sv), .ref (g 2), .ref (g 3), .int (nI ln), .int (nI at9), .int (nI pl), .int va, .long hs])), ((g 1), .inl (y 0, 4023, .inl S))] sz) [((g 0), .inr (5, [.int 0, .ref (g 1), .int (nI sv), .ref (g 2), .ref (g 3), .int (nI ln), .int (nI at9), .int (nI pl), .int va, .long hs])), ((g 1), .inl (y 0, 4023, .inl S))] t) (va_A [((g 0), .inr (5, [.int th, .ref (g 1), .int (nI sv), .ref (g 2), .ref (g 3), .int (nI ln), .int (nI at9), .int (nI pl), .int va, .long hs])), ((g 1), .inl (y 0, 4023, .inl S))] sz)) 0 0 (va_A [((g 0), .inr (5, [.int th, .ref (g 1), .int (nI sv), .ref (g 2), .ref (g 3), .int (nI ln), .int (nI at9), .int (nI pl), .int va, .long hs])), ((g 1), .inl (y 0, 4023, .inl S))] sz) := by
  refine Met.ofW (cc := cX5_levelOf) (maxL := 3) (ret := (some .int)) (by decide) rfl ?_
  intro p e s m args below meth c s₁ B hml hpre9
  obtain ⟨rfl, hsz, hP, hKN, hD0⟩ := hpre9
  have hK := hKN.1
  have hx := B.exec
  have hb := B.bytes
  have hr := B.returns
  have hts := atoms_spec (ws := (ws_ yX5_levelOf cX5_levelOf 3 (some .int))) B.pre
  have htg : ∀ w ∈ gT, w.before _ s = true := fun w h => hts w (List.mem_cons_of_mem _ h)
  have hown : s.vm.findClass RX5 = some m.cls := findClass_of_methodNamed B.named
  have hlocks := B.notSynchronized
  subst hsz
  have hD := hD0.self (sz := s.heap.size)
  clear hD0
  generalize hAe : va_A [((g 0), .inr (5, [.int th, .ref (g 1), .int (nI sv), .ref (g 2), .ref (g 3), .int (nI ln), .int (nI at9), .int (nI pl), .int va, .long hs])), ((g 1), .inl (y 0, 4023, .inl S))] s.heap.size = A at hD ⊢
  have hA : ∀ q : Nat, s.heap.size ≤ q → A q := fun q h => by rw [← hAe]; exact Or.inr h
  have hS : va_S A s.heap s.heap [] := va_S.rf
  have hP : va_P D vwCl [((g 0), .inr (5, [.int th, .ref (g 1), .int (nI sv), .ref (g 2), .ref (g 3), .int (nI ln), .int (nI at9), .int (nI pl), .int va, .long hs])), ((g 1), .inl (y 0, 4023, .inl S))] s.heap := hP
  have hl := lv_entry ([.ref (g 0), .int (nI v), .int (nI w9)]) (n := 3) (Nat.le_of_ble_eq_true rfl)
  rw [lg_entry_eq]
  generalize (lg_sl ([.ref (g 0), .int (nI v), .int (nI w9)]) ++ List.replicate (3 - (lg_sl ([.ref (g 0), .int (nI v), .int (nI w9)])).length) Slot.unset).toArray = ls at hl ⊢
  have hl : lv_has ls 3 [(0, .ref (g 0)), (1, .int (nI v)), (2, .int (nI w9))] := hl
  refine lv_aload_n hx hb dX5_levelOf_0 rfl (lv_at hl 0 rfl) ?_
  refine lv_iload_n hx hb dX5_levelOf_1 rfl (lv_at hl 1 rfl) ?_
  refine zr_calli (va_runS (As := [.int (nI v)]) (rest := [.ref (g 0)]) ⟨hx, hb, hml, hown, hts⟩ (mX5_isLevel l (nI v)) (va_cwS 1 hts (zgS tw_427 tw_428 tw_369 tw_366) rfl rfl rfl (by decide +kernel) ⟨Nat.le_of_ble_eq_true rfl, Nat.le_of_ble_eq_true rfl⟩) zP_pre rfl rfl hl.1 rfl (lv_room (Nat.le_of_ble_eq_true rfl)) dX5_levelOf_2 ⟨Nat.zero_le _, Nat.zero_le _⟩) hS (fun r_1 H locs hw_2 hT hS => ?_)
  replace hP := hT _ _ hP
  obtain rfl : r_1 = (if ¬ (nI v) < 0 ∧ ¬ 15 < (nI v) then (1 : Int32) else 0) := hw_2
  refine lv_if_ne (tgt := 12) hx hb dX5_levelOf_5 (by decide) (fun _ => ?_) (fun c_5 => absurd c_5 (zb1.mpr ⟨nI_pos (n := v) (by omega), nI_nlt (a := 15) (b := v) (by omega) (by omega)⟩))
  refine lv_iload_n hx hb dX5_levelOf_12 rfl (lv_at hl 2 rfl) ?_
  refine lv_iconst (v := 0) hx hb dX5_levelOf_13 (by decide) ?_
  refine lv_bipush (v := 6) hx hb dX5_levelOf_14 (by decide) ?_
  refine zr_calli (va_runS (As := [.int (nI w9), .int 0, .int 6]) (rest := [.ref (g 0)]) ⟨hx, hb, hml, hown, hts⟩ (mX5_in l (nI w9) 0 6) (va_cwS 3 hts (zgS tw_367 tw_368 tw_369 tw_364) rfl rfl rfl (by decide +kernel) ⟨Nat.le_of_ble_eq_true rfl, Nat.le_of_ble_eq_true rfl⟩) zP_pre rfl rfl hl.1 rfl (lv_room (Nat.le_of_ble_eq_true rfl)) dX5_levelOf_16 ⟨Nat.zero_le _, Nat.zero_le _⟩) hS (fun r_2 H locs hw_16 hT hS => ?_)
  replace hP := hT _ _ hP
  obtain rfl : r_2 = (if ¬ (nI w9) < 0 ∧ ¬ 6 < (nI w9) then (1 : Int32) else 0) := hw_16
  refine lv_if_ne (tgt := 26) hx hb dX5_levelOf_19 (by decide) (fun _ => ?_) (fun c_19 => absurd c_19 (zb1.mpr ⟨nI_pos (n := w9) (by omega), nI_nlt (a := 6) (b := w9) (by omega) (by omega)⟩))
  refine lv_iconst (v := 0) hx hb dX5_levelOf_26 (by decide) ?_
  refine zw_calli (wr := [((g 1), .inl (y 0, 4023, .inl S))]) (w1 := (fun _ : Unit => [((g 0), .inr (5, [.int 0, .ref (g 1), .int (nI sv), .ref (g 2), .ref (g 3), .int (nI ln), .int (nI at9), .int (nI pl), .int va, .long hs]))])) hP hD hS hA [0] [1] rfl rfl (by decide +kernel) (by decide +kernel) (va_runV (As := [.int 0]) (rest := []) ⟨hx, hb, hml, hown, hts⟩ (mX5_holds l D y _ g th sv ln at9 pl va hs 0) (cwV 1 hts (zgV tw_431 tw_432 tw_433 tw_369 tw_365) rfl rfl rfl (by decide +kernel) ⟨Nat.le_of_ble_eq_true rfl, Nat.le_of_ble_eq_true rfl⟩) (zRW_preV hKN hP hD (ci := 5) (q0 := 0) rfl rfl [0] rfl (by decide)) rfl rfl hl.1 rfl (lv_room (Nat.le_of_ble_eq_true rfl)) dX5_levelOf_27 ⟨Nat.zero_le _, Nat.zero_le _⟩) (fun r_3 u_4 H locs hw_27 hP hD hS => ?_)
  have hP : va_P D vwCl [((g 1), .inl (y 0, 4023, .inl S)), ((g 0), .inr (5, [.int 0, .ref (g 1), .int (nI sv), .ref (g 2), .ref (g 3), .int (nI ln), .int (nI at9), .int (nI pl), .int va, .long hs]))] H := hP
  have hD : va_D A [((g 1), .inl (y 0, 4023, .inl S)), ((g 0), .inr (5, [.int 0, .ref (g 1), .int (nI sv), .ref (g 2), .ref (g 3), .int (nI ln), .int (nI at9), .int (nI pl), .int va, .long hs]))] := hD
  obtain rfl : r_3 = 1 := hw_27
  refine lv_if_eq (tgt := 42) hx hb dX5_levelOf_30 (by decide) (fun c_30 => absurd c_30 (by decide)) (fun _ => ?_)
  refine lv_aload_n hx hb dX5_levelOf_33 rfl (lv_at hl 0 rfl) ?_
  refine lv_iload_n hx hb dX5_levelOf_34 rfl (lv_at hl 1 rfl) ?_
  refine lv_iload_n hx hb dX5_levelOf_35 rfl (lv_at hl 2 rfl) ?_
  refine zr_calli (va_runV (As := [.int (nI v), .int (nI w9)]) (rest := []) ⟨hx, hb, hml, hown, hts⟩ (mX5_ofLevel l D y g S 0 sv ln at9 pl va hs v w9 (by first | assumption | rfl | omega | decide) (by first | assumption | rfl | omega | decide) (by first | assumption | rfl | omega | decide)) (cwV 2 hts (zgV tw_481 tw_482 tw_483 tw_369 tw_479) rfl rfl rfl (by decide +kernel) ⟨Nat.le_of_ble_eq_true rfl, Nat.le_of_ble_eq_true rfl⟩) (zRO_preV hKN hP (ci := 5) (q0 := 1) rfl rfl [1, 0] rfl) rfl rfl hl.1 rfl (lv_room (Nat.le_of_ble_eq_true rfl)) dX5_levelOf_36 ⟨Nat.zero_le _, Nat.zero_le _⟩) hS (fun r_5 H locs hw_36 hT hS => ?_)
  replace hP := hT _ _ hP
  obtain rfl : r_5 = qOfL S v w9 := hw_36
  refine lv_goto (tgt := 43) hx hb dX5_levelOf_39 (by decide) ?_
  have hP := hP.sub (ws' := [((g 0), .inr (5, [.int 0, .ref (g 1), .int (nI sv), .ref (g 2), .ref (g 3), .int (nI ln), .int (nI at9), .int (nI pl), .int va, .long hs])), ((g 1), .inl (y 0, 4023, .inl S))]) [1, 0] rfl
  have hD := hD.sub (ws' := [((g 0), .inr (5, [.int 0, .ref (g 1), .int (nI sv), .ref (g 2), .ref (g 3), .int (nI ln), .int (nI at9), .int (nI pl), .int va, .long hs])), ((g 1), .inl (y 0, 4023, .inl S))]) [1, 0] (by decide) rfl
  refine W.widen (k := 0) (n := 0) (by first | exact Nat.le_of_ble_eq_true rfl | omega) (by first | exact Nat.le_of_ble_eq_true rfl | omega) ?_
  exact W.iret (v := (qOfL S v w9)) hx hb hr (fun t ht hW => ⟨⟨qOfL S v w9, (), rfl, by first | rfl | trivial | simp_all, ⟨by rw [ht]; exact hP, hD⟩⟩, hS.F ht⟩) hS.2.2 dX5_levelOf_43

set_option maxHeartbeats 4000000 in
set_option maxRecDepth 100000 in
theorem mX5_levelOf_b1 (l : Launch) (D : va_G) (y : Nat → ClassId) (sz : Nat) (g : Nat → Nat) (th : Int32) (sv : Nat) (ln : Nat) (at9 : Nat) (pl : Nat) (va : Int32) (hs : Int64) (v : Int32) (x : Int32) (hb1 : ¬ (¬ v < 0 ∧ ¬ 15 < v)) : Met l yX5_levelOf (ws_ yX5_levelOf cX5_levelOf 3 (some .int)) ({ frames := 2, cells := 0, slots := 0, locals := 42 }) (va_Pc [.ref (g 0), .int v, .int x] (zRW D y [((g 0), .inr (5, [.int th, .ref (g 1), .int (nI sv), .ref (g 2), .ref (g 3), .int (nI ln), .int (nI at9), .int (nI pl), .int va, .long hs]))] sz)) (va_Qi (fun (r : Int32) (_ : Unit) => r = 0) (fun (_ : Unit) t => zOut D (va_A [((g 0), .inr (5, [.int th, .ref (g 1), .int (nI sv), .ref (g 2), .ref (g 3), .int (nI ln), .int (nI at9), .int (nI pl), .int va, .long hs]))] sz) [((g 0), .inr (5, [.int 1, .ref (g 1), .int (nI sv), .ref (g 2), .ref (g 3), .int (nI ln), .int (nI at9), .int (nI pl), .int va, .long hs]))] t) (va_A [((g 0), .inr (5, [.int th, .ref (g 1), .int (nI sv), .ref (g 2), .ref (g 3), .int (nI ln), .int (nI at9), .int (nI pl), .int va, .long hs]))] sz)) 0 0 (va_A [((g 0), .inr (5, [.int th, .ref (g 1), .int (nI sv), .ref (g 2), .ref (g 3), .int (nI ln), .int (nI at9), .int (nI pl), .int va, .long hs]))] sz) := by
  refine Met.ofW (cc := cX5_levelOf) (maxL := 3) (ret := (some .int)) (by decide) rfl ?_
  intro p e s m args below meth c s₁ B hml hpre9
  obtain ⟨rfl, hsz, hP, hKN, hD0⟩ := hpre9
  have hK := hKN.1
  have hx := B.exec
  have hb := B.bytes
  have hr := B.returns
  have hts := atoms_spec (ws := (ws_ yX5_levelOf cX5_levelOf 3 (some .int))) B.pre
  have htg : ∀ w ∈ gT, w.before _ s = true := fun w h => hts w (List.mem_cons_of_mem _ h)
  have hown : s.vm.findClass RX5 = some m.cls := findClass_of_methodNamed B.named
  have hlocks := B.notSynchronized
  subst hsz
  have hD := hD0.self (sz := s.heap.size)
  clear hD0
  generalize hAe : va_A [((g 0), .inr (5, [.int th, .ref (g 1), .int (nI sv), .ref (g 2), .ref (g 3), .int (nI ln), .int (nI at9), .int (nI pl), .int va, .long hs]))] s.heap.size = A at hD ⊢
  have hA : ∀ q : Nat, s.heap.size ≤ q → A q := fun q h => by rw [← hAe]; exact Or.inr h
  have hS : va_S A s.heap s.heap [] := va_S.rf
  have hP : va_P D vwCl [((g 0), .inr (5, [.int th, .ref (g 1), .int (nI sv), .ref (g 2), .ref (g 3), .int (nI ln), .int (nI at9), .int (nI pl), .int va, .long hs]))] s.heap := hP
  have hl := lv_entry ([.ref (g 0), .int v, .int x]) (n := 3) (Nat.le_of_ble_eq_true rfl)
  rw [lg_entry_eq]
  generalize (lg_sl ([.ref (g 0), .int v, .int x]) ++ List.replicate (3 - (lg_sl ([.ref (g 0), .int v, .int x])).length) Slot.unset).toArray = ls at hl ⊢
  have hl : lv_has ls 3 [(0, .ref (g 0)), (1, .int v), (2, .int x)] := hl
  refine lv_aload_n hx hb dX5_levelOf_0 rfl (lv_at hl 0 rfl) ?_
  refine lv_iload_n hx hb dX5_levelOf_1 rfl (lv_at hl 1 rfl) ?_
  refine zr_calli (va_runS (As := [.int v]) (rest := [.ref (g 0)]) ⟨hx, hb, hml, hown, hts⟩ (mX5_isLevel l v) (va_cwS 1 hts (zgS tw_427 tw_428 tw_369 tw_366) rfl rfl rfl (by decide +kernel) ⟨Nat.le_of_ble_eq_true rfl, Nat.le_of_ble_eq_true rfl⟩) zP_pre rfl rfl hl.1 rfl (lv_room (Nat.le_of_ble_eq_true rfl)) dX5_levelOf_2 ⟨Nat.zero_le _, Nat.zero_le _⟩) hS (fun r_1 H locs hw_2 hT hS => ?_)
  replace hP := hT _ _ hP
  obtain rfl : r_1 = (if ¬ v < 0 ∧ ¬ 15 < v then (1 : Int32) else 0) := hw_2
  refine lv_if_ne (tgt := 12) hx hb dX5_levelOf_5 (by decide) (fun c_5 => absurd (zb0.mpr hb1) c_5) (fun _ => ?_)
  refine lv_iconst (v := 1) hx hb dX5_levelOf_8 (by decide) ?_
  refine lv_goto (tgt := 27) hx hb dX5_levelOf_9 (by decide) ?_
  refine zw_calli (wr := []) (w1 := (fun _ : Unit => [((g 0), .inr (5, [.int 1, .ref (g 1), .int (nI sv), .ref (g 2), .ref (g 3), .int (nI ln), .int (nI at9), .int (nI pl), .int va, .long hs]))])) hP hD hS hA [0] [] rfl rfl (by decide +kernel) (by decide +kernel) (va_runV (As := [.int 1]) (rest := []) ⟨hx, hb, hml, hown, hts⟩ (mX5_holds l D y _ g th sv ln at9 pl va hs 1) (cwV 1 hts (zgV tw_431 tw_432 tw_433 tw_369 tw_365) rfl rfl rfl (by decide +kernel) ⟨Nat.le_of_ble_eq_true rfl, Nat.le_of_ble_eq_true rfl⟩) (zRW_preV hKN hP hD (ci := 5) (q0 := 0) rfl rfl [0] rfl (by decide)) rfl rfl hl.1 rfl (lv_room (Nat.le_of_ble_eq_true rfl)) dX5_levelOf_27 ⟨Nat.zero_le _, Nat.zero_le _⟩) (fun r_2 u_3 H locs hw_27 hP hD hS => ?_)
  have hP : va_P D vwCl [((g 0), .inr (5, [.int 1, .ref (g 1), .int (nI sv), .ref (g 2), .ref (g 3), .int (nI ln), .int (nI at9), .int (nI pl), .int va, .long hs]))] H := hP
  have hD : va_D A [((g 0), .inr (5, [.int 1, .ref (g 1), .int (nI sv), .ref (g 2), .ref (g 3), .int (nI ln), .int (nI at9), .int (nI pl), .int va, .long hs]))] := hD
  obtain rfl : r_2 = 0 := hw_27
  refine lv_if_eq (tgt := 42) hx hb dX5_levelOf_30 (by decide) (fun _ => ?_) (fun c_30 => absurd (by decide) c_30)
  refine lv_iconst (v := 0) hx hb dX5_levelOf_42 (by decide) ?_
  refine W.widen (k := 0) (n := 0) (by first | exact Nat.le_of_ble_eq_true rfl | omega) (by first | exact Nat.le_of_ble_eq_true rfl | omega) ?_
  exact W.iret (v := 0) hx hb hr (fun t ht hW => ⟨⟨0, (), rfl, by first | rfl | trivial | simp_all, ⟨by rw [ht]; exact hP, hD⟩⟩, hS.F ht⟩) hS.2.2 dX5_levelOf_43

set_option maxHeartbeats 4000000 in
set_option maxRecDepth 100000 in
theorem mX5_levelOf_b2 (l : Launch) (D : va_G) (y : Nat → ClassId) (sz : Nat) (g : Nat → Nat) (th : Int32) (sv : Nat) (ln : Nat) (at9 : Nat) (pl : Nat) (va : Int32) (hs : Int64) (v : Int32) (x : Int32) (h1 : ¬ v < 0 ∧ ¬ 15 < v) (hb1 : ¬ (¬ x < 0 ∧ ¬ 6 < x)) : Met l yX5_levelOf (ws_ yX5_levelOf cX5_levelOf 3 (some .int)) ({ frames := 2, cells := 0, slots := 0, locals := 42 }) (va_Pc [.ref (g 0), .int v, .int x] (zRW D y [((g 0), .inr (5, [.int th, .ref (g 1), .int (nI sv), .ref (g 2), .ref (g 3), .int (nI ln), .int (nI at9), .int (nI pl), .int va, .long hs]))] sz)) (va_Qi (fun (r : Int32) (_ : Unit) => r = 0) (fun (_ : Unit) t => zOut D (va_A [((g 0), .inr (5, [.int th, .ref (g 1), .int (nI sv), .ref (g 2), .ref (g 3), .int (nI ln), .int (nI at9), .int (nI pl), .int va, .long hs]))] sz) [((g 0), .inr (5, [.int 2, .ref (g 1), .int (nI sv), .ref (g 2), .ref (g 3), .int (nI ln), .int (nI at9), .int (nI pl), .int va, .long hs]))] t) (va_A [((g 0), .inr (5, [.int th, .ref (g 1), .int (nI sv), .ref (g 2), .ref (g 3), .int (nI ln), .int (nI at9), .int (nI pl), .int va, .long hs]))] sz)) 0 0 (va_A [((g 0), .inr (5, [.int th, .ref (g 1), .int (nI sv), .ref (g 2), .ref (g 3), .int (nI ln), .int (nI at9), .int (nI pl), .int va, .long hs]))] sz) := by
  refine Met.ofW (cc := cX5_levelOf) (maxL := 3) (ret := (some .int)) (by decide) rfl ?_
  intro p e s m args below meth c s₁ B hml hpre9
  obtain ⟨rfl, hsz, hP, hKN, hD0⟩ := hpre9
  have hK := hKN.1
  have hx := B.exec
  have hb := B.bytes
  have hr := B.returns
  have hts := atoms_spec (ws := (ws_ yX5_levelOf cX5_levelOf 3 (some .int))) B.pre
  have htg : ∀ w ∈ gT, w.before _ s = true := fun w h => hts w (List.mem_cons_of_mem _ h)
  have hown : s.vm.findClass RX5 = some m.cls := findClass_of_methodNamed B.named
  have hlocks := B.notSynchronized
  subst hsz
  have hD := hD0.self (sz := s.heap.size)
  clear hD0
  generalize hAe : va_A [((g 0), .inr (5, [.int th, .ref (g 1), .int (nI sv), .ref (g 2), .ref (g 3), .int (nI ln), .int (nI at9), .int (nI pl), .int va, .long hs]))] s.heap.size = A at hD ⊢
  have hA : ∀ q : Nat, s.heap.size ≤ q → A q := fun q h => by rw [← hAe]; exact Or.inr h
  have hS : va_S A s.heap s.heap [] := va_S.rf
  have hP : va_P D vwCl [((g 0), .inr (5, [.int th, .ref (g 1), .int (nI sv), .ref (g 2), .ref (g 3), .int (nI ln), .int (nI at9), .int (nI pl), .int va, .long hs]))] s.heap := hP
  have hl := lv_entry ([.ref (g 0), .int v, .int x]) (n := 3) (Nat.le_of_ble_eq_true rfl)
  rw [lg_entry_eq]
  generalize (lg_sl ([.ref (g 0), .int v, .int x]) ++ List.replicate (3 - (lg_sl ([.ref (g 0), .int v, .int x])).length) Slot.unset).toArray = ls at hl ⊢
  have hl : lv_has ls 3 [(0, .ref (g 0)), (1, .int v), (2, .int x)] := hl
  refine lv_aload_n hx hb dX5_levelOf_0 rfl (lv_at hl 0 rfl) ?_
  refine lv_iload_n hx hb dX5_levelOf_1 rfl (lv_at hl 1 rfl) ?_
  refine zr_calli (va_runS (As := [.int v]) (rest := [.ref (g 0)]) ⟨hx, hb, hml, hown, hts⟩ (mX5_isLevel l v) (va_cwS 1 hts (zgS tw_427 tw_428 tw_369 tw_366) rfl rfl rfl (by decide +kernel) ⟨Nat.le_of_ble_eq_true rfl, Nat.le_of_ble_eq_true rfl⟩) zP_pre rfl rfl hl.1 rfl (lv_room (Nat.le_of_ble_eq_true rfl)) dX5_levelOf_2 ⟨Nat.zero_le _, Nat.zero_le _⟩) hS (fun r_1 H locs hw_2 hT hS => ?_)
  replace hP := hT _ _ hP
  obtain rfl : r_1 = (if ¬ v < 0 ∧ ¬ 15 < v then (1 : Int32) else 0) := hw_2
  refine lv_if_ne (tgt := 12) hx hb dX5_levelOf_5 (by decide) (fun _ => ?_) (fun c_5 => absurd c_5 (zb1.mpr h1))
  refine lv_iload_n hx hb dX5_levelOf_12 rfl (lv_at hl 2 rfl) ?_
  refine lv_iconst (v := 0) hx hb dX5_levelOf_13 (by decide) ?_
  refine lv_bipush (v := 6) hx hb dX5_levelOf_14 (by decide) ?_
  refine zr_calli (va_runS (As := [.int x, .int 0, .int 6]) (rest := [.ref (g 0)]) ⟨hx, hb, hml, hown, hts⟩ (mX5_in l x 0 6) (va_cwS 3 hts (zgS tw_367 tw_368 tw_369 tw_364) rfl rfl rfl (by decide +kernel) ⟨Nat.le_of_ble_eq_true rfl, Nat.le_of_ble_eq_true rfl⟩) zP_pre rfl rfl hl.1 rfl (lv_room (Nat.le_of_ble_eq_true rfl)) dX5_levelOf_16 ⟨Nat.zero_le _, Nat.zero_le _⟩) hS (fun r_2 H locs hw_16 hT hS => ?_)
  replace hP := hT _ _ hP
  obtain rfl : r_2 = (if ¬ x < 0 ∧ ¬ 6 < x then (1 : Int32) else 0) := hw_16
  refine lv_if_ne (tgt := 26) hx hb dX5_levelOf_19 (by decide) (fun c_19 => absurd (zb0.mpr hb1) c_19) (fun _ => ?_)
  refine lv_iconst (v := 2) hx hb dX5_levelOf_22 (by decide) ?_
  refine lv_goto (tgt := 27) hx hb dX5_levelOf_23 (by decide) ?_
  refine zw_calli (wr := []) (w1 := (fun _ : Unit => [((g 0), .inr (5, [.int 2, .ref (g 1), .int (nI sv), .ref (g 2), .ref (g 3), .int (nI ln), .int (nI at9), .int (nI pl), .int va, .long hs]))])) hP hD hS hA [0] [] rfl rfl (by decide +kernel) (by decide +kernel) (va_runV (As := [.int 2]) (rest := []) ⟨hx, hb, hml, hown, hts⟩ (mX5_holds l D y _ g th sv ln at9 pl va hs 2) (cwV 1 hts (zgV tw_431 tw_432 tw_433 tw_369 tw_365) rfl rfl rfl (by decide +kernel) ⟨Nat.le_of_ble_eq_true rfl, Nat.le_of_ble_eq_true rfl⟩) (zRW_preV hKN hP hD (ci := 5) (q0 := 0) rfl rfl [0] rfl (by decide)) rfl rfl hl.1 rfl (lv_room (Nat.le_of_ble_eq_true rfl)) dX5_levelOf_27 ⟨Nat.zero_le _, Nat.zero_le _⟩) (fun r_3 u_4 H locs hw_27 hP hD hS => ?_)
  have hP : va_P D vwCl [((g 0), .inr (5, [.int 2, .ref (g 1), .int (nI sv), .ref (g 2), .ref (g 3), .int (nI ln), .int (nI at9), .int (nI pl), .int va, .long hs]))] H := hP
  have hD : va_D A [((g 0), .inr (5, [.int 2, .ref (g 1), .int (nI sv), .ref (g 2), .ref (g 3), .int (nI ln), .int (nI at9), .int (nI pl), .int va, .long hs]))] := hD
  obtain rfl : r_3 = 0 := hw_27
  refine lv_if_eq (tgt := 42) hx hb dX5_levelOf_30 (by decide) (fun _ => ?_) (fun c_30 => absurd (by decide) c_30)
  refine lv_iconst (v := 0) hx hb dX5_levelOf_42 (by decide) ?_
  refine W.widen (k := 0) (n := 0) (by first | exact Nat.le_of_ble_eq_true rfl | omega) (by first | exact Nat.le_of_ble_eq_true rfl | omega) ?_
  exact W.iret (v := 0) hx hb hr (fun t ht hW => ⟨⟨0, (), rfl, by first | rfl | trivial | simp_all, ⟨by rw [ht]; exact hP, hD⟩⟩, hS.F ht⟩) hS.2.2 dX5_levelOf_43

set_option maxHeartbeats 4000000 in
set_option maxRecDepth 100000 in
theorem mX5_reading (l : Launch) (D : va_G) (y : Nat → ClassId) (sz : Nat) (g : Nat → Nat) (S : (Nat → Int32)) (th : Int32) (sv : Nat) (ln : Nat) (at9 : Nat) (pl : Nat) (va : Int32) (hs : Int64) (n : Nat) (k : Nat) (v : Nat) (o : Nat) (w9 : Nat) (hS1 : S 1 = nI n) (hn6 : n ≤ 6) (hk0 : k < n) (hl9 : v < 16) (hq : o < 2) (hw9 : w9 < 6) (hTu : hTq S) : Met l yX5_reading (ws_ yX5_reading cX5_reading 6 (some .int)) ({ frames := 8, cells := 0, slots := 0, locals := 199 }) (va_Pc [.ref (g 0), .int (nI k), .int (nI v), .int (nI o), .int (nI w9)] (zRW D y [((g 0), .inr (5, [.int th, .ref (g 1), .int (nI sv), .ref (g 2), .ref (g 3), .int (nI ln), .int (nI at9), .int (nI pl), .int va, .long hs])), ((g 1), .inl (y 0, 4023, .inl S))] sz)) (va_Qi (fun (r : Int32) (_ : Unit) => r = qOfR S k v o w9) (fun (_ : Unit) t => zOut D (va_A [((g 0), .inr (5, [.int th, .ref (g 1), .int (nI sv), .ref (g 2), .ref (g 3), .int (nI ln), .int (nI at9), .int (nI pl), .int va, .long hs])), ((g 1), .inl (y 0, 4023, .inl S))] sz) [((g 0), .inr (5, [.int 0, .ref (g 1), .int (nI sv), .ref (g 2), .ref (g 3), .int (nI ln), .int (nI at9), .int (nI pl), .int va, .long hs])), ((g 1), .inl (y 0, 4023, .inl S))] t) (va_A [((g 0), .inr (5, [.int th, .ref (g 1), .int (nI sv), .ref (g 2), .ref (g 3), .int (nI ln), .int (nI at9), .int (nI pl), .int va, .long hs])), ((g 1), .inl (y 0, 4023, .inl S))] sz)) 0 0 (va_A [((g 0), .inr (5, [.int th, .ref (g 1), .int (nI sv), .ref (g 2), .ref (g 3), .int (nI ln), .int (nI at9), .int (nI pl), .int va, .long hs])), ((g 1), .inl (y 0, 4023, .inl S))] sz) := by
  refine Met.ofW (cc := cX5_reading) (maxL := 6) (ret := (some .int)) (by decide) rfl ?_
  intro p e s m args below meth c s₁ B hml hpre9
  obtain ⟨rfl, hsz, hP, hKN, hD0⟩ := hpre9
  have hK := hKN.1
  have hx := B.exec
  have hb := B.bytes
  have hr := B.returns
  have hts := atoms_spec (ws := (ws_ yX5_reading cX5_reading 6 (some .int))) B.pre
  have htg : ∀ w ∈ gT, w.before _ s = true := fun w h => hts w (List.mem_cons_of_mem _ h)
  have hown : s.vm.findClass RX5 = some m.cls := findClass_of_methodNamed B.named
  have hlocks := B.notSynchronized
  subst hsz
  have hD := hD0.self (sz := s.heap.size)
  clear hD0
  generalize hAe : va_A [((g 0), .inr (5, [.int th, .ref (g 1), .int (nI sv), .ref (g 2), .ref (g 3), .int (nI ln), .int (nI at9), .int (nI pl), .int va, .long hs])), ((g 1), .inl (y 0, 4023, .inl S))] s.heap.size = A at hD ⊢
  have hA : ∀ q : Nat, s.heap.size ≤ q → A q := fun q h => by rw [← hAe]; exact Or.inr h
  have hS : va_S A s.heap s.heap [] := va_S.rf
  have hP : va_P D vwCl [((g 0), .inr (5, [.int th, .ref (g 1), .int (nI sv), .ref (g 2), .ref (g 3), .int (nI ln), .int (nI at9), .int (nI pl), .int va, .long hs])), ((g 1), .inl (y 0, 4023, .inl S))] s.heap := hP
  have hl := lv_entry ([.ref (g 0), .int (nI k), .int (nI v), .int (nI o), .int (nI w9)]) (n := 6) (Nat.le_of_ble_eq_true rfl)
  rw [lg_entry_eq]
  generalize (lg_sl ([.ref (g 0), .int (nI k), .int (nI v), .int (nI o), .int (nI w9)]) ++ List.replicate (6 - (lg_sl ([.ref (g 0), .int (nI k), .int (nI v), .int (nI o), .int (nI w9)])).length) Slot.unset).toArray = ls at hl ⊢
  have hl : lv_has ls 6 [(0, .ref (g 0)), (1, .int (nI k)), (2, .int (nI v)), (3, .int (nI o)), (4, .int (nI w9))] := hl
  refine lv_aload_n hx hb dX5_reading_0 rfl (lv_at hl 0 rfl) ?_
  refine lv_iload_n hx hb dX5_reading_1 rfl (lv_at hl 1 rfl) ?_
  refine zr_calli (va_runV (As := [.int (nI k)]) (rest := []) ⟨hx, hb, hml, hown, hts⟩ (mX5_isSurvey l D y g S th sv ln at9 pl va hs (nI k)) (cwV 1 hts (zgV tw_486 tw_487 tw_488 tw_369 tw_371) rfl rfl rfl (by decide +kernel) ⟨Nat.le_of_ble_eq_true rfl, Nat.le_of_ble_eq_true rfl⟩) (zRO_preV hKN hP (ci := 5) (q0 := 0) rfl rfl [0, 1] rfl) rfl rfl hl.1 rfl (lv_room (Nat.le_of_ble_eq_true rfl)) dX5_reading_2 ⟨Nat.zero_le _, Nat.zero_le _⟩) hS (fun r_1 H locs hw_2 hT hS => ?_)
  replace hP := hT _ _ hP
  obtain rfl : r_1 = (if ¬ (nI k) < 0 ∧ ¬ (S 1 - 1) < (nI k) then (1 : Int32) else 0) := hw_2
  refine lv_if_eq (tgt := 26) hx hb dX5_reading_5 (by decide) (fun c_5 => absurd c_5 (zb1.mpr ⟨nI_pos (n := k) (by omega), zsu hS1 (by omega) hn6⟩)) (fun _ => ?_)
  refine lv_iload_n hx hb dX5_reading_8 rfl (lv_at hl 2 rfl) ?_
  refine zr_calli (va_runS (As := [.int (nI v)]) (rest := []) ⟨hx, hb, hml, hown, hts⟩ (mX5_isLevel l (nI v)) (va_cwS 1 hts (zgS tw_427 tw_428 tw_369 tw_366) rfl rfl rfl (by decide +kernel) ⟨Nat.le_of_ble_eq_true rfl, Nat.le_of_ble_eq_true rfl⟩) zP_pre rfl rfl hl.1 rfl (lv_room (Nat.le_of_ble_eq_true rfl)) dX5_reading_9 ⟨Nat.zero_le _, Nat.zero_le _⟩) hS (fun r_2 H locs hw_9 hT hS => ?_)
  replace hP := hT _ _ hP
  obtain rfl : r_2 = (if ¬ (nI v) < 0 ∧ ¬ 15 < (nI v) then (1 : Int32) else 0) := hw_9
  refine lv_if_eq (tgt := 26) hx hb dX5_reading_12 (by decide) (fun c_12 => absurd c_12 (zb1.mpr ⟨nI_pos (n := v) (by omega), nI_nlt (a := 15) (b := v) (by omega) (by omega)⟩)) (fun _ => ?_)
  refine lv_iload_n hx hb dX5_reading_15 rfl (lv_at hl 3 rfl) ?_
  refine zr_calli (va_runS (As := [.int (nI o)]) (rest := []) ⟨hx, hb, hml, hown, hts⟩ (mX5_isSide l (nI o)) (va_cwS 1 hts (zgS tw_429 tw_430 tw_369 tw_370) rfl rfl rfl (by decide +kernel) ⟨Nat.le_of_ble_eq_true rfl, Nat.le_of_ble_eq_true rfl⟩) zP_pre rfl rfl hl.1 rfl (lv_room (Nat.le_of_ble_eq_true rfl)) dX5_reading_16 ⟨Nat.zero_le _, Nat.zero_le _⟩) hS (fun r_3 H locs hw_16 hT hS => ?_)
  replace hP := hT _ _ hP
  obtain rfl : r_3 = (if ¬ (nI o) < 0 ∧ ¬ 1 < (nI o) then (1 : Int32) else 0) := hw_16
  refine lv_if_eq (tgt := 26) hx hb dX5_reading_19 (by decide) (fun c_19 => absurd c_19 (zb1.mpr ⟨nI_pos (n := o) (by omega), nI_nlt (a := 1) (b := o) (by omega) (by omega)⟩)) (fun _ => ?_)
  refine lv_iconst (v := 1) hx hb dX5_reading_22 (by decide) ?_
  refine lv_goto (tgt := 27) hx hb dX5_reading_23 (by decide) ?_
  refine lv_istore (lv' := [(5, .int 1), (0, .ref (g 0)), (1, .int (nI k)), (2, .int (nI v)), (3, .int (nI o)), (4, .int (nI w9))]) hx hb dX5_reading_27 hl (by decide) rfl (fun ls hl => ?_)
  refine lv_aload_n hx hb dX5_reading_29 rfl (lv_at hl 1 rfl) ?_
  refine lv_iload hx hb dX5_reading_30 (lv_at hl 0 rfl) ?_
  refine lv_if_ne (tgt := 39) hx hb dX5_reading_32 (by decide) (fun _ => ?_) (fun c_32 => absurd c_32 (by decide))
  refine lv_iload hx hb dX5_reading_39 (lv_at hl 5 rfl) ?_
  refine lv_iconst (v := 0) hx hb dX5_reading_41 (by decide) ?_
  refine lv_iconst (v := 5) hx hb dX5_reading_42 (by decide) ?_
  refine zr_calli (va_runS (As := [.int (nI w9), .int 0, .int 5]) (rest := [.ref (g 0)]) ⟨hx, hb, hml, hown, hts⟩ (mX5_in l (nI w9) 0 5) (va_cwS 3 hts (zgS tw_367 tw_368 tw_369 tw_364) rfl rfl rfl (by decide +kernel) ⟨Nat.le_of_ble_eq_true rfl, Nat.le_of_ble_eq_true rfl⟩) zP_pre rfl rfl hl.1 rfl (lv_room (Nat.le_of_ble_eq_true rfl)) dX5_reading_43 ⟨Nat.zero_le _, Nat.zero_le _⟩) hS (fun r_4 H locs hw_43 hT hS => ?_)
  replace hP := hT _ _ hP
  obtain rfl : r_4 = (if ¬ (nI w9) < 0 ∧ ¬ 5 < (nI w9) then (1 : Int32) else 0) := hw_43
  refine lv_if_ne (tgt := 53) hx hb dX5_reading_46 (by decide) (fun _ => ?_) (fun c_46 => absurd c_46 (zb1.mpr ⟨nI_pos (n := w9) (by omega), nI_nlt (a := 5) (b := w9) (by omega) (by omega)⟩))
  refine lv_iconst (v := 0) hx hb dX5_reading_53 (by decide) ?_
  refine zw_calli (wr := [((g 1), .inl (y 0, 4023, .inl S))]) (w1 := (fun _ : Unit => [((g 0), .inr (5, [.int 0, .ref (g 1), .int (nI sv), .ref (g 2), .ref (g 3), .int (nI ln), .int (nI at9), .int (nI pl), .int va, .long hs]))])) hP hD hS hA [0] [1] rfl rfl (by decide +kernel) (by decide +kernel) (va_runV (As := [.int 0]) (rest := []) ⟨hx, hb, hml, hown, hts⟩ (mX5_holds l D y _ g th sv ln at9 pl va hs 0) (cwV 1 hts (zgV tw_431 tw_432 tw_433 tw_369 tw_365) rfl rfl rfl (by decide +kernel) ⟨Nat.le_of_ble_eq_true rfl, Nat.le_of_ble_eq_true rfl⟩) (zRW_preV hKN hP hD (ci := 5) (q0 := 0) rfl rfl [0] rfl (by decide)) rfl rfl hl.1 rfl (lv_room (Nat.le_of_ble_eq_true rfl)) dX5_reading_54 ⟨Nat.zero_le _, Nat.zero_le _⟩) (fun r_5 u_6 H locs hw_54 hP hD hS => ?_)
  have hP : va_P D vwCl [((g 1), .inl (y 0, 4023, .inl S)), ((g 0), .inr (5, [.int 0, .ref (g 1), .int (nI sv), .ref (g 2), .ref (g 3), .int (nI ln), .int (nI at9), .int (nI pl), .int va, .long hs]))] H := hP
  have hD : va_D A [((g 1), .inl (y 0, 4023, .inl S)), ((g 0), .inr (5, [.int 0, .ref (g 1), .int (nI sv), .ref (g 2), .ref (g 3), .int (nI ln), .int (nI at9), .int (nI pl), .int va, .long hs]))] := hD
  obtain rfl : r_5 = 1 := hw_54
  refine lv_if_eq (tgt := 72) hx hb dX5_reading_57 (by decide) (fun c_57 => absurd c_57 (by decide)) (fun _ => ?_)
  refine lv_aload_n hx hb dX5_reading_60 rfl (lv_at hl 1 rfl) ?_
  refine lv_iload_n hx hb dX5_reading_61 rfl (lv_at hl 2 rfl) ?_
  refine lv_iload_n hx hb dX5_reading_62 rfl (lv_at hl 3 rfl) ?_
  refine lv_iload_n hx hb dX5_reading_63 rfl (lv_at hl 4 rfl) ?_
  refine lv_iload hx hb dX5_reading_64 (lv_at hl 5 rfl) ?_
  refine zr_calli (va_runV (As := [.int (nI k), .int (nI v), .int (nI o), .int (nI w9)]) (rest := []) ⟨hx, hb, hml, hown, hts⟩ (mX5_ofReading l D y g S 0 sv ln at9 pl va hs k v o w9 (by first | assumption | rfl | omega | decide) (by first | assumption | rfl | omega | decide) (by first | assumption | rfl | omega | decide) (by first | assumption | rfl | omega | decide) (by first | assumption | rfl | omega | decide)) (cwV 4 hts (zgV tw_489 tw_490 tw_491 tw_369 tw_484) rfl rfl rfl (by decide +kernel) ⟨Nat.le_of_ble_eq_true rfl, Nat.le_of_ble_eq_true rfl⟩) (zRO_preV hKN hP (ci := 5) (q0 := 1) rfl rfl [1, 0] rfl) rfl rfl hl.1 rfl (lv_room (Nat.le_of_ble_eq_true rfl)) dX5_reading_66 ⟨Nat.zero_le _, Nat.zero_le _⟩) hS (fun r_7 H locs hw_66 hT hS => ?_)
  replace hP := hT _ _ hP
  obtain rfl : r_7 = qOfR S k v o w9 := hw_66
  refine lv_goto (tgt := 73) hx hb dX5_reading_69 (by decide) ?_
  have hP := hP.sub (ws' := [((g 0), .inr (5, [.int 0, .ref (g 1), .int (nI sv), .ref (g 2), .ref (g 3), .int (nI ln), .int (nI at9), .int (nI pl), .int va, .long hs])), ((g 1), .inl (y 0, 4023, .inl S))]) [1, 0] rfl
  have hD := hD.sub (ws' := [((g 0), .inr (5, [.int 0, .ref (g 1), .int (nI sv), .ref (g 2), .ref (g 3), .int (nI ln), .int (nI at9), .int (nI pl), .int va, .long hs])), ((g 1), .inl (y 0, 4023, .inl S))]) [1, 0] (by decide) rfl
  refine W.widen (k := 0) (n := 0) (by first | exact Nat.le_of_ble_eq_true rfl | omega) (by first | exact Nat.le_of_ble_eq_true rfl | omega) ?_
  exact W.iret (v := (qOfR S k v o w9)) hx hb hr (fun t ht hW => ⟨⟨qOfR S k v o w9, (), rfl, by first | rfl | trivial | simp_all, ⟨by rw [ht]; exact hP, hD⟩⟩, hS.F ht⟩) hS.2.2 dX5_reading_73

set_option maxHeartbeats 4000000 in
set_option maxRecDepth 100000 in
theorem mX5_reading_b1 (l : Launch) (D : va_G) (y : Nat → ClassId) (sz : Nat) (g : Nat → Nat) (S : (Nat → Int32)) (th : Int32) (sv : Nat) (ln : Nat) (at9 : Nat) (pl : Nat) (va : Int32) (hs : Int64) (k : Int32) (v : Int32) (o : Int32) (w9 : Int32) (hb1 : ¬ ((¬ k < 0 ∧ ¬ (S 1 - 1) < k) ∧ (¬ v < 0 ∧ ¬ 15 < v) ∧ (¬ o < 0 ∧ ¬ 1 < o))) : Met l yX5_reading (ws_ yX5_reading cX5_reading 6 (some .int)) ({ frames := 2, cells := 0, slots := 0, locals := 43 }) (va_Pc [.ref (g 0), .int k, .int v, .int o, .int w9] (zRW D y [((g 0), .inr (5, [.int th, .ref (g 1), .int (nI sv), .ref (g 2), .ref (g 3), .int (nI ln), .int (nI at9), .int (nI pl), .int va, .long hs])), ((g 1), .inl (y 0, 4023, .inl S))] sz)) (va_Qi (fun (r : Int32) (_ : Unit) => r = 0) (fun (_ : Unit) t => zOut D (va_A [((g 0), .inr (5, [.int th, .ref (g 1), .int (nI sv), .ref (g 2), .ref (g 3), .int (nI ln), .int (nI at9), .int (nI pl), .int va, .long hs])), ((g 1), .inl (y 0, 4023, .inl S))] sz) [((g 0), .inr (5, [.int 1, .ref (g 1), .int (nI sv), .ref (g 2), .ref (g 3), .int (nI ln), .int (nI at9), .int (nI pl), .int va, .long hs])), ((g 1), .inl (y 0, 4023, .inl S))] t) (va_A [((g 0), .inr (5, [.int th, .ref (g 1), .int (nI sv), .ref (g 2), .ref (g 3), .int (nI ln), .int (nI at9), .int (nI pl), .int va, .long hs])), ((g 1), .inl (y 0, 4023, .inl S))] sz)) 0 0 (va_A [((g 0), .inr (5, [.int th, .ref (g 1), .int (nI sv), .ref (g 2), .ref (g 3), .int (nI ln), .int (nI at9), .int (nI pl), .int va, .long hs])), ((g 1), .inl (y 0, 4023, .inl S))] sz) := by
  refine Met.ofW (cc := cX5_reading) (maxL := 6) (ret := (some .int)) (by decide) rfl ?_
  intro p e s m args below meth c s₁ B hml hpre9
  obtain ⟨rfl, hsz, hP, hKN, hD0⟩ := hpre9
  have hK := hKN.1
  have hx := B.exec
  have hb := B.bytes
  have hr := B.returns
  have hts := atoms_spec (ws := (ws_ yX5_reading cX5_reading 6 (some .int))) B.pre
  have htg : ∀ w ∈ gT, w.before _ s = true := fun w h => hts w (List.mem_cons_of_mem _ h)
  have hown : s.vm.findClass RX5 = some m.cls := findClass_of_methodNamed B.named
  have hlocks := B.notSynchronized
  subst hsz
  have hD := hD0.self (sz := s.heap.size)
  clear hD0
  generalize hAe : va_A [((g 0), .inr (5, [.int th, .ref (g 1), .int (nI sv), .ref (g 2), .ref (g 3), .int (nI ln), .int (nI at9), .int (nI pl), .int va, .long hs])), ((g 1), .inl (y 0, 4023, .inl S))] s.heap.size = A at hD ⊢
  have hA : ∀ q : Nat, s.heap.size ≤ q → A q := fun q h => by rw [← hAe]; exact Or.inr h
  have hS : va_S A s.heap s.heap [] := va_S.rf
  have hP : va_P D vwCl [((g 0), .inr (5, [.int th, .ref (g 1), .int (nI sv), .ref (g 2), .ref (g 3), .int (nI ln), .int (nI at9), .int (nI pl), .int va, .long hs])), ((g 1), .inl (y 0, 4023, .inl S))] s.heap := hP
  have hl := lv_entry ([.ref (g 0), .int k, .int v, .int o, .int w9]) (n := 6) (Nat.le_of_ble_eq_true rfl)
  rw [lg_entry_eq]
  generalize (lg_sl ([.ref (g 0), .int k, .int v, .int o, .int w9]) ++ List.replicate (6 - (lg_sl ([.ref (g 0), .int k, .int v, .int o, .int w9])).length) Slot.unset).toArray = ls at hl ⊢
  have hl : lv_has ls 6 [(0, .ref (g 0)), (1, .int k), (2, .int v), (3, .int o), (4, .int w9)] := hl
  refine lv_aload_n hx hb dX5_reading_0 rfl (lv_at hl 0 rfl) ?_
  refine lv_iload_n hx hb dX5_reading_1 rfl (lv_at hl 1 rfl) ?_
  refine zr_calli (va_runV (As := [.int k]) (rest := []) ⟨hx, hb, hml, hown, hts⟩ (mX5_isSurvey l D y g S th sv ln at9 pl va hs k) (cwV 1 hts (zgV tw_486 tw_487 tw_488 tw_369 tw_371) rfl rfl rfl (by decide +kernel) ⟨Nat.le_of_ble_eq_true rfl, Nat.le_of_ble_eq_true rfl⟩) (zRO_preV hKN hP (ci := 5) (q0 := 0) rfl rfl [0, 1] rfl) rfl rfl hl.1 rfl (lv_room (Nat.le_of_ble_eq_true rfl)) dX5_reading_2 ⟨Nat.zero_le _, Nat.zero_le _⟩) hS (fun r_1 H locs hw_2 hT hS => ?_)
  replace hP := hT _ _ hP
  obtain rfl : r_1 = (if ¬ k < 0 ∧ ¬ (S 1 - 1) < k then (1 : Int32) else 0) := hw_2
  refine lv_if_eq (tgt := 26) hx hb dX5_reading_5 (by decide) (fun c_5 => ?_) (fun c_5 => ?_)
  · replace c_5 := zb0.mp c_5
    refine lv_iconst (v := 0) hx hb dX5_reading_26 (by decide) ?_
    refine lv_istore (lv' := [(5, .int 0), (0, .ref (g 0)), (1, .int k), (2, .int v), (3, .int o), (4, .int w9)]) hx hb dX5_reading_27 hl (by decide) rfl (fun ls hl => ?_)
    refine lv_aload_n hx hb dX5_reading_29 rfl (lv_at hl 1 rfl) ?_
    refine lv_iload hx hb dX5_reading_30 (lv_at hl 0 rfl) ?_
    refine lv_if_ne (tgt := 39) hx hb dX5_reading_32 (by decide) (fun c_32 => absurd (by decide) c_32) (fun _ => ?_)
    refine lv_iconst (v := 1) hx hb dX5_reading_35 (by decide) ?_
    refine lv_goto (tgt := 54) hx hb dX5_reading_36 (by decide) ?_
    refine zw_calli (wr := [((g 1), .inl (y 0, 4023, .inl S))]) (w1 := (fun _ : Unit => [((g 0), .inr (5, [.int 1, .ref (g 1), .int (nI sv), .ref (g 2), .ref (g 3), .int (nI ln), .int (nI at9), .int (nI pl), .int va, .long hs]))])) hP hD hS hA [0] [1] rfl rfl (by decide +kernel) (by decide +kernel) (va_runV (As := [.int 1]) (rest := []) ⟨hx, hb, hml, hown, hts⟩ (mX5_holds l D y _ g th sv ln at9 pl va hs 1) (cwV 1 hts (zgV tw_431 tw_432 tw_433 tw_369 tw_365) rfl rfl rfl (by decide +kernel) ⟨Nat.le_of_ble_eq_true rfl, Nat.le_of_ble_eq_true rfl⟩) (zRW_preV hKN hP hD (ci := 5) (q0 := 0) rfl rfl [0] rfl (by decide)) rfl rfl hl.1 rfl (lv_room (Nat.le_of_ble_eq_true rfl)) dX5_reading_54 ⟨Nat.zero_le _, Nat.zero_le _⟩) (fun r_2 u_3 H locs hw_54 hP hD hS => ?_)
    have hP : va_P D vwCl [((g 1), .inl (y 0, 4023, .inl S)), ((g 0), .inr (5, [.int 1, .ref (g 1), .int (nI sv), .ref (g 2), .ref (g 3), .int (nI ln), .int (nI at9), .int (nI pl), .int va, .long hs]))] H := hP
    have hD : va_D A [((g 1), .inl (y 0, 4023, .inl S)), ((g 0), .inr (5, [.int 1, .ref (g 1), .int (nI sv), .ref (g 2), .ref (g 3), .int (nI ln), .int (nI at9), .int (nI pl), .int va, .long hs]))] := hD
    obtain rfl : r_2 = 0 := hw_54
    refine lv_if_eq (tgt := 72) hx hb dX5_reading_57 (by decide) (fun _ => ?_) (fun c_57 => absurd (by decide) c_57)
    refine lv_iconst (v := 0) hx hb dX5_reading_72 (by decide) ?_
    have hP := hP.sub (ws' := [((g 0), .inr (5, [.int 1, .ref (g 1), .int (nI sv), .ref (g 2), .ref (g 3), .int (nI ln), .int (nI at9), .int (nI pl), .int va, .long hs])), ((g 1), .inl (y 0, 4023, .inl S))]) [1, 0] rfl
    have hD := hD.sub (ws' := [((g 0), .inr (5, [.int 1, .ref (g 1), .int (nI sv), .ref (g 2), .ref (g 3), .int (nI ln), .int (nI at9), .int (nI pl), .int va, .long hs])), ((g 1), .inl (y 0, 4023, .inl S))]) [1, 0] (by decide) rfl
    refine W.widen (k := 0) (n := 0) (by first | exact Nat.le_of_ble_eq_true rfl | omega) (by first | exact Nat.le_of_ble_eq_true rfl | omega) ?_
    exact W.iret (v := 0) hx hb hr (fun t ht hW => ⟨⟨0, (), rfl, by first | rfl | trivial | simp_all, ⟨by rw [ht]; exact hP, hD⟩⟩, hS.F ht⟩) hS.2.2 dX5_reading_73
  · replace c_5 := zb1.mp c_5
    refine lv_iload_n hx hb dX5_reading_8 rfl (lv_at hl 2 rfl) ?_
    refine zr_calli (va_runS (As := [.int v]) (rest := []) ⟨hx, hb, hml, hown, hts⟩ (mX5_isLevel l v) (va_cwS 1 hts (zgS tw_427 tw_428 tw_369 tw_366) rfl rfl rfl (by decide +kernel) ⟨Nat.le_of_ble_eq_true rfl, Nat.le_of_ble_eq_true rfl⟩) zP_pre rfl rfl hl.1 rfl (lv_room (Nat.le_of_ble_eq_true rfl)) dX5_reading_9 ⟨Nat.zero_le _, Nat.zero_le _⟩) hS (fun r_4 H locs hw_9 hT hS => ?_)
    replace hP := hT _ _ hP
    obtain rfl : r_4 = (if ¬ v < 0 ∧ ¬ 15 < v then (1 : Int32) else 0) := hw_9
    refine lv_if_eq (tgt := 26) hx hb dX5_reading_12 (by decide) (fun c_12 => ?_) (fun c_12 => ?_)
    · replace c_12 := zb0.mp c_12
      refine lv_iconst (v := 0) hx hb dX5_reading_26 (by decide) ?_
      refine lv_istore (lv' := [(5, .int 0), (0, .ref (g 0)), (1, .int k), (2, .int v), (3, .int o), (4, .int w9)]) hx hb dX5_reading_27 hl (by decide) rfl (fun ls hl => ?_)
      refine lv_aload_n hx hb dX5_reading_29 rfl (lv_at hl 1 rfl) ?_
      refine lv_iload hx hb dX5_reading_30 (lv_at hl 0 rfl) ?_
      refine lv_if_ne (tgt := 39) hx hb dX5_reading_32 (by decide) (fun c_32 => absurd (by decide) c_32) (fun _ => ?_)
      refine lv_iconst (v := 1) hx hb dX5_reading_35 (by decide) ?_
      refine lv_goto (tgt := 54) hx hb dX5_reading_36 (by decide) ?_
      refine zw_calli (wr := [((g 1), .inl (y 0, 4023, .inl S))]) (w1 := (fun _ : Unit => [((g 0), .inr (5, [.int 1, .ref (g 1), .int (nI sv), .ref (g 2), .ref (g 3), .int (nI ln), .int (nI at9), .int (nI pl), .int va, .long hs]))])) hP hD hS hA [0] [1] rfl rfl (by decide +kernel) (by decide +kernel) (va_runV (As := [.int 1]) (rest := []) ⟨hx, hb, hml, hown, hts⟩ (mX5_holds l D y _ g th sv ln at9 pl va hs 1) (cwV 1 hts (zgV tw_431 tw_432 tw_433 tw_369 tw_365) rfl rfl rfl (by decide +kernel) ⟨Nat.le_of_ble_eq_true rfl, Nat.le_of_ble_eq_true rfl⟩) (zRW_preV hKN hP hD (ci := 5) (q0 := 0) rfl rfl [0] rfl (by decide)) rfl rfl hl.1 rfl (lv_room (Nat.le_of_ble_eq_true rfl)) dX5_reading_54 ⟨Nat.zero_le _, Nat.zero_le _⟩) (fun r_5 u_6 H locs hw_54 hP hD hS => ?_)
      have hP : va_P D vwCl [((g 1), .inl (y 0, 4023, .inl S)), ((g 0), .inr (5, [.int 1, .ref (g 1), .int (nI sv), .ref (g 2), .ref (g 3), .int (nI ln), .int (nI at9), .int (nI pl), .int va, .long hs]))] H := hP
      have hD : va_D A [((g 1), .inl (y 0, 4023, .inl S)), ((g 0), .inr (5, [.int 1, .ref (g 1), .int (nI sv), .ref (g 2), .ref (g 3), .int (nI ln), .int (nI at9), .int (nI pl), .int va, .long hs]))] := hD
      obtain rfl : r_5 = 0 := hw_54
      refine lv_if_eq (tgt := 72) hx hb dX5_reading_57 (by decide) (fun _ => ?_) (fun c_57 => absurd (by decide) c_57)
      refine lv_iconst (v := 0) hx hb dX5_reading_72 (by decide) ?_
      have hP := hP.sub (ws' := [((g 0), .inr (5, [.int 1, .ref (g 1), .int (nI sv), .ref (g 2), .ref (g 3), .int (nI ln), .int (nI at9), .int (nI pl), .int va, .long hs])), ((g 1), .inl (y 0, 4023, .inl S))]) [1, 0] rfl
      have hD := hD.sub (ws' := [((g 0), .inr (5, [.int 1, .ref (g 1), .int (nI sv), .ref (g 2), .ref (g 3), .int (nI ln), .int (nI at9), .int (nI pl), .int va, .long hs])), ((g 1), .inl (y 0, 4023, .inl S))]) [1, 0] (by decide) rfl
      refine W.widen (k := 0) (n := 0) (by first | exact Nat.le_of_ble_eq_true rfl | omega) (by first | exact Nat.le_of_ble_eq_true rfl | omega) ?_
      exact W.iret (v := 0) hx hb hr (fun t ht hW => ⟨⟨0, (), rfl, by first | rfl | trivial | simp_all, ⟨by rw [ht]; exact hP, hD⟩⟩, hS.F ht⟩) hS.2.2 dX5_reading_73
    · replace c_12 := zb1.mp c_12
      refine lv_iload_n hx hb dX5_reading_15 rfl (lv_at hl 3 rfl) ?_
      refine zr_calli (va_runS (As := [.int o]) (rest := []) ⟨hx, hb, hml, hown, hts⟩ (mX5_isSide l o) (va_cwS 1 hts (zgS tw_429 tw_430 tw_369 tw_370) rfl rfl rfl (by decide +kernel) ⟨Nat.le_of_ble_eq_true rfl, Nat.le_of_ble_eq_true rfl⟩) zP_pre rfl rfl hl.1 rfl (lv_room (Nat.le_of_ble_eq_true rfl)) dX5_reading_16 ⟨Nat.zero_le _, Nat.zero_le _⟩) hS (fun r_7 H locs hw_16 hT hS => ?_)
      replace hP := hT _ _ hP
      obtain rfl : r_7 = (if ¬ o < 0 ∧ ¬ 1 < o then (1 : Int32) else 0) := hw_16
      refine lv_if_eq (tgt := 26) hx hb dX5_reading_19 (by decide) (fun c_19 => ?_) (fun c_19 => ?_)
      · replace c_19 := zb0.mp c_19
        refine lv_iconst (v := 0) hx hb dX5_reading_26 (by decide) ?_
        refine lv_istore (lv' := [(5, .int 0), (0, .ref (g 0)), (1, .int k), (2, .int v), (3, .int o), (4, .int w9)]) hx hb dX5_reading_27 hl (by decide) rfl (fun ls hl => ?_)
        refine lv_aload_n hx hb dX5_reading_29 rfl (lv_at hl 1 rfl) ?_
        refine lv_iload hx hb dX5_reading_30 (lv_at hl 0 rfl) ?_
        refine lv_if_ne (tgt := 39) hx hb dX5_reading_32 (by decide) (fun c_32 => absurd (by decide) c_32) (fun _ => ?_)
        refine lv_iconst (v := 1) hx hb dX5_reading_35 (by decide) ?_
        refine lv_goto (tgt := 54) hx hb dX5_reading_36 (by decide) ?_
        refine zw_calli (wr := [((g 1), .inl (y 0, 4023, .inl S))]) (w1 := (fun _ : Unit => [((g 0), .inr (5, [.int 1, .ref (g 1), .int (nI sv), .ref (g 2), .ref (g 3), .int (nI ln), .int (nI at9), .int (nI pl), .int va, .long hs]))])) hP hD hS hA [0] [1] rfl rfl (by decide +kernel) (by decide +kernel) (va_runV (As := [.int 1]) (rest := []) ⟨hx, hb, hml, hown, hts⟩ (mX5_holds l D y _ g th sv ln at9 pl va hs 1) (cwV 1 hts (zgV tw_431 tw_432 tw_433 tw_369 tw_365) rfl rfl rfl (by decide +kernel) ⟨Nat.le_of_ble_eq_true rfl, Nat.le_of_ble_eq_true rfl⟩) (zRW_preV hKN hP hD (ci := 5) (q0 := 0) rfl rfl [0] rfl (by decide)) rfl rfl hl.1 rfl (lv_room (Nat.le_of_ble_eq_true rfl)) dX5_reading_54 ⟨Nat.zero_le _, Nat.zero_le _⟩) (fun r_8 u_9 H locs hw_54 hP hD hS => ?_)
        have hP : va_P D vwCl [((g 1), .inl (y 0, 4023, .inl S)), ((g 0), .inr (5, [.int 1, .ref (g 1), .int (nI sv), .ref (g 2), .ref (g 3), .int (nI ln), .int (nI at9), .int (nI pl), .int va, .long hs]))] H := hP
        have hD : va_D A [((g 1), .inl (y 0, 4023, .inl S)), ((g 0), .inr (5, [.int 1, .ref (g 1), .int (nI sv), .ref (g 2), .ref (g 3), .int (nI ln), .int (nI at9), .int (nI pl), .int va, .long hs]))] := hD
        obtain rfl : r_8 = 0 := hw_54
        refine lv_if_eq (tgt := 72) hx hb dX5_reading_57 (by decide) (fun _ => ?_) (fun c_57 => absurd (by decide) c_57)
        refine lv_iconst (v := 0) hx hb dX5_reading_72 (by decide) ?_
        have hP := hP.sub (ws' := [((g 0), .inr (5, [.int 1, .ref (g 1), .int (nI sv), .ref (g 2), .ref (g 3), .int (nI ln), .int (nI at9), .int (nI pl), .int va, .long hs])), ((g 1), .inl (y 0, 4023, .inl S))]) [1, 0] rfl
        have hD := hD.sub (ws' := [((g 0), .inr (5, [.int 1, .ref (g 1), .int (nI sv), .ref (g 2), .ref (g 3), .int (nI ln), .int (nI at9), .int (nI pl), .int va, .long hs])), ((g 1), .inl (y 0, 4023, .inl S))]) [1, 0] (by decide) rfl
        refine W.widen (k := 0) (n := 0) (by first | exact Nat.le_of_ble_eq_true rfl | omega) (by first | exact Nat.le_of_ble_eq_true rfl | omega) ?_
        exact W.iret (v := 0) hx hb hr (fun t ht hW => ⟨⟨0, (), rfl, by first | rfl | trivial | simp_all, ⟨by rw [ht]; exact hP, hD⟩⟩, hS.F ht⟩) hS.2.2 dX5_reading_73
      · replace c_19 := zb1.mp c_19
        exact absurd ⟨c_5, c_12, c_19⟩ hb1

set_option maxHeartbeats 4000000 in
set_option maxRecDepth 100000 in
theorem mX5_reading_b2 (l : Launch) (D : va_G) (y : Nat → ClassId) (sz : Nat) (g : Nat → Nat) (S : (Nat → Int32)) (th : Int32) (sv : Nat) (ln : Nat) (at9 : Nat) (pl : Nat) (va : Int32) (hs : Int64) (k : Int32) (v : Int32) (o : Int32) (w9 : Int32) (h1 : (¬ k < 0 ∧ ¬ (S 1 - 1) < k) ∧ (¬ v < 0 ∧ ¬ 15 < v) ∧ (¬ o < 0 ∧ ¬ 1 < o)) (hb1 : ¬ (¬ w9 < 0 ∧ ¬ 5 < w9)) : Met l yX5_reading (ws_ yX5_reading cX5_reading 6 (some .int)) ({ frames := 2, cells := 0, slots := 0, locals := 43 }) (va_Pc [.ref (g 0), .int k, .int v, .int o, .int w9] (zRW D y [((g 0), .inr (5, [.int th, .ref (g 1), .int (nI sv), .ref (g 2), .ref (g 3), .int (nI ln), .int (nI at9), .int (nI pl), .int va, .long hs])), ((g 1), .inl (y 0, 4023, .inl S))] sz)) (va_Qi (fun (r : Int32) (_ : Unit) => r = 0) (fun (_ : Unit) t => zOut D (va_A [((g 0), .inr (5, [.int th, .ref (g 1), .int (nI sv), .ref (g 2), .ref (g 3), .int (nI ln), .int (nI at9), .int (nI pl), .int va, .long hs])), ((g 1), .inl (y 0, 4023, .inl S))] sz) [((g 0), .inr (5, [.int 2, .ref (g 1), .int (nI sv), .ref (g 2), .ref (g 3), .int (nI ln), .int (nI at9), .int (nI pl), .int va, .long hs])), ((g 1), .inl (y 0, 4023, .inl S))] t) (va_A [((g 0), .inr (5, [.int th, .ref (g 1), .int (nI sv), .ref (g 2), .ref (g 3), .int (nI ln), .int (nI at9), .int (nI pl), .int va, .long hs])), ((g 1), .inl (y 0, 4023, .inl S))] sz)) 0 0 (va_A [((g 0), .inr (5, [.int th, .ref (g 1), .int (nI sv), .ref (g 2), .ref (g 3), .int (nI ln), .int (nI at9), .int (nI pl), .int va, .long hs])), ((g 1), .inl (y 0, 4023, .inl S))] sz) := by
  refine Met.ofW (cc := cX5_reading) (maxL := 6) (ret := (some .int)) (by decide) rfl ?_
  intro p e s m args below meth c s₁ B hml hpre9
  obtain ⟨rfl, hsz, hP, hKN, hD0⟩ := hpre9
  have hK := hKN.1
  have hx := B.exec
  have hb := B.bytes
  have hr := B.returns
  have hts := atoms_spec (ws := (ws_ yX5_reading cX5_reading 6 (some .int))) B.pre
  have htg : ∀ w ∈ gT, w.before _ s = true := fun w h => hts w (List.mem_cons_of_mem _ h)
  have hown : s.vm.findClass RX5 = some m.cls := findClass_of_methodNamed B.named
  have hlocks := B.notSynchronized
  subst hsz
  have hD := hD0.self (sz := s.heap.size)
  clear hD0
  generalize hAe : va_A [((g 0), .inr (5, [.int th, .ref (g 1), .int (nI sv), .ref (g 2), .ref (g 3), .int (nI ln), .int (nI at9), .int (nI pl), .int va, .long hs])), ((g 1), .inl (y 0, 4023, .inl S))] s.heap.size = A at hD ⊢
  have hA : ∀ q : Nat, s.heap.size ≤ q → A q := fun q h => by rw [← hAe]; exact Or.inr h
  have hS : va_S A s.heap s.heap [] := va_S.rf
  have hP : va_P D vwCl [((g 0), .inr (5, [.int th, .ref (g 1), .int (nI sv), .ref (g 2), .ref (g 3), .int (nI ln), .int (nI at9), .int (nI pl), .int va, .long hs])), ((g 1), .inl (y 0, 4023, .inl S))] s.heap := hP
  have hl := lv_entry ([.ref (g 0), .int k, .int v, .int o, .int w9]) (n := 6) (Nat.le_of_ble_eq_true rfl)
  rw [lg_entry_eq]
  generalize (lg_sl ([.ref (g 0), .int k, .int v, .int o, .int w9]) ++ List.replicate (6 - (lg_sl ([.ref (g 0), .int k, .int v, .int o, .int w9])).length) Slot.unset).toArray = ls at hl ⊢
  have hl : lv_has ls 6 [(0, .ref (g 0)), (1, .int k), (2, .int v), (3, .int o), (4, .int w9)] := hl
  refine lv_aload_n hx hb dX5_reading_0 rfl (lv_at hl 0 rfl) ?_
  refine lv_iload_n hx hb dX5_reading_1 rfl (lv_at hl 1 rfl) ?_
  refine zr_calli (va_runV (As := [.int k]) (rest := []) ⟨hx, hb, hml, hown, hts⟩ (mX5_isSurvey l D y g S th sv ln at9 pl va hs k) (cwV 1 hts (zgV tw_486 tw_487 tw_488 tw_369 tw_371) rfl rfl rfl (by decide +kernel) ⟨Nat.le_of_ble_eq_true rfl, Nat.le_of_ble_eq_true rfl⟩) (zRO_preV hKN hP (ci := 5) (q0 := 0) rfl rfl [0, 1] rfl) rfl rfl hl.1 rfl (lv_room (Nat.le_of_ble_eq_true rfl)) dX5_reading_2 ⟨Nat.zero_le _, Nat.zero_le _⟩) hS (fun r_1 H locs hw_2 hT hS => ?_)
  replace hP := hT _ _ hP
  obtain rfl : r_1 = (if ¬ k < 0 ∧ ¬ (S 1 - 1) < k then (1 : Int32) else 0) := hw_2
  refine lv_if_eq (tgt := 26) hx hb dX5_reading_5 (by decide) (fun c_5 => absurd c_5 (zb1.mpr h1.1)) (fun _ => ?_)
  refine lv_iload_n hx hb dX5_reading_8 rfl (lv_at hl 2 rfl) ?_
  refine zr_calli (va_runS (As := [.int v]) (rest := []) ⟨hx, hb, hml, hown, hts⟩ (mX5_isLevel l v) (va_cwS 1 hts (zgS tw_427 tw_428 tw_369 tw_366) rfl rfl rfl (by decide +kernel) ⟨Nat.le_of_ble_eq_true rfl, Nat.le_of_ble_eq_true rfl⟩) zP_pre rfl rfl hl.1 rfl (lv_room (Nat.le_of_ble_eq_true rfl)) dX5_reading_9 ⟨Nat.zero_le _, Nat.zero_le _⟩) hS (fun r_2 H locs hw_9 hT hS => ?_)
  replace hP := hT _ _ hP
  obtain rfl : r_2 = (if ¬ v < 0 ∧ ¬ 15 < v then (1 : Int32) else 0) := hw_9
  refine lv_if_eq (tgt := 26) hx hb dX5_reading_12 (by decide) (fun c_12 => absurd c_12 (zb1.mpr h1.2.1)) (fun _ => ?_)
  refine lv_iload_n hx hb dX5_reading_15 rfl (lv_at hl 3 rfl) ?_
  refine zr_calli (va_runS (As := [.int o]) (rest := []) ⟨hx, hb, hml, hown, hts⟩ (mX5_isSide l o) (va_cwS 1 hts (zgS tw_429 tw_430 tw_369 tw_370) rfl rfl rfl (by decide +kernel) ⟨Nat.le_of_ble_eq_true rfl, Nat.le_of_ble_eq_true rfl⟩) zP_pre rfl rfl hl.1 rfl (lv_room (Nat.le_of_ble_eq_true rfl)) dX5_reading_16 ⟨Nat.zero_le _, Nat.zero_le _⟩) hS (fun r_3 H locs hw_16 hT hS => ?_)
  replace hP := hT _ _ hP
  obtain rfl : r_3 = (if ¬ o < 0 ∧ ¬ 1 < o then (1 : Int32) else 0) := hw_16
  refine lv_if_eq (tgt := 26) hx hb dX5_reading_19 (by decide) (fun c_19 => absurd c_19 (zb1.mpr h1.2.2)) (fun _ => ?_)
  refine lv_iconst (v := 1) hx hb dX5_reading_22 (by decide) ?_
  refine lv_goto (tgt := 27) hx hb dX5_reading_23 (by decide) ?_
  refine lv_istore (lv' := [(5, .int 1), (0, .ref (g 0)), (1, .int k), (2, .int v), (3, .int o), (4, .int w9)]) hx hb dX5_reading_27 hl (by decide) rfl (fun ls hl => ?_)
  refine lv_aload_n hx hb dX5_reading_29 rfl (lv_at hl 1 rfl) ?_
  refine lv_iload hx hb dX5_reading_30 (lv_at hl 0 rfl) ?_
  refine lv_if_ne (tgt := 39) hx hb dX5_reading_32 (by decide) (fun _ => ?_) (fun c_32 => absurd c_32 (by decide))
  refine lv_iload hx hb dX5_reading_39 (lv_at hl 5 rfl) ?_
  refine lv_iconst (v := 0) hx hb dX5_reading_41 (by decide) ?_
  refine lv_iconst (v := 5) hx hb dX5_reading_42 (by decide) ?_
  refine zr_calli (va_runS (As := [.int w9, .int 0, .int 5]) (rest := [.ref (g 0)]) ⟨hx, hb, hml, hown, hts⟩ (mX5_in l w9 0 5) (va_cwS 3 hts (zgS tw_367 tw_368 tw_369 tw_364) rfl rfl rfl (by decide +kernel) ⟨Nat.le_of_ble_eq_true rfl, Nat.le_of_ble_eq_true rfl⟩) zP_pre rfl rfl hl.1 rfl (lv_room (Nat.le_of_ble_eq_true rfl)) dX5_reading_43 ⟨Nat.zero_le _, Nat.zero_le _⟩) hS (fun r_4 H locs hw_43 hT hS => ?_)
  replace hP := hT _ _ hP
  obtain rfl : r_4 = (if ¬ w9 < 0 ∧ ¬ 5 < w9 then (1 : Int32) else 0) := hw_43
  refine lv_if_ne (tgt := 53) hx hb dX5_reading_46 (by decide) (fun c_46 => absurd (zb0.mpr hb1) c_46) (fun _ => ?_)
  refine lv_iconst (v := 2) hx hb dX5_reading_49 (by decide) ?_
  refine lv_goto (tgt := 54) hx hb dX5_reading_50 (by decide) ?_
  refine zw_calli (wr := [((g 1), .inl (y 0, 4023, .inl S))]) (w1 := (fun _ : Unit => [((g 0), .inr (5, [.int 2, .ref (g 1), .int (nI sv), .ref (g 2), .ref (g 3), .int (nI ln), .int (nI at9), .int (nI pl), .int va, .long hs]))])) hP hD hS hA [0] [1] rfl rfl (by decide +kernel) (by decide +kernel) (va_runV (As := [.int 2]) (rest := []) ⟨hx, hb, hml, hown, hts⟩ (mX5_holds l D y _ g th sv ln at9 pl va hs 2) (cwV 1 hts (zgV tw_431 tw_432 tw_433 tw_369 tw_365) rfl rfl rfl (by decide +kernel) ⟨Nat.le_of_ble_eq_true rfl, Nat.le_of_ble_eq_true rfl⟩) (zRW_preV hKN hP hD (ci := 5) (q0 := 0) rfl rfl [0] rfl (by decide)) rfl rfl hl.1 rfl (lv_room (Nat.le_of_ble_eq_true rfl)) dX5_reading_54 ⟨Nat.zero_le _, Nat.zero_le _⟩) (fun r_5 u_6 H locs hw_54 hP hD hS => ?_)
  have hP : va_P D vwCl [((g 1), .inl (y 0, 4023, .inl S)), ((g 0), .inr (5, [.int 2, .ref (g 1), .int (nI sv), .ref (g 2), .ref (g 3), .int (nI ln), .int (nI at9), .int (nI pl), .int va, .long hs]))] H := hP
  have hD : va_D A [((g 1), .inl (y 0, 4023, .inl S)), ((g 0), .inr (5, [.int 2, .ref (g 1), .int (nI sv), .ref (g 2), .ref (g 3), .int (nI ln), .int (nI at9), .int (nI pl), .int va, .long hs]))] := hD
  obtain rfl : r_5 = 0 := hw_54
  refine lv_if_eq (tgt := 72) hx hb dX5_reading_57 (by decide) (fun _ => ?_) (fun c_57 => absurd (by decide) c_57)
  refine lv_iconst (v := 0) hx hb dX5_reading_72 (by decide) ?_
  have hP := hP.sub (ws' := [((g 0), .inr (5, [.int 2, .ref (g 1), .int (nI sv), .ref (g 2), .ref (g 3), .int (nI ln), .int (nI at9), .int (nI pl), .int va, .long hs])), ((g 1), .inl (y 0, 4023, .inl S))]) [1, 0] rfl
  have hD := hD.sub (ws' := [((g 0), .inr (5, [.int 2, .ref (g 1), .int (nI sv), .ref (g 2), .ref (g 3), .int (nI ln), .int (nI at9), .int (nI pl), .int va, .long hs])), ((g 1), .inl (y 0, 4023, .inl S))]) [1, 0] (by decide) rfl
  refine W.widen (k := 0) (n := 0) (by first | exact Nat.le_of_ble_eq_true rfl | omega) (by first | exact Nat.le_of_ble_eq_true rfl | omega) ?_
  exact W.iret (v := 0) hx hb hr (fun t ht hW => ⟨⟨0, (), rfl, by first | rfl | trivial | simp_all, ⟨by rw [ht]; exact hP, hD⟩⟩, hS.F ht⟩) hS.2.2 dX5_reading_73

set_option maxHeartbeats 4000000 in
set_option maxRecDepth 100000 in
theorem mX5_surveyOf (l : Launch) (D : va_G) (y : Nat → ClassId) (sz : Nat) (g : Nat → Nat) (S : (Nat → Int32)) (th : Int32) (sv : Nat) (ln : Nat) (at9 : Nat) (pl : Nat) (va : Int32) (hs : Int64) (n : Nat) (k : Nat) (w9 : Nat) (hS1 : S 1 = nI n) (hn6 : n ≤ 6) (hk0 : k < n) (hw9 : w9 < 5) : Met l yX5_surveyOf (ws_ yX5_surveyOf cX5_surveyOf 3 (some .int)) ({ frames := 7, cells := 0, slots := 0, locals := 165 }) (va_Pc [.ref (g 0), .int (nI k), .int (nI w9)] (zRW D y [((g 0), .inr (5, [.int th, .ref (g 1), .int (nI sv), .ref (g 2), .ref (g 3), .int (nI ln), .int (nI at9), .int (nI pl), .int va, .long hs])), ((g 1), .inl (y 0, 4023, .inl S))] sz)) (va_Qi (fun (r : Int32) (_ : Unit) => r = qOfS S k w9) (fun (_ : Unit) t => zOut D (va_A [((g 0), .inr (5, [.int th, .ref (g 1), .int (nI sv), .ref (g 2), .ref (g 3), .int (nI ln), .int (nI at9), .int (nI pl), .int va, .long hs])), ((g 1), .inl (y 0, 4023, .inl S))] sz) [((g 0), .inr (5, [.int 0, .ref (g 1), .int (nI sv), .ref (g 2), .ref (g 3), .int (nI ln), .int (nI at9), .int (nI pl), .int va, .long hs])), ((g 1), .inl (y 0, 4023, .inl S))] t) (va_A [((g 0), .inr (5, [.int th, .ref (g 1), .int (nI sv), .ref (g 2), .ref (g 3), .int (nI ln), .int (nI at9), .int (nI pl), .int va, .long hs])), ((g 1), .inl (y 0, 4023, .inl S))] sz)) 0 0 (va_A [((g 0), .inr (5, [.int th, .ref (g 1), .int (nI sv), .ref (g 2), .ref (g 3), .int (nI ln), .int (nI at9), .int (nI pl), .int va, .long hs])), ((g 1), .inl (y 0, 4023, .inl S))] sz) := by
  refine Met.ofW (cc := cX5_surveyOf) (maxL := 3) (ret := (some .int)) (by decide) rfl ?_
  intro p e s m args below meth c s₁ B hml hpre9
  obtain ⟨rfl, hsz, hP, hKN, hD0⟩ := hpre9
  have hK := hKN.1
  have hx := B.exec
  have hb := B.bytes
  have hr := B.returns
  have hts := atoms_spec (ws := (ws_ yX5_surveyOf cX5_surveyOf 3 (some .int))) B.pre
  have htg : ∀ w ∈ gT, w.before _ s = true := fun w h => hts w (List.mem_cons_of_mem _ h)
  have hown : s.vm.findClass RX5 = some m.cls := findClass_of_methodNamed B.named
  have hlocks := B.notSynchronized
  subst hsz
  have hD := hD0.self (sz := s.heap.size)
  clear hD0
  generalize hAe : va_A [((g 0), .inr (5, [.int th, .ref (g 1), .int (nI sv), .ref (g 2), .ref (g 3), .int (nI ln), .int (nI at9), .int (nI pl), .int va, .long hs])), ((g 1), .inl (y 0, 4023, .inl S))] s.heap.size = A at hD ⊢
  have hA : ∀ q : Nat, s.heap.size ≤ q → A q := fun q h => by rw [← hAe]; exact Or.inr h
  have hS : va_S A s.heap s.heap [] := va_S.rf
  have hP : va_P D vwCl [((g 0), .inr (5, [.int th, .ref (g 1), .int (nI sv), .ref (g 2), .ref (g 3), .int (nI ln), .int (nI at9), .int (nI pl), .int va, .long hs])), ((g 1), .inl (y 0, 4023, .inl S))] s.heap := hP
  have hl := lv_entry ([.ref (g 0), .int (nI k), .int (nI w9)]) (n := 3) (Nat.le_of_ble_eq_true rfl)
  rw [lg_entry_eq]
  generalize (lg_sl ([.ref (g 0), .int (nI k), .int (nI w9)]) ++ List.replicate (3 - (lg_sl ([.ref (g 0), .int (nI k), .int (nI w9)])).length) Slot.unset).toArray = ls at hl ⊢
  have hl : lv_has ls 3 [(0, .ref (g 0)), (1, .int (nI k)), (2, .int (nI w9))] := hl
  refine lv_aload_n hx hb dX5_surveyOf_0 rfl (lv_at hl 0 rfl) ?_
  refine lv_aload_n hx hb dX5_surveyOf_1 rfl (lv_at hl 0 rfl) ?_
  refine lv_iload_n hx hb dX5_surveyOf_2 rfl (lv_at hl 1 rfl) ?_
  refine zr_calli (va_runV (As := [.int (nI k)]) (rest := [.ref (g 0)]) ⟨hx, hb, hml, hown, hts⟩ (mX5_isSurvey l D y g S th sv ln at9 pl va hs (nI k)) (cwV 1 hts (zgV tw_486 tw_487 tw_488 tw_369 tw_371) rfl rfl rfl (by decide +kernel) ⟨Nat.le_of_ble_eq_true rfl, Nat.le_of_ble_eq_true rfl⟩) (zRO_preV hKN hP (ci := 5) (q0 := 0) rfl rfl [0, 1] rfl) rfl rfl hl.1 rfl (lv_room (Nat.le_of_ble_eq_true rfl)) dX5_surveyOf_3 ⟨Nat.zero_le _, Nat.zero_le _⟩) hS (fun r_1 H locs hw_3 hT hS => ?_)
  replace hP := hT _ _ hP
  obtain rfl : r_1 = (if ¬ (nI k) < 0 ∧ ¬ (S 1 - 1) < (nI k) then (1 : Int32) else 0) := hw_3
  refine lv_if_ne (tgt := 13) hx hb dX5_surveyOf_6 (by decide) (fun _ => ?_) (fun c_6 => absurd c_6 (zb1.mpr ⟨nI_pos (n := k) (by omega), zsu hS1 (by omega) hn6⟩))
  refine lv_iload_n hx hb dX5_surveyOf_13 rfl (lv_at hl 2 rfl) ?_
  refine lv_iconst (v := 0) hx hb dX5_surveyOf_14 (by decide) ?_
  refine lv_iconst (v := 4) hx hb dX5_surveyOf_15 (by decide) ?_
  refine zr_calli (va_runS (As := [.int (nI w9), .int 0, .int 4]) (rest := [.ref (g 0)]) ⟨hx, hb, hml, hown, hts⟩ (mX5_in l (nI w9) 0 4) (va_cwS 3 hts (zgS tw_367 tw_368 tw_369 tw_364) rfl rfl rfl (by decide +kernel) ⟨Nat.le_of_ble_eq_true rfl, Nat.le_of_ble_eq_true rfl⟩) zP_pre rfl rfl hl.1 rfl (lv_room (Nat.le_of_ble_eq_true rfl)) dX5_surveyOf_16 ⟨Nat.zero_le _, Nat.zero_le _⟩) hS (fun r_2 H locs hw_16 hT hS => ?_)
  replace hP := hT _ _ hP
  obtain rfl : r_2 = (if ¬ (nI w9) < 0 ∧ ¬ 4 < (nI w9) then (1 : Int32) else 0) := hw_16
  refine lv_if_ne (tgt := 26) hx hb dX5_surveyOf_19 (by decide) (fun _ => ?_) (fun c_19 => absurd c_19 (zb1.mpr ⟨nI_pos (n := w9) (by omega), nI_nlt (a := 4) (b := w9) (by omega) (by omega)⟩))
  refine lv_iconst (v := 0) hx hb dX5_surveyOf_26 (by decide) ?_
  refine zw_calli (wr := [((g 1), .inl (y 0, 4023, .inl S))]) (w1 := (fun _ : Unit => [((g 0), .inr (5, [.int 0, .ref (g 1), .int (nI sv), .ref (g 2), .ref (g 3), .int (nI ln), .int (nI at9), .int (nI pl), .int va, .long hs]))])) hP hD hS hA [0] [1] rfl rfl (by decide +kernel) (by decide +kernel) (va_runV (As := [.int 0]) (rest := []) ⟨hx, hb, hml, hown, hts⟩ (mX5_holds l D y _ g th sv ln at9 pl va hs 0) (cwV 1 hts (zgV tw_431 tw_432 tw_433 tw_369 tw_365) rfl rfl rfl (by decide +kernel) ⟨Nat.le_of_ble_eq_true rfl, Nat.le_of_ble_eq_true rfl⟩) (zRW_preV hKN hP hD (ci := 5) (q0 := 0) rfl rfl [0] rfl (by decide)) rfl rfl hl.1 rfl (lv_room (Nat.le_of_ble_eq_true rfl)) dX5_surveyOf_27 ⟨Nat.zero_le _, Nat.zero_le _⟩) (fun r_3 u_4 H locs hw_27 hP hD hS => ?_)
  have hP : va_P D vwCl [((g 1), .inl (y 0, 4023, .inl S)), ((g 0), .inr (5, [.int 0, .ref (g 1), .int (nI sv), .ref (g 2), .ref (g 3), .int (nI ln), .int (nI at9), .int (nI pl), .int va, .long hs]))] H := hP
  have hD : va_D A [((g 1), .inl (y 0, 4023, .inl S)), ((g 0), .inr (5, [.int 0, .ref (g 1), .int (nI sv), .ref (g 2), .ref (g 3), .int (nI ln), .int (nI at9), .int (nI pl), .int va, .long hs]))] := hD
  obtain rfl : r_3 = 1 := hw_27
  refine lv_if_eq (tgt := 42) hx hb dX5_surveyOf_30 (by decide) (fun c_30 => absurd c_30 (by decide)) (fun _ => ?_)
  refine lv_aload_n hx hb dX5_surveyOf_33 rfl (lv_at hl 0 rfl) ?_
  refine lv_iload_n hx hb dX5_surveyOf_34 rfl (lv_at hl 1 rfl) ?_
  refine lv_iload_n hx hb dX5_surveyOf_35 rfl (lv_at hl 2 rfl) ?_
  refine zr_calli (va_runV (As := [.int (nI k), .int (nI w9)]) (rest := []) ⟨hx, hb, hml, hown, hts⟩ (mX5_ofSurvey l D y g S 0 sv ln at9 pl va hs k w9 (by first | assumption | rfl | omega | decide) (by first | assumption | rfl | omega | decide)) (cwV 2 hts (zgV tw_502 tw_503 tw_504 tw_369 tw_494) rfl rfl rfl (by decide +kernel) ⟨Nat.le_of_ble_eq_true rfl, Nat.le_of_ble_eq_true rfl⟩) (zRO_preV hKN hP (ci := 5) (q0 := 1) rfl rfl [1, 0] rfl) rfl rfl hl.1 rfl (lv_room (Nat.le_of_ble_eq_true rfl)) dX5_surveyOf_36 ⟨Nat.zero_le _, Nat.zero_le _⟩) hS (fun r_5 H locs hw_36 hT hS => ?_)
  replace hP := hT _ _ hP
  obtain rfl : r_5 = qOfS S k w9 := hw_36
  refine lv_goto (tgt := 43) hx hb dX5_surveyOf_39 (by decide) ?_
  have hP := hP.sub (ws' := [((g 0), .inr (5, [.int 0, .ref (g 1), .int (nI sv), .ref (g 2), .ref (g 3), .int (nI ln), .int (nI at9), .int (nI pl), .int va, .long hs])), ((g 1), .inl (y 0, 4023, .inl S))]) [1, 0] rfl
  have hD := hD.sub (ws' := [((g 0), .inr (5, [.int 0, .ref (g 1), .int (nI sv), .ref (g 2), .ref (g 3), .int (nI ln), .int (nI at9), .int (nI pl), .int va, .long hs])), ((g 1), .inl (y 0, 4023, .inl S))]) [1, 0] (by decide) rfl
  refine W.widen (k := 0) (n := 0) (by first | exact Nat.le_of_ble_eq_true rfl | omega) (by first | exact Nat.le_of_ble_eq_true rfl | omega) ?_
  exact W.iret (v := (qOfS S k w9)) hx hb hr (fun t ht hW => ⟨⟨qOfS S k w9, (), rfl, by first | rfl | trivial | simp_all, ⟨by rw [ht]; exact hP, hD⟩⟩, hS.F ht⟩) hS.2.2 dX5_surveyOf_43

set_option maxHeartbeats 4000000 in
set_option maxRecDepth 100000 in
theorem mX5_surveyOf_b1 (l : Launch) (D : va_G) (y : Nat → ClassId) (sz : Nat) (g : Nat → Nat) (S : (Nat → Int32)) (th : Int32) (sv : Nat) (ln : Nat) (at9 : Nat) (pl : Nat) (va : Int32) (hs : Int64) (k : Int32) (w9 : Int32) (hb1 : ¬ (¬ k < 0 ∧ ¬ (S 1 - 1) < k)) : Met l yX5_surveyOf (ws_ yX5_surveyOf cX5_surveyOf 3 (some .int)) ({ frames := 2, cells := 0, slots := 0, locals := 43 }) (va_Pc [.ref (g 0), .int k, .int w9] (zRW D y [((g 0), .inr (5, [.int th, .ref (g 1), .int (nI sv), .ref (g 2), .ref (g 3), .int (nI ln), .int (nI at9), .int (nI pl), .int va, .long hs])), ((g 1), .inl (y 0, 4023, .inl S))] sz)) (va_Qi (fun (r : Int32) (_ : Unit) => r = 0) (fun (_ : Unit) t => zOut D (va_A [((g 0), .inr (5, [.int th, .ref (g 1), .int (nI sv), .ref (g 2), .ref (g 3), .int (nI ln), .int (nI at9), .int (nI pl), .int va, .long hs])), ((g 1), .inl (y 0, 4023, .inl S))] sz) [((g 0), .inr (5, [.int 1, .ref (g 1), .int (nI sv), .ref (g 2), .ref (g 3), .int (nI ln), .int (nI at9), .int (nI pl), .int va, .long hs])), ((g 1), .inl (y 0, 4023, .inl S))] t) (va_A [((g 0), .inr (5, [.int th, .ref (g 1), .int (nI sv), .ref (g 2), .ref (g 3), .int (nI ln), .int (nI at9), .int (nI pl), .int va, .long hs])), ((g 1), .inl (y 0, 4023, .inl S))] sz)) 0 0 (va_A [((g 0), .inr (5, [.int th, .ref (g 1), .int (nI sv), .ref (g 2), .ref (g 3), .int (nI ln), .int (nI at9), .int (nI pl), .int va, .long hs])), ((g 1), .inl (y 0, 4023, .inl S))] sz) := by
  refine Met.ofW (cc := cX5_surveyOf) (maxL := 3) (ret := (some .int)) (by decide) rfl ?_
  intro p e s m args below meth c s₁ B hml hpre9
  obtain ⟨rfl, hsz, hP, hKN, hD0⟩ := hpre9
  have hK := hKN.1
  have hx := B.exec
  have hb := B.bytes
  have hr := B.returns
  have hts := atoms_spec (ws := (ws_ yX5_surveyOf cX5_surveyOf 3 (some .int))) B.pre
  have htg : ∀ w ∈ gT, w.before _ s = true := fun w h => hts w (List.mem_cons_of_mem _ h)
  have hown : s.vm.findClass RX5 = some m.cls := findClass_of_methodNamed B.named
  have hlocks := B.notSynchronized
  subst hsz
  have hD := hD0.self (sz := s.heap.size)
  clear hD0
  generalize hAe : va_A [((g 0), .inr (5, [.int th, .ref (g 1), .int (nI sv), .ref (g 2), .ref (g 3), .int (nI ln), .int (nI at9), .int (nI pl), .int va, .long hs])), ((g 1), .inl (y 0, 4023, .inl S))] s.heap.size = A at hD ⊢
  have hA : ∀ q : Nat, s.heap.size ≤ q → A q := fun q h => by rw [← hAe]; exact Or.inr h
  have hS : va_S A s.heap s.heap [] := va_S.rf
  have hP : va_P D vwCl [((g 0), .inr (5, [.int th, .ref (g 1), .int (nI sv), .ref (g 2), .ref (g 3), .int (nI ln), .int (nI at9), .int (nI pl), .int va, .long hs])), ((g 1), .inl (y 0, 4023, .inl S))] s.heap := hP
  have hl := lv_entry ([.ref (g 0), .int k, .int w9]) (n := 3) (Nat.le_of_ble_eq_true rfl)
  rw [lg_entry_eq]
  generalize (lg_sl ([.ref (g 0), .int k, .int w9]) ++ List.replicate (3 - (lg_sl ([.ref (g 0), .int k, .int w9])).length) Slot.unset).toArray = ls at hl ⊢
  have hl : lv_has ls 3 [(0, .ref (g 0)), (1, .int k), (2, .int w9)] := hl
  refine lv_aload_n hx hb dX5_surveyOf_0 rfl (lv_at hl 0 rfl) ?_
  refine lv_aload_n hx hb dX5_surveyOf_1 rfl (lv_at hl 0 rfl) ?_
  refine lv_iload_n hx hb dX5_surveyOf_2 rfl (lv_at hl 1 rfl) ?_
  refine zr_calli (va_runV (As := [.int k]) (rest := [.ref (g 0)]) ⟨hx, hb, hml, hown, hts⟩ (mX5_isSurvey l D y g S th sv ln at9 pl va hs k) (cwV 1 hts (zgV tw_486 tw_487 tw_488 tw_369 tw_371) rfl rfl rfl (by decide +kernel) ⟨Nat.le_of_ble_eq_true rfl, Nat.le_of_ble_eq_true rfl⟩) (zRO_preV hKN hP (ci := 5) (q0 := 0) rfl rfl [0, 1] rfl) rfl rfl hl.1 rfl (lv_room (Nat.le_of_ble_eq_true rfl)) dX5_surveyOf_3 ⟨Nat.zero_le _, Nat.zero_le _⟩) hS (fun r_1 H locs hw_3 hT hS => ?_)
  replace hP := hT _ _ hP
  obtain rfl : r_1 = (if ¬ k < 0 ∧ ¬ (S 1 - 1) < k then (1 : Int32) else 0) := hw_3
  refine lv_if_ne (tgt := 13) hx hb dX5_surveyOf_6 (by decide) (fun c_6 => absurd (zb0.mpr hb1) c_6) (fun _ => ?_)
  refine lv_iconst (v := 1) hx hb dX5_surveyOf_9 (by decide) ?_
  refine lv_goto (tgt := 27) hx hb dX5_surveyOf_10 (by decide) ?_
  refine zw_calli (wr := [((g 1), .inl (y 0, 4023, .inl S))]) (w1 := (fun _ : Unit => [((g 0), .inr (5, [.int 1, .ref (g 1), .int (nI sv), .ref (g 2), .ref (g 3), .int (nI ln), .int (nI at9), .int (nI pl), .int va, .long hs]))])) hP hD hS hA [0] [1] rfl rfl (by decide +kernel) (by decide +kernel) (va_runV (As := [.int 1]) (rest := []) ⟨hx, hb, hml, hown, hts⟩ (mX5_holds l D y _ g th sv ln at9 pl va hs 1) (cwV 1 hts (zgV tw_431 tw_432 tw_433 tw_369 tw_365) rfl rfl rfl (by decide +kernel) ⟨Nat.le_of_ble_eq_true rfl, Nat.le_of_ble_eq_true rfl⟩) (zRW_preV hKN hP hD (ci := 5) (q0 := 0) rfl rfl [0] rfl (by decide)) rfl rfl hl.1 rfl (lv_room (Nat.le_of_ble_eq_true rfl)) dX5_surveyOf_27 ⟨Nat.zero_le _, Nat.zero_le _⟩) (fun r_2 u_3 H locs hw_27 hP hD hS => ?_)
  have hP : va_P D vwCl [((g 1), .inl (y 0, 4023, .inl S)), ((g 0), .inr (5, [.int 1, .ref (g 1), .int (nI sv), .ref (g 2), .ref (g 3), .int (nI ln), .int (nI at9), .int (nI pl), .int va, .long hs]))] H := hP
  have hD : va_D A [((g 1), .inl (y 0, 4023, .inl S)), ((g 0), .inr (5, [.int 1, .ref (g 1), .int (nI sv), .ref (g 2), .ref (g 3), .int (nI ln), .int (nI at9), .int (nI pl), .int va, .long hs]))] := hD
  obtain rfl : r_2 = 0 := hw_27
  refine lv_if_eq (tgt := 42) hx hb dX5_surveyOf_30 (by decide) (fun _ => ?_) (fun c_30 => absurd (by decide) c_30)
  refine lv_iconst (v := 0) hx hb dX5_surveyOf_42 (by decide) ?_
  have hP := hP.sub (ws' := [((g 0), .inr (5, [.int 1, .ref (g 1), .int (nI sv), .ref (g 2), .ref (g 3), .int (nI ln), .int (nI at9), .int (nI pl), .int va, .long hs])), ((g 1), .inl (y 0, 4023, .inl S))]) [1, 0] rfl
  have hD := hD.sub (ws' := [((g 0), .inr (5, [.int 1, .ref (g 1), .int (nI sv), .ref (g 2), .ref (g 3), .int (nI ln), .int (nI at9), .int (nI pl), .int va, .long hs])), ((g 1), .inl (y 0, 4023, .inl S))]) [1, 0] (by decide) rfl
  refine W.widen (k := 0) (n := 0) (by first | exact Nat.le_of_ble_eq_true rfl | omega) (by first | exact Nat.le_of_ble_eq_true rfl | omega) ?_
  exact W.iret (v := 0) hx hb hr (fun t ht hW => ⟨⟨0, (), rfl, by first | rfl | trivial | simp_all, ⟨by rw [ht]; exact hP, hD⟩⟩, hS.F ht⟩) hS.2.2 dX5_surveyOf_43

set_option maxHeartbeats 4000000 in
set_option maxRecDepth 100000 in
theorem mX5_surveyOf_b2 (l : Launch) (D : va_G) (y : Nat → ClassId) (sz : Nat) (g : Nat → Nat) (S : (Nat → Int32)) (th : Int32) (sv : Nat) (ln : Nat) (at9 : Nat) (pl : Nat) (va : Int32) (hs : Int64) (k : Int32) (w9 : Int32) (h1 : ¬ k < 0 ∧ ¬ (S 1 - 1) < k) (hb1 : ¬ (¬ w9 < 0 ∧ ¬ 4 < w9)) : Met l yX5_surveyOf (ws_ yX5_surveyOf cX5_surveyOf 3 (some .int)) ({ frames := 2, cells := 0, slots := 0, locals := 43 }) (va_Pc [.ref (g 0), .int k, .int w9] (zRW D y [((g 0), .inr (5, [.int th, .ref (g 1), .int (nI sv), .ref (g 2), .ref (g 3), .int (nI ln), .int (nI at9), .int (nI pl), .int va, .long hs])), ((g 1), .inl (y 0, 4023, .inl S))] sz)) (va_Qi (fun (r : Int32) (_ : Unit) => r = 0) (fun (_ : Unit) t => zOut D (va_A [((g 0), .inr (5, [.int th, .ref (g 1), .int (nI sv), .ref (g 2), .ref (g 3), .int (nI ln), .int (nI at9), .int (nI pl), .int va, .long hs])), ((g 1), .inl (y 0, 4023, .inl S))] sz) [((g 0), .inr (5, [.int 2, .ref (g 1), .int (nI sv), .ref (g 2), .ref (g 3), .int (nI ln), .int (nI at9), .int (nI pl), .int va, .long hs])), ((g 1), .inl (y 0, 4023, .inl S))] t) (va_A [((g 0), .inr (5, [.int th, .ref (g 1), .int (nI sv), .ref (g 2), .ref (g 3), .int (nI ln), .int (nI at9), .int (nI pl), .int va, .long hs])), ((g 1), .inl (y 0, 4023, .inl S))] sz)) 0 0 (va_A [((g 0), .inr (5, [.int th, .ref (g 1), .int (nI sv), .ref (g 2), .ref (g 3), .int (nI ln), .int (nI at9), .int (nI pl), .int va, .long hs])), ((g 1), .inl (y 0, 4023, .inl S))] sz) := by
  refine Met.ofW (cc := cX5_surveyOf) (maxL := 3) (ret := (some .int)) (by decide) rfl ?_
  intro p e s m args below meth c s₁ B hml hpre9
  obtain ⟨rfl, hsz, hP, hKN, hD0⟩ := hpre9
  have hK := hKN.1
  have hx := B.exec
  have hb := B.bytes
  have hr := B.returns
  have hts := atoms_spec (ws := (ws_ yX5_surveyOf cX5_surveyOf 3 (some .int))) B.pre
  have htg : ∀ w ∈ gT, w.before _ s = true := fun w h => hts w (List.mem_cons_of_mem _ h)
  have hown : s.vm.findClass RX5 = some m.cls := findClass_of_methodNamed B.named
  have hlocks := B.notSynchronized
  subst hsz
  have hD := hD0.self (sz := s.heap.size)
  clear hD0
  generalize hAe : va_A [((g 0), .inr (5, [.int th, .ref (g 1), .int (nI sv), .ref (g 2), .ref (g 3), .int (nI ln), .int (nI at9), .int (nI pl), .int va, .long hs])), ((g 1), .inl (y 0, 4023, .inl S))] s.heap.size = A at hD ⊢
  have hA : ∀ q : Nat, s.heap.size ≤ q → A q := fun q h => by rw [← hAe]; exact Or.inr h
  have hS : va_S A s.heap s.heap [] := va_S.rf
  have hP : va_P D vwCl [((g 0), .inr (5, [.int th, .ref (g 1), .int (nI sv), .ref (g 2), .ref (g 3), .int (nI ln), .int (nI at9), .int (nI pl), .int va, .long hs])), ((g 1), .inl (y 0, 4023, .inl S))] s.heap := hP
  have hl := lv_entry ([.ref (g 0), .int k, .int w9]) (n := 3) (Nat.le_of_ble_eq_true rfl)
  rw [lg_entry_eq]
  generalize (lg_sl ([.ref (g 0), .int k, .int w9]) ++ List.replicate (3 - (lg_sl ([.ref (g 0), .int k, .int w9])).length) Slot.unset).toArray = ls at hl ⊢
  have hl : lv_has ls 3 [(0, .ref (g 0)), (1, .int k), (2, .int w9)] := hl
  refine lv_aload_n hx hb dX5_surveyOf_0 rfl (lv_at hl 0 rfl) ?_
  refine lv_aload_n hx hb dX5_surveyOf_1 rfl (lv_at hl 0 rfl) ?_
  refine lv_iload_n hx hb dX5_surveyOf_2 rfl (lv_at hl 1 rfl) ?_
  refine zr_calli (va_runV (As := [.int k]) (rest := [.ref (g 0)]) ⟨hx, hb, hml, hown, hts⟩ (mX5_isSurvey l D y g S th sv ln at9 pl va hs k) (cwV 1 hts (zgV tw_486 tw_487 tw_488 tw_369 tw_371) rfl rfl rfl (by decide +kernel) ⟨Nat.le_of_ble_eq_true rfl, Nat.le_of_ble_eq_true rfl⟩) (zRO_preV hKN hP (ci := 5) (q0 := 0) rfl rfl [0, 1] rfl) rfl rfl hl.1 rfl (lv_room (Nat.le_of_ble_eq_true rfl)) dX5_surveyOf_3 ⟨Nat.zero_le _, Nat.zero_le _⟩) hS (fun r_1 H locs hw_3 hT hS => ?_)
  replace hP := hT _ _ hP
  obtain rfl : r_1 = (if ¬ k < 0 ∧ ¬ (S 1 - 1) < k then (1 : Int32) else 0) := hw_3
  refine lv_if_ne (tgt := 13) hx hb dX5_surveyOf_6 (by decide) (fun _ => ?_) (fun c_6 => absurd c_6 (zb1.mpr h1))
  refine lv_iload_n hx hb dX5_surveyOf_13 rfl (lv_at hl 2 rfl) ?_
  refine lv_iconst (v := 0) hx hb dX5_surveyOf_14 (by decide) ?_
  refine lv_iconst (v := 4) hx hb dX5_surveyOf_15 (by decide) ?_
  refine zr_calli (va_runS (As := [.int w9, .int 0, .int 4]) (rest := [.ref (g 0)]) ⟨hx, hb, hml, hown, hts⟩ (mX5_in l w9 0 4) (va_cwS 3 hts (zgS tw_367 tw_368 tw_369 tw_364) rfl rfl rfl (by decide +kernel) ⟨Nat.le_of_ble_eq_true rfl, Nat.le_of_ble_eq_true rfl⟩) zP_pre rfl rfl hl.1 rfl (lv_room (Nat.le_of_ble_eq_true rfl)) dX5_surveyOf_16 ⟨Nat.zero_le _, Nat.zero_le _⟩) hS (fun r_2 H locs hw_16 hT hS => ?_)
  replace hP := hT _ _ hP
  obtain rfl : r_2 = (if ¬ w9 < 0 ∧ ¬ 4 < w9 then (1 : Int32) else 0) := hw_16
  refine lv_if_ne (tgt := 26) hx hb dX5_surveyOf_19 (by decide) (fun c_19 => absurd (zb0.mpr hb1) c_19) (fun _ => ?_)
  refine lv_iconst (v := 2) hx hb dX5_surveyOf_22 (by decide) ?_
  refine lv_goto (tgt := 27) hx hb dX5_surveyOf_23 (by decide) ?_
  refine zw_calli (wr := [((g 1), .inl (y 0, 4023, .inl S))]) (w1 := (fun _ : Unit => [((g 0), .inr (5, [.int 2, .ref (g 1), .int (nI sv), .ref (g 2), .ref (g 3), .int (nI ln), .int (nI at9), .int (nI pl), .int va, .long hs]))])) hP hD hS hA [0] [1] rfl rfl (by decide +kernel) (by decide +kernel) (va_runV (As := [.int 2]) (rest := []) ⟨hx, hb, hml, hown, hts⟩ (mX5_holds l D y _ g th sv ln at9 pl va hs 2) (cwV 1 hts (zgV tw_431 tw_432 tw_433 tw_369 tw_365) rfl rfl rfl (by decide +kernel) ⟨Nat.le_of_ble_eq_true rfl, Nat.le_of_ble_eq_true rfl⟩) (zRW_preV hKN hP hD (ci := 5) (q0 := 0) rfl rfl [0] rfl (by decide)) rfl rfl hl.1 rfl (lv_room (Nat.le_of_ble_eq_true rfl)) dX5_surveyOf_27 ⟨Nat.zero_le _, Nat.zero_le _⟩) (fun r_3 u_4 H locs hw_27 hP hD hS => ?_)
  have hP : va_P D vwCl [((g 1), .inl (y 0, 4023, .inl S)), ((g 0), .inr (5, [.int 2, .ref (g 1), .int (nI sv), .ref (g 2), .ref (g 3), .int (nI ln), .int (nI at9), .int (nI pl), .int va, .long hs]))] H := hP
  have hD : va_D A [((g 1), .inl (y 0, 4023, .inl S)), ((g 0), .inr (5, [.int 2, .ref (g 1), .int (nI sv), .ref (g 2), .ref (g 3), .int (nI ln), .int (nI at9), .int (nI pl), .int va, .long hs]))] := hD
  obtain rfl : r_3 = 0 := hw_27
  refine lv_if_eq (tgt := 42) hx hb dX5_surveyOf_30 (by decide) (fun _ => ?_) (fun c_30 => absurd (by decide) c_30)
  refine lv_iconst (v := 0) hx hb dX5_surveyOf_42 (by decide) ?_
  have hP := hP.sub (ws' := [((g 0), .inr (5, [.int 2, .ref (g 1), .int (nI sv), .ref (g 2), .ref (g 3), .int (nI ln), .int (nI at9), .int (nI pl), .int va, .long hs])), ((g 1), .inl (y 0, 4023, .inl S))]) [1, 0] rfl
  have hD := hD.sub (ws' := [((g 0), .inr (5, [.int 2, .ref (g 1), .int (nI sv), .ref (g 2), .ref (g 3), .int (nI ln), .int (nI at9), .int (nI pl), .int va, .long hs])), ((g 1), .inl (y 0, 4023, .inl S))]) [1, 0] (by decide) rfl
  refine W.widen (k := 0) (n := 0) (by first | exact Nat.le_of_ble_eq_true rfl | omega) (by first | exact Nat.le_of_ble_eq_true rfl | omega) ?_
  exact W.iret (v := 0) hx hb hr (fun t ht hW => ⟨⟨0, (), rfl, by first | rfl | trivial | simp_all, ⟨by rw [ht]; exact hP, hD⟩⟩, hS.F ht⟩) hS.2.2 dX5_surveyOf_43

set_option maxHeartbeats 4000000 in
set_option maxRecDepth 100000 in
theorem mX5_place (l : Launch) (D : va_G) (y : Nat → ClassId) (sz : Nat) (g : Nat → Nat) (S : (Nat → Int32)) (th : Int32) (sv : Nat) (ln : Nat) (at9 : Nat) (pl : Nat) (va : Int32) (hs : Int64) (n : Nat) (k : Nat) (v : Nat) (o : Nat) (w9 : Nat) (hS1 : S 1 = nI n) (hn6 : n ≤ 6) (hk0 : k < n) (hl9 : v < 16) (hq : o < 2) (hw9 : w9 < 2) (hTu : hTq S) : Met l yX5_place (ws_ yX5_place cX5_place 6 (some .int)) ({ frames := 8, cells := 0, slots := 0, locals := 200 }) (va_Pc [.ref (g 0), .int (nI k), .int (nI v), .int (nI o), .int (nI w9)] (zRW D y [((g 0), .inr (5, [.int th, .ref (g 1), .int (nI sv), .ref (g 2), .ref (g 3), .int (nI ln), .int (nI at9), .int (nI pl), .int va, .long hs])), ((g 1), .inl (y 0, 4023, .inl S))] sz)) (va_Qi (fun (r : Int32) (_ : Unit) => r = qPl S k o (v + 1)) (fun (_ : Unit) t => zOut D (va_A [((g 0), .inr (5, [.int th, .ref (g 1), .int (nI sv), .ref (g 2), .ref (g 3), .int (nI ln), .int (nI at9), .int (nI pl), .int va, .long hs])), ((g 1), .inl (y 0, 4023, .inl S))] sz) [((g 0), .inr (5, [.int 0, .ref (g 1), .int (nI sv), .ref (g 2), .ref (g 3), .int (nI ln), .int (nI at9), .int (nI pl), .int va, .long hs])), ((g 1), .inl (y 0, 4023, .inl S))] t) (va_A [((g 0), .inr (5, [.int th, .ref (g 1), .int (nI sv), .ref (g 2), .ref (g 3), .int (nI ln), .int (nI at9), .int (nI pl), .int va, .long hs])), ((g 1), .inl (y 0, 4023, .inl S))] sz)) 0 0 (va_A [((g 0), .inr (5, [.int th, .ref (g 1), .int (nI sv), .ref (g 2), .ref (g 3), .int (nI ln), .int (nI at9), .int (nI pl), .int va, .long hs])), ((g 1), .inl (y 0, 4023, .inl S))] sz) := by
  refine Met.ofW (cc := cX5_place) (maxL := 6) (ret := (some .int)) (by decide) rfl ?_
  intro p e s m args below meth c s₁ B hml hpre9
  obtain ⟨rfl, hsz, hP, hKN, hD0⟩ := hpre9
  have hK := hKN.1
  have hx := B.exec
  have hb := B.bytes
  have hr := B.returns
  have hts := atoms_spec (ws := (ws_ yX5_place cX5_place 6 (some .int))) B.pre
  have htg : ∀ w ∈ gT, w.before _ s = true := fun w h => hts w (List.mem_cons_of_mem _ h)
  have hown : s.vm.findClass RX5 = some m.cls := findClass_of_methodNamed B.named
  have hlocks := B.notSynchronized
  subst hsz
  have hD := hD0.self (sz := s.heap.size)
  clear hD0
  generalize hAe : va_A [((g 0), .inr (5, [.int th, .ref (g 1), .int (nI sv), .ref (g 2), .ref (g 3), .int (nI ln), .int (nI at9), .int (nI pl), .int va, .long hs])), ((g 1), .inl (y 0, 4023, .inl S))] s.heap.size = A at hD ⊢
  have hA : ∀ q : Nat, s.heap.size ≤ q → A q := fun q h => by rw [← hAe]; exact Or.inr h
  have hS : va_S A s.heap s.heap [] := va_S.rf
  have hP : va_P D vwCl [((g 0), .inr (5, [.int th, .ref (g 1), .int (nI sv), .ref (g 2), .ref (g 3), .int (nI ln), .int (nI at9), .int (nI pl), .int va, .long hs])), ((g 1), .inl (y 0, 4023, .inl S))] s.heap := hP
  have hl := lv_entry ([.ref (g 0), .int (nI k), .int (nI v), .int (nI o), .int (nI w9)]) (n := 6) (Nat.le_of_ble_eq_true rfl)
  rw [lg_entry_eq]
  generalize (lg_sl ([.ref (g 0), .int (nI k), .int (nI v), .int (nI o), .int (nI w9)]) ++ List.replicate (6 - (lg_sl ([.ref (g 0), .int (nI k), .int (nI v), .int (nI o), .int (nI w9)])).length) Slot.unset).toArray = ls at hl ⊢
  have hl : lv_has ls 6 [(0, .ref (g 0)), (1, .int (nI k)), (2, .int (nI v)), (3, .int (nI o)), (4, .int (nI w9))] := hl
  refine lv_aload_n hx hb dX5_place_0 rfl (lv_at hl 0 rfl) ?_
  refine lv_iload_n hx hb dX5_place_1 rfl (lv_at hl 1 rfl) ?_
  refine zr_calli (va_runV (As := [.int (nI k)]) (rest := []) ⟨hx, hb, hml, hown, hts⟩ (mX5_isSurvey l D y g S th sv ln at9 pl va hs (nI k)) (cwV 1 hts (zgV tw_486 tw_487 tw_488 tw_369 tw_371) rfl rfl rfl (by decide +kernel) ⟨Nat.le_of_ble_eq_true rfl, Nat.le_of_ble_eq_true rfl⟩) (zRO_preV hKN hP (ci := 5) (q0 := 0) rfl rfl [0, 1] rfl) rfl rfl hl.1 rfl (lv_room (Nat.le_of_ble_eq_true rfl)) dX5_place_2 ⟨Nat.zero_le _, Nat.zero_le _⟩) hS (fun r_1 H locs hw_2 hT hS => ?_)
  replace hP := hT _ _ hP
  obtain rfl : r_1 = (if ¬ (nI k) < 0 ∧ ¬ (S 1 - 1) < (nI k) then (1 : Int32) else 0) := hw_2
  refine lv_if_eq (tgt := 26) hx hb dX5_place_5 (by decide) (fun c_5 => absurd c_5 (zb1.mpr ⟨nI_pos (n := k) (by omega), zsu hS1 (by omega) hn6⟩)) (fun _ => ?_)
  refine lv_iload_n hx hb dX5_place_8 rfl (lv_at hl 2 rfl) ?_
  refine zr_calli (va_runS (As := [.int (nI v)]) (rest := []) ⟨hx, hb, hml, hown, hts⟩ (mX5_isLevel l (nI v)) (va_cwS 1 hts (zgS tw_427 tw_428 tw_369 tw_366) rfl rfl rfl (by decide +kernel) ⟨Nat.le_of_ble_eq_true rfl, Nat.le_of_ble_eq_true rfl⟩) zP_pre rfl rfl hl.1 rfl (lv_room (Nat.le_of_ble_eq_true rfl)) dX5_place_9 ⟨Nat.zero_le _, Nat.zero_le _⟩) hS (fun r_2 H locs hw_9 hT hS => ?_)
  replace hP := hT _ _ hP
  obtain rfl : r_2 = (if ¬ (nI v) < 0 ∧ ¬ 15 < (nI v) then (1 : Int32) else 0) := hw_9
  refine lv_if_eq (tgt := 26) hx hb dX5_place_12 (by decide) (fun c_12 => absurd c_12 (zb1.mpr ⟨nI_pos (n := v) (by omega), nI_nlt (a := 15) (b := v) (by omega) (by omega)⟩)) (fun _ => ?_)
  refine lv_iload_n hx hb dX5_place_15 rfl (lv_at hl 3 rfl) ?_
  refine zr_calli (va_runS (As := [.int (nI o)]) (rest := []) ⟨hx, hb, hml, hown, hts⟩ (mX5_isSide l (nI o)) (va_cwS 1 hts (zgS tw_429 tw_430 tw_369 tw_370) rfl rfl rfl (by decide +kernel) ⟨Nat.le_of_ble_eq_true rfl, Nat.le_of_ble_eq_true rfl⟩) zP_pre rfl rfl hl.1 rfl (lv_room (Nat.le_of_ble_eq_true rfl)) dX5_place_16 ⟨Nat.zero_le _, Nat.zero_le _⟩) hS (fun r_3 H locs hw_16 hT hS => ?_)
  replace hP := hT _ _ hP
  obtain rfl : r_3 = (if ¬ (nI o) < 0 ∧ ¬ 1 < (nI o) then (1 : Int32) else 0) := hw_16
  refine lv_if_eq (tgt := 26) hx hb dX5_place_19 (by decide) (fun c_19 => absurd c_19 (zb1.mpr ⟨nI_pos (n := o) (by omega), nI_nlt (a := 1) (b := o) (by omega) (by omega)⟩)) (fun _ => ?_)
  refine lv_iconst (v := 1) hx hb dX5_place_22 (by decide) ?_
  refine lv_goto (tgt := 27) hx hb dX5_place_23 (by decide) ?_
  refine lv_istore (lv' := [(5, .int 1), (0, .ref (g 0)), (1, .int (nI k)), (2, .int (nI v)), (3, .int (nI o)), (4, .int (nI w9))]) hx hb dX5_place_27 hl (by decide) rfl (fun ls hl => ?_)
  refine lv_aload_n hx hb dX5_place_29 rfl (lv_at hl 1 rfl) ?_
  refine lv_iload hx hb dX5_place_30 (lv_at hl 0 rfl) ?_
  refine lv_if_ne (tgt := 39) hx hb dX5_place_32 (by decide) (fun _ => ?_) (fun c_32 => absurd c_32 (by decide))
  refine lv_iload hx hb dX5_place_39 (lv_at hl 5 rfl) ?_
  refine zr_calli (va_runS (As := [.int (nI w9)]) (rest := [.ref (g 0)]) ⟨hx, hb, hml, hown, hts⟩ (mX5_isSide l (nI w9)) (va_cwS 1 hts (zgS tw_429 tw_430 tw_369 tw_370) rfl rfl rfl (by decide +kernel) ⟨Nat.le_of_ble_eq_true rfl, Nat.le_of_ble_eq_true rfl⟩) zP_pre rfl rfl hl.1 rfl (lv_room (Nat.le_of_ble_eq_true rfl)) dX5_place_41 ⟨Nat.zero_le _, Nat.zero_le _⟩) hS (fun r_4 H locs hw_41 hT hS => ?_)
  replace hP := hT _ _ hP
  obtain rfl : r_4 = (if ¬ (nI w9) < 0 ∧ ¬ 1 < (nI w9) then (1 : Int32) else 0) := hw_41
  refine lv_if_ne (tgt := 51) hx hb dX5_place_44 (by decide) (fun _ => ?_) (fun c_44 => absurd c_44 (zb1.mpr ⟨nI_pos (n := w9) (by omega), nI_nlt (a := 1) (b := w9) (by omega) (by omega)⟩))
  refine lv_iconst (v := 0) hx hb dX5_place_51 (by decide) ?_
  refine zw_calli (wr := [((g 1), .inl (y 0, 4023, .inl S))]) (w1 := (fun _ : Unit => [((g 0), .inr (5, [.int 0, .ref (g 1), .int (nI sv), .ref (g 2), .ref (g 3), .int (nI ln), .int (nI at9), .int (nI pl), .int va, .long hs]))])) hP hD hS hA [0] [1] rfl rfl (by decide +kernel) (by decide +kernel) (va_runV (As := [.int 0]) (rest := []) ⟨hx, hb, hml, hown, hts⟩ (mX5_holds l D y _ g th sv ln at9 pl va hs 0) (cwV 1 hts (zgV tw_431 tw_432 tw_433 tw_369 tw_365) rfl rfl rfl (by decide +kernel) ⟨Nat.le_of_ble_eq_true rfl, Nat.le_of_ble_eq_true rfl⟩) (zRW_preV hKN hP hD (ci := 5) (q0 := 0) rfl rfl [0] rfl (by decide)) rfl rfl hl.1 rfl (lv_room (Nat.le_of_ble_eq_true rfl)) dX5_place_52 ⟨Nat.zero_le _, Nat.zero_le _⟩) (fun r_5 u_6 H locs hw_52 hP hD hS => ?_)
  have hP : va_P D vwCl [((g 1), .inl (y 0, 4023, .inl S)), ((g 0), .inr (5, [.int 0, .ref (g 1), .int (nI sv), .ref (g 2), .ref (g 3), .int (nI ln), .int (nI at9), .int (nI pl), .int va, .long hs]))] H := hP
  have hD : va_D A [((g 1), .inl (y 0, 4023, .inl S)), ((g 0), .inr (5, [.int 0, .ref (g 1), .int (nI sv), .ref (g 2), .ref (g 3), .int (nI ln), .int (nI at9), .int (nI pl), .int va, .long hs]))] := hD
  obtain rfl : r_5 = 1 := hw_52
  refine lv_if_eq (tgt := 68) hx hb dX5_place_55 (by decide) (fun c_55 => absurd c_55 (by decide)) (fun _ => ?_)
  refine lv_aload_n hx hb dX5_place_58 rfl (lv_at hl 1 rfl) ?_
  refine lv_iload_n hx hb dX5_place_59 rfl (lv_at hl 2 rfl) ?_
  refine lv_iload_n hx hb dX5_place_60 rfl (lv_at hl 3 rfl) ?_
  refine lv_iload_n hx hb dX5_place_61 rfl (lv_at hl 4 rfl) ?_
  refine zr_calli (va_runV (As := [.int (nI k), .int (nI v), .int (nI o)]) (rest := []) ⟨hx, hb, hml, hown, hts⟩ (mX5_placeAt l D y g S 0 sv ln at9 pl va hs k v o (by first | assumption | rfl | omega | decide) (by first | assumption | rfl | omega | decide) (by first | assumption | rfl | omega | decide) (by first | assumption | rfl | omega | decide)) (cwV 3 hts (zgV tw_506 tw_507 tw_508 tw_369 tw_412) rfl rfl rfl (by decide +kernel) ⟨Nat.le_of_ble_eq_true rfl, Nat.le_of_ble_eq_true rfl⟩) (zRO_preV hKN hP (ci := 5) (q0 := 1) rfl rfl [1, 0] rfl) rfl rfl hl.1 rfl (lv_room (Nat.le_of_ble_eq_true rfl)) dX5_place_62 ⟨Nat.zero_le _, Nat.zero_le _⟩) hS (fun r_7 H locs hw_62 hT hS => ?_)
  replace hP := hT _ _ hP
  obtain rfl : r_7 = qPl S k o (v + 1) := hw_62
  refine lv_goto (tgt := 69) hx hb dX5_place_65 (by decide) ?_
  have hP := hP.sub (ws' := [((g 0), .inr (5, [.int 0, .ref (g 1), .int (nI sv), .ref (g 2), .ref (g 3), .int (nI ln), .int (nI at9), .int (nI pl), .int va, .long hs])), ((g 1), .inl (y 0, 4023, .inl S))]) [1, 0] rfl
  have hD := hD.sub (ws' := [((g 0), .inr (5, [.int 0, .ref (g 1), .int (nI sv), .ref (g 2), .ref (g 3), .int (nI ln), .int (nI at9), .int (nI pl), .int va, .long hs])), ((g 1), .inl (y 0, 4023, .inl S))]) [1, 0] (by decide) rfl
  refine W.widen (k := 0) (n := 0) (by first | exact Nat.le_of_ble_eq_true rfl | omega) (by first | exact Nat.le_of_ble_eq_true rfl | omega) ?_
  exact W.iret (v := (qPl S k o (v + 1))) hx hb hr (fun t ht hW => ⟨⟨qPl S k o (v + 1), (), rfl, by first | rfl | trivial | simp_all, ⟨by rw [ht]; exact hP, hD⟩⟩, hS.F ht⟩) hS.2.2 dX5_place_69

set_option maxHeartbeats 4000000 in
set_option maxRecDepth 100000 in
theorem mX5_place_b1 (l : Launch) (D : va_G) (y : Nat → ClassId) (sz : Nat) (g : Nat → Nat) (S : (Nat → Int32)) (th : Int32) (sv : Nat) (ln : Nat) (at9 : Nat) (pl : Nat) (va : Int32) (hs : Int64) (k : Int32) (v : Int32) (o : Int32) (w9 : Int32) (hb1 : ¬ ((¬ k < 0 ∧ ¬ (S 1 - 1) < k) ∧ (¬ v < 0 ∧ ¬ 15 < v) ∧ (¬ o < 0 ∧ ¬ 1 < o))) : Met l yX5_place (ws_ yX5_place cX5_place 6 (some .int)) ({ frames := 2, cells := 0, slots := 0, locals := 43 }) (va_Pc [.ref (g 0), .int k, .int v, .int o, .int w9] (zRW D y [((g 0), .inr (5, [.int th, .ref (g 1), .int (nI sv), .ref (g 2), .ref (g 3), .int (nI ln), .int (nI at9), .int (nI pl), .int va, .long hs])), ((g 1), .inl (y 0, 4023, .inl S))] sz)) (va_Qi (fun (r : Int32) (_ : Unit) => r = 0) (fun (_ : Unit) t => zOut D (va_A [((g 0), .inr (5, [.int th, .ref (g 1), .int (nI sv), .ref (g 2), .ref (g 3), .int (nI ln), .int (nI at9), .int (nI pl), .int va, .long hs])), ((g 1), .inl (y 0, 4023, .inl S))] sz) [((g 0), .inr (5, [.int 1, .ref (g 1), .int (nI sv), .ref (g 2), .ref (g 3), .int (nI ln), .int (nI at9), .int (nI pl), .int va, .long hs])), ((g 1), .inl (y 0, 4023, .inl S))] t) (va_A [((g 0), .inr (5, [.int th, .ref (g 1), .int (nI sv), .ref (g 2), .ref (g 3), .int (nI ln), .int (nI at9), .int (nI pl), .int va, .long hs])), ((g 1), .inl (y 0, 4023, .inl S))] sz)) 0 0 (va_A [((g 0), .inr (5, [.int th, .ref (g 1), .int (nI sv), .ref (g 2), .ref (g 3), .int (nI ln), .int (nI at9), .int (nI pl), .int va, .long hs])), ((g 1), .inl (y 0, 4023, .inl S))] sz) := by
  refine Met.ofW (cc := cX5_place) (maxL := 6) (ret := (some .int)) (by decide) rfl ?_
  intro p e s m args below meth c s₁ B hml hpre9
  obtain ⟨rfl, hsz, hP, hKN, hD0⟩ := hpre9
  have hK := hKN.1
  have hx := B.exec
  have hb := B.bytes
  have hr := B.returns
  have hts := atoms_spec (ws := (ws_ yX5_place cX5_place 6 (some .int))) B.pre
  have htg : ∀ w ∈ gT, w.before _ s = true := fun w h => hts w (List.mem_cons_of_mem _ h)
  have hown : s.vm.findClass RX5 = some m.cls := findClass_of_methodNamed B.named
  have hlocks := B.notSynchronized
  subst hsz
  have hD := hD0.self (sz := s.heap.size)
  clear hD0
  generalize hAe : va_A [((g 0), .inr (5, [.int th, .ref (g 1), .int (nI sv), .ref (g 2), .ref (g 3), .int (nI ln), .int (nI at9), .int (nI pl), .int va, .long hs])), ((g 1), .inl (y 0, 4023, .inl S))] s.heap.size = A at hD ⊢
  have hA : ∀ q : Nat, s.heap.size ≤ q → A q := fun q h => by rw [← hAe]; exact Or.inr h
  have hS : va_S A s.heap s.heap [] := va_S.rf
  have hP : va_P D vwCl [((g 0), .inr (5, [.int th, .ref (g 1), .int (nI sv), .ref (g 2), .ref (g 3), .int (nI ln), .int (nI at9), .int (nI pl), .int va, .long hs])), ((g 1), .inl (y 0, 4023, .inl S))] s.heap := hP
  have hl := lv_entry ([.ref (g 0), .int k, .int v, .int o, .int w9]) (n := 6) (Nat.le_of_ble_eq_true rfl)
  rw [lg_entry_eq]
  generalize (lg_sl ([.ref (g 0), .int k, .int v, .int o, .int w9]) ++ List.replicate (6 - (lg_sl ([.ref (g 0), .int k, .int v, .int o, .int w9])).length) Slot.unset).toArray = ls at hl ⊢
  have hl : lv_has ls 6 [(0, .ref (g 0)), (1, .int k), (2, .int v), (3, .int o), (4, .int w9)] := hl
  refine lv_aload_n hx hb dX5_place_0 rfl (lv_at hl 0 rfl) ?_
  refine lv_iload_n hx hb dX5_place_1 rfl (lv_at hl 1 rfl) ?_
  refine zr_calli (va_runV (As := [.int k]) (rest := []) ⟨hx, hb, hml, hown, hts⟩ (mX5_isSurvey l D y g S th sv ln at9 pl va hs k) (cwV 1 hts (zgV tw_486 tw_487 tw_488 tw_369 tw_371) rfl rfl rfl (by decide +kernel) ⟨Nat.le_of_ble_eq_true rfl, Nat.le_of_ble_eq_true rfl⟩) (zRO_preV hKN hP (ci := 5) (q0 := 0) rfl rfl [0, 1] rfl) rfl rfl hl.1 rfl (lv_room (Nat.le_of_ble_eq_true rfl)) dX5_place_2 ⟨Nat.zero_le _, Nat.zero_le _⟩) hS (fun r_1 H locs hw_2 hT hS => ?_)
  replace hP := hT _ _ hP
  obtain rfl : r_1 = (if ¬ k < 0 ∧ ¬ (S 1 - 1) < k then (1 : Int32) else 0) := hw_2
  refine lv_if_eq (tgt := 26) hx hb dX5_place_5 (by decide) (fun c_5 => ?_) (fun c_5 => ?_)
  · replace c_5 := zb0.mp c_5
    refine lv_iconst (v := 0) hx hb dX5_place_26 (by decide) ?_
    refine lv_istore (lv' := [(5, .int 0), (0, .ref (g 0)), (1, .int k), (2, .int v), (3, .int o), (4, .int w9)]) hx hb dX5_place_27 hl (by decide) rfl (fun ls hl => ?_)
    refine lv_aload_n hx hb dX5_place_29 rfl (lv_at hl 1 rfl) ?_
    refine lv_iload hx hb dX5_place_30 (lv_at hl 0 rfl) ?_
    refine lv_if_ne (tgt := 39) hx hb dX5_place_32 (by decide) (fun c_32 => absurd (by decide) c_32) (fun _ => ?_)
    refine lv_iconst (v := 1) hx hb dX5_place_35 (by decide) ?_
    refine lv_goto (tgt := 52) hx hb dX5_place_36 (by decide) ?_
    refine zw_calli (wr := [((g 1), .inl (y 0, 4023, .inl S))]) (w1 := (fun _ : Unit => [((g 0), .inr (5, [.int 1, .ref (g 1), .int (nI sv), .ref (g 2), .ref (g 3), .int (nI ln), .int (nI at9), .int (nI pl), .int va, .long hs]))])) hP hD hS hA [0] [1] rfl rfl (by decide +kernel) (by decide +kernel) (va_runV (As := [.int 1]) (rest := []) ⟨hx, hb, hml, hown, hts⟩ (mX5_holds l D y _ g th sv ln at9 pl va hs 1) (cwV 1 hts (zgV tw_431 tw_432 tw_433 tw_369 tw_365) rfl rfl rfl (by decide +kernel) ⟨Nat.le_of_ble_eq_true rfl, Nat.le_of_ble_eq_true rfl⟩) (zRW_preV hKN hP hD (ci := 5) (q0 := 0) rfl rfl [0] rfl (by decide)) rfl rfl hl.1 rfl (lv_room (Nat.le_of_ble_eq_true rfl)) dX5_place_52 ⟨Nat.zero_le _, Nat.zero_le _⟩) (fun r_2 u_3 H locs hw_52 hP hD hS => ?_)
    have hP : va_P D vwCl [((g 1), .inl (y 0, 4023, .inl S)), ((g 0), .inr (5, [.int 1, .ref (g 1), .int (nI sv), .ref (g 2), .ref (g 3), .int (nI ln), .int (nI at9), .int (nI pl), .int va, .long hs]))] H := hP
    have hD : va_D A [((g 1), .inl (y 0, 4023, .inl S)), ((g 0), .inr (5, [.int 1, .ref (g 1), .int (nI sv), .ref (g 2), .ref (g 3), .int (nI ln), .int (nI at9), .int (nI pl), .int va, .long hs]))] := hD
    obtain rfl : r_2 = 0 := hw_52
    refine lv_if_eq (tgt := 68) hx hb dX5_place_55 (by decide) (fun _ => ?_) (fun c_55 => absurd (by decide) c_55)
    refine lv_iconst (v := 0) hx hb dX5_place_68 (by decide) ?_
    have hP := hP.sub (ws' := [((g 0), .inr (5, [.int 1, .ref (g 1), .int (nI sv), .ref (g 2), .ref (g 3), .int (nI ln), .int (nI at9), .int (nI pl), .int va, .long hs])), ((g 1), .inl (y 0, 4023, .inl S))]) [1, 0] rfl
    have hD := hD.sub (ws' := [((g 0), .inr (5, [.int 1, .ref (g 1), .int (nI sv), .ref (g 2), .ref (g 3), .int (nI ln), .int (nI at9), .int (nI pl), .int va, .long hs])), ((g 1), .inl (y 0, 4023, .inl S))]) [1, 0] (by decide) rfl
    refine W.widen (k := 0) (n := 0) (by first | exact Nat.le_of_ble_eq_true rfl | omega) (by first | exact Nat.le_of_ble_eq_true rfl | omega) ?_
    exact W.iret (v := 0) hx hb hr (fun t ht hW => ⟨⟨0, (), rfl, by first | rfl | trivial | simp_all, ⟨by rw [ht]; exact hP, hD⟩⟩, hS.F ht⟩) hS.2.2 dX5_place_69
  · replace c_5 := zb1.mp c_5
    refine lv_iload_n hx hb dX5_place_8 rfl (lv_at hl 2 rfl) ?_
    refine zr_calli (va_runS (As := [.int v]) (rest := []) ⟨hx, hb, hml, hown, hts⟩ (mX5_isLevel l v) (va_cwS 1 hts (zgS tw_427 tw_428 tw_369 tw_366) rfl rfl rfl (by decide +kernel) ⟨Nat.le_of_ble_eq_true rfl, Nat.le_of_ble_eq_true rfl⟩) zP_pre rfl rfl hl.1 rfl (lv_room (Nat.le_of_ble_eq_true rfl)) dX5_place_9 ⟨Nat.zero_le _, Nat.zero_le _⟩) hS (fun r_4 H locs hw_9 hT hS => ?_)
    replace hP := hT _ _ hP
    obtain rfl : r_4 = (if ¬ v < 0 ∧ ¬ 15 < v then (1 : Int32) else 0) := hw_9
    refine lv_if_eq (tgt := 26) hx hb dX5_place_12 (by decide) (fun c_12 => ?_) (fun c_12 => ?_)
    · replace c_12 := zb0.mp c_12
      refine lv_iconst (v := 0) hx hb dX5_place_26 (by decide) ?_
      refine lv_istore (lv' := [(5, .int 0), (0, .ref (g 0)), (1, .int k), (2, .int v), (3, .int o), (4, .int w9)]) hx hb dX5_place_27 hl (by decide) rfl (fun ls hl => ?_)
      refine lv_aload_n hx hb dX5_place_29 rfl (lv_at hl 1 rfl) ?_
      refine lv_iload hx hb dX5_place_30 (lv_at hl 0 rfl) ?_
      refine lv_if_ne (tgt := 39) hx hb dX5_place_32 (by decide) (fun c_32 => absurd (by decide) c_32) (fun _ => ?_)
      refine lv_iconst (v := 1) hx hb dX5_place_35 (by decide) ?_
      refine lv_goto (tgt := 52) hx hb dX5_place_36 (by decide) ?_
      refine zw_calli (wr := [((g 1), .inl (y 0, 4023, .inl S))]) (w1 := (fun _ : Unit => [((g 0), .inr (5, [.int 1, .ref (g 1), .int (nI sv), .ref (g 2), .ref (g 3), .int (nI ln), .int (nI at9), .int (nI pl), .int va, .long hs]))])) hP hD hS hA [0] [1] rfl rfl (by decide +kernel) (by decide +kernel) (va_runV (As := [.int 1]) (rest := []) ⟨hx, hb, hml, hown, hts⟩ (mX5_holds l D y _ g th sv ln at9 pl va hs 1) (cwV 1 hts (zgV tw_431 tw_432 tw_433 tw_369 tw_365) rfl rfl rfl (by decide +kernel) ⟨Nat.le_of_ble_eq_true rfl, Nat.le_of_ble_eq_true rfl⟩) (zRW_preV hKN hP hD (ci := 5) (q0 := 0) rfl rfl [0] rfl (by decide)) rfl rfl hl.1 rfl (lv_room (Nat.le_of_ble_eq_true rfl)) dX5_place_52 ⟨Nat.zero_le _, Nat.zero_le _⟩) (fun r_5 u_6 H locs hw_52 hP hD hS => ?_)
      have hP : va_P D vwCl [((g 1), .inl (y 0, 4023, .inl S)), ((g 0), .inr (5, [.int 1, .ref (g 1), .int (nI sv), .ref (g 2), .ref (g 3), .int (nI ln), .int (nI at9), .int (nI pl), .int va, .long hs]))] H := hP
      have hD : va_D A [((g 1), .inl (y 0, 4023, .inl S)), ((g 0), .inr (5, [.int 1, .ref (g 1), .int (nI sv), .ref (g 2), .ref (g 3), .int (nI ln), .int (nI at9), .int (nI pl), .int va, .long hs]))] := hD
      obtain rfl : r_5 = 0 := hw_52
      refine lv_if_eq (tgt := 68) hx hb dX5_place_55 (by decide) (fun _ => ?_) (fun c_55 => absurd (by decide) c_55)
      refine lv_iconst (v := 0) hx hb dX5_place_68 (by decide) ?_
      have hP := hP.sub (ws' := [((g 0), .inr (5, [.int 1, .ref (g 1), .int (nI sv), .ref (g 2), .ref (g 3), .int (nI ln), .int (nI at9), .int (nI pl), .int va, .long hs])), ((g 1), .inl (y 0, 4023, .inl S))]) [1, 0] rfl
      have hD := hD.sub (ws' := [((g 0), .inr (5, [.int 1, .ref (g 1), .int (nI sv), .ref (g 2), .ref (g 3), .int (nI ln), .int (nI at9), .int (nI pl), .int va, .long hs])), ((g 1), .inl (y 0, 4023, .inl S))]) [1, 0] (by decide) rfl
      refine W.widen (k := 0) (n := 0) (by first | exact Nat.le_of_ble_eq_true rfl | omega) (by first | exact Nat.le_of_ble_eq_true rfl | omega) ?_
      exact W.iret (v := 0) hx hb hr (fun t ht hW => ⟨⟨0, (), rfl, by first | rfl | trivial | simp_all, ⟨by rw [ht]; exact hP, hD⟩⟩, hS.F ht⟩) hS.2.2 dX5_place_69
    · replace c_12 := zb1.mp c_12
      refine lv_iload_n hx hb dX5_place_15 rfl (lv_at hl 3 rfl) ?_
      refine zr_calli (va_runS (As := [.int o]) (rest := []) ⟨hx, hb, hml, hown, hts⟩ (mX5_isSide l o) (va_cwS 1 hts (zgS tw_429 tw_430 tw_369 tw_370) rfl rfl rfl (by decide +kernel) ⟨Nat.le_of_ble_eq_true rfl, Nat.le_of_ble_eq_true rfl⟩) zP_pre rfl rfl hl.1 rfl (lv_room (Nat.le_of_ble_eq_true rfl)) dX5_place_16 ⟨Nat.zero_le _, Nat.zero_le _⟩) hS (fun r_7 H locs hw_16 hT hS => ?_)
      replace hP := hT _ _ hP
      obtain rfl : r_7 = (if ¬ o < 0 ∧ ¬ 1 < o then (1 : Int32) else 0) := hw_16
      refine lv_if_eq (tgt := 26) hx hb dX5_place_19 (by decide) (fun c_19 => ?_) (fun c_19 => ?_)
      · replace c_19 := zb0.mp c_19
        refine lv_iconst (v := 0) hx hb dX5_place_26 (by decide) ?_
        refine lv_istore (lv' := [(5, .int 0), (0, .ref (g 0)), (1, .int k), (2, .int v), (3, .int o), (4, .int w9)]) hx hb dX5_place_27 hl (by decide) rfl (fun ls hl => ?_)
        refine lv_aload_n hx hb dX5_place_29 rfl (lv_at hl 1 rfl) ?_
        refine lv_iload hx hb dX5_place_30 (lv_at hl 0 rfl) ?_
        refine lv_if_ne (tgt := 39) hx hb dX5_place_32 (by decide) (fun c_32 => absurd (by decide) c_32) (fun _ => ?_)
        refine lv_iconst (v := 1) hx hb dX5_place_35 (by decide) ?_
        refine lv_goto (tgt := 52) hx hb dX5_place_36 (by decide) ?_
        refine zw_calli (wr := [((g 1), .inl (y 0, 4023, .inl S))]) (w1 := (fun _ : Unit => [((g 0), .inr (5, [.int 1, .ref (g 1), .int (nI sv), .ref (g 2), .ref (g 3), .int (nI ln), .int (nI at9), .int (nI pl), .int va, .long hs]))])) hP hD hS hA [0] [1] rfl rfl (by decide +kernel) (by decide +kernel) (va_runV (As := [.int 1]) (rest := []) ⟨hx, hb, hml, hown, hts⟩ (mX5_holds l D y _ g th sv ln at9 pl va hs 1) (cwV 1 hts (zgV tw_431 tw_432 tw_433 tw_369 tw_365) rfl rfl rfl (by decide +kernel) ⟨Nat.le_of_ble_eq_true rfl, Nat.le_of_ble_eq_true rfl⟩) (zRW_preV hKN hP hD (ci := 5) (q0 := 0) rfl rfl [0] rfl (by decide)) rfl rfl hl.1 rfl (lv_room (Nat.le_of_ble_eq_true rfl)) dX5_place_52 ⟨Nat.zero_le _, Nat.zero_le _⟩) (fun r_8 u_9 H locs hw_52 hP hD hS => ?_)
        have hP : va_P D vwCl [((g 1), .inl (y 0, 4023, .inl S)), ((g 0), .inr (5, [.int 1, .ref (g 1), .int (nI sv), .ref (g 2), .ref (g 3), .int (nI ln), .int (nI at9), .int (nI pl), .int va, .long hs]))] H := hP
        have hD : va_D A [((g 1), .inl (y 0, 4023, .inl S)), ((g 0), .inr (5, [.int 1, .ref (g 1), .int (nI sv), .ref (g 2), .ref (g 3), .int (nI ln), .int (nI at9), .int (nI pl), .int va, .long hs]))] := hD
        obtain rfl : r_8 = 0 := hw_52
        refine lv_if_eq (tgt := 68) hx hb dX5_place_55 (by decide) (fun _ => ?_) (fun c_55 => absurd (by decide) c_55)
        refine lv_iconst (v := 0) hx hb dX5_place_68 (by decide) ?_
        have hP := hP.sub (ws' := [((g 0), .inr (5, [.int 1, .ref (g 1), .int (nI sv), .ref (g 2), .ref (g 3), .int (nI ln), .int (nI at9), .int (nI pl), .int va, .long hs])), ((g 1), .inl (y 0, 4023, .inl S))]) [1, 0] rfl
        have hD := hD.sub (ws' := [((g 0), .inr (5, [.int 1, .ref (g 1), .int (nI sv), .ref (g 2), .ref (g 3), .int (nI ln), .int (nI at9), .int (nI pl), .int va, .long hs])), ((g 1), .inl (y 0, 4023, .inl S))]) [1, 0] (by decide) rfl
        refine W.widen (k := 0) (n := 0) (by first | exact Nat.le_of_ble_eq_true rfl | omega) (by first | exact Nat.le_of_ble_eq_true rfl | omega) ?_
        exact W.iret (v := 0) hx hb hr (fun t ht hW => ⟨⟨0, (), rfl, by first | rfl | trivial | simp_all, ⟨by rw [ht]; exact hP, hD⟩⟩, hS.F ht⟩) hS.2.2 dX5_place_69
      · replace c_19 := zb1.mp c_19
        exact absurd ⟨c_5, c_12, c_19⟩ hb1

set_option maxHeartbeats 4000000 in
set_option maxRecDepth 100000 in
theorem mX5_place_b2 (l : Launch) (D : va_G) (y : Nat → ClassId) (sz : Nat) (g : Nat → Nat) (S : (Nat → Int32)) (th : Int32) (sv : Nat) (ln : Nat) (at9 : Nat) (pl : Nat) (va : Int32) (hs : Int64) (k : Int32) (v : Int32) (o : Int32) (w9 : Int32) (h1 : (¬ k < 0 ∧ ¬ (S 1 - 1) < k) ∧ (¬ v < 0 ∧ ¬ 15 < v) ∧ (¬ o < 0 ∧ ¬ 1 < o)) (hb1 : ¬ (¬ w9 < 0 ∧ ¬ 1 < w9)) : Met l yX5_place (ws_ yX5_place cX5_place 6 (some .int)) ({ frames := 2, cells := 0, slots := 0, locals := 43 }) (va_Pc [.ref (g 0), .int k, .int v, .int o, .int w9] (zRW D y [((g 0), .inr (5, [.int th, .ref (g 1), .int (nI sv), .ref (g 2), .ref (g 3), .int (nI ln), .int (nI at9), .int (nI pl), .int va, .long hs])), ((g 1), .inl (y 0, 4023, .inl S))] sz)) (va_Qi (fun (r : Int32) (_ : Unit) => r = 0) (fun (_ : Unit) t => zOut D (va_A [((g 0), .inr (5, [.int th, .ref (g 1), .int (nI sv), .ref (g 2), .ref (g 3), .int (nI ln), .int (nI at9), .int (nI pl), .int va, .long hs])), ((g 1), .inl (y 0, 4023, .inl S))] sz) [((g 0), .inr (5, [.int 2, .ref (g 1), .int (nI sv), .ref (g 2), .ref (g 3), .int (nI ln), .int (nI at9), .int (nI pl), .int va, .long hs])), ((g 1), .inl (y 0, 4023, .inl S))] t) (va_A [((g 0), .inr (5, [.int th, .ref (g 1), .int (nI sv), .ref (g 2), .ref (g 3), .int (nI ln), .int (nI at9), .int (nI pl), .int va, .long hs])), ((g 1), .inl (y 0, 4023, .inl S))] sz)) 0 0 (va_A [((g 0), .inr (5, [.int th, .ref (g 1), .int (nI sv), .ref (g 2), .ref (g 3), .int (nI ln), .int (nI at9), .int (nI pl), .int va, .long hs])), ((g 1), .inl (y 0, 4023, .inl S))] sz) := by
  refine Met.ofW (cc := cX5_place) (maxL := 6) (ret := (some .int)) (by decide) rfl ?_
  intro p e s m args below meth c s₁ B hml hpre9
  obtain ⟨rfl, hsz, hP, hKN, hD0⟩ := hpre9
  have hK := hKN.1
  have hx := B.exec
  have hb := B.bytes
  have hr := B.returns
  have hts := atoms_spec (ws := (ws_ yX5_place cX5_place 6 (some .int))) B.pre
  have htg : ∀ w ∈ gT, w.before _ s = true := fun w h => hts w (List.mem_cons_of_mem _ h)
  have hown : s.vm.findClass RX5 = some m.cls := findClass_of_methodNamed B.named
  have hlocks := B.notSynchronized
  subst hsz
  have hD := hD0.self (sz := s.heap.size)
  clear hD0
  generalize hAe : va_A [((g 0), .inr (5, [.int th, .ref (g 1), .int (nI sv), .ref (g 2), .ref (g 3), .int (nI ln), .int (nI at9), .int (nI pl), .int va, .long hs])), ((g 1), .inl (y 0, 4023, .inl S))] s.heap.size = A at hD ⊢
  have hA : ∀ q : Nat, s.heap.size ≤ q → A q := fun q h => by rw [← hAe]; exact Or.inr h
  have hS : va_S A s.heap s.heap [] := va_S.rf
  have hP : va_P D vwCl [((g 0), .inr (5, [.int th, .ref (g 1), .int (nI sv), .ref (g 2), .ref (g 3), .int (nI ln), .int (nI at9), .int (nI pl), .int va, .long hs])), ((g 1), .inl (y 0, 4023, .inl S))] s.heap := hP
  have hl := lv_entry ([.ref (g 0), .int k, .int v, .int o, .int w9]) (n := 6) (Nat.le_of_ble_eq_true rfl)
  rw [lg_entry_eq]
  generalize (lg_sl ([.ref (g 0), .int k, .int v, .int o, .int w9]) ++ List.replicate (6 - (lg_sl ([.ref (g 0), .int k, .int v, .int o, .int w9])).length) Slot.unset).toArray = ls at hl ⊢
  have hl : lv_has ls 6 [(0, .ref (g 0)), (1, .int k), (2, .int v), (3, .int o), (4, .int w9)] := hl
  refine lv_aload_n hx hb dX5_place_0 rfl (lv_at hl 0 rfl) ?_
  refine lv_iload_n hx hb dX5_place_1 rfl (lv_at hl 1 rfl) ?_
  refine zr_calli (va_runV (As := [.int k]) (rest := []) ⟨hx, hb, hml, hown, hts⟩ (mX5_isSurvey l D y g S th sv ln at9 pl va hs k) (cwV 1 hts (zgV tw_486 tw_487 tw_488 tw_369 tw_371) rfl rfl rfl (by decide +kernel) ⟨Nat.le_of_ble_eq_true rfl, Nat.le_of_ble_eq_true rfl⟩) (zRO_preV hKN hP (ci := 5) (q0 := 0) rfl rfl [0, 1] rfl) rfl rfl hl.1 rfl (lv_room (Nat.le_of_ble_eq_true rfl)) dX5_place_2 ⟨Nat.zero_le _, Nat.zero_le _⟩) hS (fun r_1 H locs hw_2 hT hS => ?_)
  replace hP := hT _ _ hP
  obtain rfl : r_1 = (if ¬ k < 0 ∧ ¬ (S 1 - 1) < k then (1 : Int32) else 0) := hw_2
  refine lv_if_eq (tgt := 26) hx hb dX5_place_5 (by decide) (fun c_5 => absurd c_5 (zb1.mpr h1.1)) (fun _ => ?_)
  refine lv_iload_n hx hb dX5_place_8 rfl (lv_at hl 2 rfl) ?_
  refine zr_calli (va_runS (As := [.int v]) (rest := []) ⟨hx, hb, hml, hown, hts⟩ (mX5_isLevel l v) (va_cwS 1 hts (zgS tw_427 tw_428 tw_369 tw_366) rfl rfl rfl (by decide +kernel) ⟨Nat.le_of_ble_eq_true rfl, Nat.le_of_ble_eq_true rfl⟩) zP_pre rfl rfl hl.1 rfl (lv_room (Nat.le_of_ble_eq_true rfl)) dX5_place_9 ⟨Nat.zero_le _, Nat.zero_le _⟩) hS (fun r_2 H locs hw_9 hT hS => ?_)
  replace hP := hT _ _ hP
  obtain rfl : r_2 = (if ¬ v < 0 ∧ ¬ 15 < v then (1 : Int32) else 0) := hw_9
  refine lv_if_eq (tgt := 26) hx hb dX5_place_12 (by decide) (fun c_12 => absurd c_12 (zb1.mpr h1.2.1)) (fun _ => ?_)
  refine lv_iload_n hx hb dX5_place_15 rfl (lv_at hl 3 rfl) ?_
  refine zr_calli (va_runS (As := [.int o]) (rest := []) ⟨hx, hb, hml, hown, hts⟩ (mX5_isSide l o) (va_cwS 1 hts (zgS tw_429 tw_430 tw_369 tw_370) rfl rfl rfl (by decide +kernel) ⟨Nat.le_of_ble_eq_true rfl, Nat.le_of_ble_eq_true rfl⟩) zP_pre rfl rfl hl.1 rfl (lv_room (Nat.le_of_ble_eq_true rfl)) dX5_place_16 ⟨Nat.zero_le _, Nat.zero_le _⟩) hS (fun r_3 H locs hw_16 hT hS => ?_)
  replace hP := hT _ _ hP
  obtain rfl : r_3 = (if ¬ o < 0 ∧ ¬ 1 < o then (1 : Int32) else 0) := hw_16
  refine lv_if_eq (tgt := 26) hx hb dX5_place_19 (by decide) (fun c_19 => absurd c_19 (zb1.mpr h1.2.2)) (fun _ => ?_)
  refine lv_iconst (v := 1) hx hb dX5_place_22 (by decide) ?_
  refine lv_goto (tgt := 27) hx hb dX5_place_23 (by decide) ?_
  refine lv_istore (lv' := [(5, .int 1), (0, .ref (g 0)), (1, .int k), (2, .int v), (3, .int o), (4, .int w9)]) hx hb dX5_place_27 hl (by decide) rfl (fun ls hl => ?_)
  refine lv_aload_n hx hb dX5_place_29 rfl (lv_at hl 1 rfl) ?_
  refine lv_iload hx hb dX5_place_30 (lv_at hl 0 rfl) ?_
  refine lv_if_ne (tgt := 39) hx hb dX5_place_32 (by decide) (fun _ => ?_) (fun c_32 => absurd c_32 (by decide))
  refine lv_iload hx hb dX5_place_39 (lv_at hl 5 rfl) ?_
  refine zr_calli (va_runS (As := [.int w9]) (rest := [.ref (g 0)]) ⟨hx, hb, hml, hown, hts⟩ (mX5_isSide l w9) (va_cwS 1 hts (zgS tw_429 tw_430 tw_369 tw_370) rfl rfl rfl (by decide +kernel) ⟨Nat.le_of_ble_eq_true rfl, Nat.le_of_ble_eq_true rfl⟩) zP_pre rfl rfl hl.1 rfl (lv_room (Nat.le_of_ble_eq_true rfl)) dX5_place_41 ⟨Nat.zero_le _, Nat.zero_le _⟩) hS (fun r_4 H locs hw_41 hT hS => ?_)
  replace hP := hT _ _ hP
  obtain rfl : r_4 = (if ¬ w9 < 0 ∧ ¬ 1 < w9 then (1 : Int32) else 0) := hw_41
  refine lv_if_ne (tgt := 51) hx hb dX5_place_44 (by decide) (fun c_44 => absurd (zb0.mpr hb1) c_44) (fun _ => ?_)
  refine lv_iconst (v := 2) hx hb dX5_place_47 (by decide) ?_
  refine lv_goto (tgt := 52) hx hb dX5_place_48 (by decide) ?_
  refine zw_calli (wr := [((g 1), .inl (y 0, 4023, .inl S))]) (w1 := (fun _ : Unit => [((g 0), .inr (5, [.int 2, .ref (g 1), .int (nI sv), .ref (g 2), .ref (g 3), .int (nI ln), .int (nI at9), .int (nI pl), .int va, .long hs]))])) hP hD hS hA [0] [1] rfl rfl (by decide +kernel) (by decide +kernel) (va_runV (As := [.int 2]) (rest := []) ⟨hx, hb, hml, hown, hts⟩ (mX5_holds l D y _ g th sv ln at9 pl va hs 2) (cwV 1 hts (zgV tw_431 tw_432 tw_433 tw_369 tw_365) rfl rfl rfl (by decide +kernel) ⟨Nat.le_of_ble_eq_true rfl, Nat.le_of_ble_eq_true rfl⟩) (zRW_preV hKN hP hD (ci := 5) (q0 := 0) rfl rfl [0] rfl (by decide)) rfl rfl hl.1 rfl (lv_room (Nat.le_of_ble_eq_true rfl)) dX5_place_52 ⟨Nat.zero_le _, Nat.zero_le _⟩) (fun r_5 u_6 H locs hw_52 hP hD hS => ?_)
  have hP : va_P D vwCl [((g 1), .inl (y 0, 4023, .inl S)), ((g 0), .inr (5, [.int 2, .ref (g 1), .int (nI sv), .ref (g 2), .ref (g 3), .int (nI ln), .int (nI at9), .int (nI pl), .int va, .long hs]))] H := hP
  have hD : va_D A [((g 1), .inl (y 0, 4023, .inl S)), ((g 0), .inr (5, [.int 2, .ref (g 1), .int (nI sv), .ref (g 2), .ref (g 3), .int (nI ln), .int (nI at9), .int (nI pl), .int va, .long hs]))] := hD
  obtain rfl : r_5 = 0 := hw_52
  refine lv_if_eq (tgt := 68) hx hb dX5_place_55 (by decide) (fun _ => ?_) (fun c_55 => absurd (by decide) c_55)
  refine lv_iconst (v := 0) hx hb dX5_place_68 (by decide) ?_
  have hP := hP.sub (ws' := [((g 0), .inr (5, [.int 2, .ref (g 1), .int (nI sv), .ref (g 2), .ref (g 3), .int (nI ln), .int (nI at9), .int (nI pl), .int va, .long hs])), ((g 1), .inl (y 0, 4023, .inl S))]) [1, 0] rfl
  have hD := hD.sub (ws' := [((g 0), .inr (5, [.int 2, .ref (g 1), .int (nI sv), .ref (g 2), .ref (g 3), .int (nI ln), .int (nI at9), .int (nI pl), .int va, .long hs])), ((g 1), .inl (y 0, 4023, .inl S))]) [1, 0] (by decide) rfl
  refine W.widen (k := 0) (n := 0) (by first | exact Nat.le_of_ble_eq_true rfl | omega) (by first | exact Nat.le_of_ble_eq_true rfl | omega) ?_
  exact W.iret (v := 0) hx hb hr (fun t ht hW => ⟨⟨0, (), rfl, by first | rfl | trivial | simp_all, ⟨by rw [ht]; exact hP, hD⟩⟩, hS.F ht⟩) hS.2.2 dX5_place_69

set_option maxHeartbeats 4000000 in
set_option maxRecDepth 100000 in
theorem mX5_count (l : Launch) (D : va_G) (y : Nat → ClassId) (sz : Nat) (g : Nat → Nat) (S : (Nat → Int32)) (th : Int32) (sv : Nat) (ln : Nat) (at9 : Nat) (pl : Nat) (va : Int32) (hs : Int64) (w9 : Nat) (hw9 : w9 < 8) : Met l yX5_count (ws_ yX5_count cX5_count 2 (some .int)) ({ frames := 3, cells := 0, slots := 0, locals := 64 }) (va_Pc [.ref (g 0), .int (nI w9)] (zRW D y [((g 0), .inr (5, [.int th, .ref (g 1), .int (nI sv), .ref (g 2), .ref (g 3), .int (nI ln), .int (nI at9), .int (nI pl), .int va, .long hs])), ((g 1), .inl (y 0, 4023, .inl S))] sz)) (va_Qi (fun (r : Int32) (_ : Unit) => r = qCt S (nI sv) w9) (fun (_ : Unit) t => zOut D (va_A [((g 0), .inr (5, [.int th, .ref (g 1), .int (nI sv), .ref (g 2), .ref (g 3), .int (nI ln), .int (nI at9), .int (nI pl), .int va, .long hs])), ((g 1), .inl (y 0, 4023, .inl S))] sz) [((g 0), .inr (5, [.int 0, .ref (g 1), .int (nI sv), .ref (g 2), .ref (g 3), .int (nI ln), .int (nI at9), .int (nI pl), .int va, .long hs])), ((g 1), .inl (y 0, 4023, .inl S))] t) (va_A [((g 0), .inr (5, [.int th, .ref (g 1), .int (nI sv), .ref (g 2), .ref (g 3), .int (nI ln), .int (nI at9), .int (nI pl), .int va, .long hs])), ((g 1), .inl (y 0, 4023, .inl S))] sz)) 0 0 (va_A [((g 0), .inr (5, [.int th, .ref (g 1), .int (nI sv), .ref (g 2), .ref (g 3), .int (nI ln), .int (nI at9), .int (nI pl), .int va, .long hs])), ((g 1), .inl (y 0, 4023, .inl S))] sz) := by
  refine Met.ofW (cc := cX5_count) (maxL := 2) (ret := (some .int)) (by decide) rfl ?_
  intro p e s m args below meth c s₁ B hml hpre9
  obtain ⟨rfl, hsz, hP, hKN, hD0⟩ := hpre9
  have hK := hKN.1
  have hx := B.exec
  have hb := B.bytes
  have hr := B.returns
  have hts := atoms_spec (ws := (ws_ yX5_count cX5_count 2 (some .int))) B.pre
  have htg : ∀ w ∈ gT, w.before _ s = true := fun w h => hts w (List.mem_cons_of_mem _ h)
  have hown : s.vm.findClass RX5 = some m.cls := findClass_of_methodNamed B.named
  have hlocks := B.notSynchronized
  subst hsz
  have hD := hD0.self (sz := s.heap.size)
  clear hD0
  generalize hAe : va_A [((g 0), .inr (5, [.int th, .ref (g 1), .int (nI sv), .ref (g 2), .ref (g 3), .int (nI ln), .int (nI at9), .int (nI pl), .int va, .long hs])), ((g 1), .inl (y 0, 4023, .inl S))] s.heap.size = A at hD ⊢
  have hA : ∀ q : Nat, s.heap.size ≤ q → A q := fun q h => by rw [← hAe]; exact Or.inr h
  have hS : va_S A s.heap s.heap [] := va_S.rf
  have hP : va_P D vwCl [((g 0), .inr (5, [.int th, .ref (g 1), .int (nI sv), .ref (g 2), .ref (g 3), .int (nI ln), .int (nI at9), .int (nI pl), .int va, .long hs])), ((g 1), .inl (y 0, 4023, .inl S))] s.heap := hP
  have hl := lv_entry ([.ref (g 0), .int (nI w9)]) (n := 2) (Nat.le_of_ble_eq_true rfl)
  rw [lg_entry_eq]
  generalize (lg_sl ([.ref (g 0), .int (nI w9)]) ++ List.replicate (2 - (lg_sl ([.ref (g 0), .int (nI w9)])).length) Slot.unset).toArray = ls at hl ⊢
  have hl : lv_has ls 2 [(0, .ref (g 0)), (1, .int (nI w9))] := hl
  refine lv_aload_n hx hb dX5_count_0 rfl (lv_at hl 0 rfl) ?_
  refine lv_iload_n hx hb dX5_count_1 rfl (lv_at hl 1 rfl) ?_
  refine lv_iconst (v := 0) hx hb dX5_count_2 (by decide) ?_
  refine lv_bipush (v := 7) hx hb dX5_count_3 (by decide) ?_
  refine zr_calli (va_runS (As := [.int (nI w9), .int 0, .int 7]) (rest := [.ref (g 0)]) ⟨hx, hb, hml, hown, hts⟩ (mX5_in l (nI w9) 0 7) (va_cwS 3 hts (zgS tw_367 tw_368 tw_369 tw_364) rfl rfl rfl (by decide +kernel) ⟨Nat.le_of_ble_eq_true rfl, Nat.le_of_ble_eq_true rfl⟩) zP_pre rfl rfl hl.1 rfl (lv_room (Nat.le_of_ble_eq_true rfl)) dX5_count_5 ⟨Nat.zero_le _, Nat.zero_le _⟩) hS (fun r_1 H locs hw_5 hT hS => ?_)
  replace hP := hT _ _ hP
  obtain rfl : r_1 = (if ¬ (nI w9) < 0 ∧ ¬ 7 < (nI w9) then (1 : Int32) else 0) := hw_5
  refine lv_if_eq (tgt := 15) hx hb dX5_count_8 (by decide) (fun c_8 => absurd c_8 (zb1.mpr ⟨nI_pos (n := w9) (by omega), nI_nlt (a := 7) (b := w9) (by omega) (by omega)⟩)) (fun _ => ?_)
  refine lv_iconst (v := 0) hx hb dX5_count_11 (by decide) ?_
  refine lv_goto (tgt := 16) hx hb dX5_count_12 (by decide) ?_
  refine zw_calli (wr := [((g 1), .inl (y 0, 4023, .inl S))]) (w1 := (fun _ : Unit => [((g 0), .inr (5, [.int 0, .ref (g 1), .int (nI sv), .ref (g 2), .ref (g 3), .int (nI ln), .int (nI at9), .int (nI pl), .int va, .long hs]))])) hP hD hS hA [0] [1] rfl rfl (by decide +kernel) (by decide +kernel) (va_runV (As := [.int 0]) (rest := []) ⟨hx, hb, hml, hown, hts⟩ (mX5_holds l D y _ g th sv ln at9 pl va hs 0) (cwV 1 hts (zgV tw_431 tw_432 tw_433 tw_369 tw_365) rfl rfl rfl (by decide +kernel) ⟨Nat.le_of_ble_eq_true rfl, Nat.le_of_ble_eq_true rfl⟩) (zRW_preV hKN hP hD (ci := 5) (q0 := 0) rfl rfl [0] rfl (by decide)) rfl rfl hl.1 rfl (lv_room (Nat.le_of_ble_eq_true rfl)) dX5_count_16 ⟨Nat.zero_le _, Nat.zero_le _⟩) (fun r_2 u_3 H locs hw_16 hP hD hS => ?_)
  have hP : va_P D vwCl [((g 1), .inl (y 0, 4023, .inl S)), ((g 0), .inr (5, [.int 0, .ref (g 1), .int (nI sv), .ref (g 2), .ref (g 3), .int (nI ln), .int (nI at9), .int (nI pl), .int va, .long hs]))] H := hP
  have hD : va_D A [((g 1), .inl (y 0, 4023, .inl S)), ((g 0), .inr (5, [.int 0, .ref (g 1), .int (nI sv), .ref (g 2), .ref (g 3), .int (nI ln), .int (nI at9), .int (nI pl), .int va, .long hs]))] := hD
  obtain rfl : r_2 = 1 := hw_16
  refine lv_if_eq (tgt := 30) hx hb dX5_count_19 (by decide) (fun c_19 => absurd c_19 (by decide)) (fun _ => ?_)
  refine lv_aload_n hx hb dX5_count_22 rfl (lv_at hl 0 rfl) ?_
  refine lv_iload_n hx hb dX5_count_23 rfl (lv_at hl 1 rfl) ?_
  refine zr_calli (va_runV (As := [.int (nI w9)]) (rest := []) ⟨hx, hb, hml, hown, hts⟩ (mX5_counted l D y g S 0 sv ln at9 pl va hs w9 (by first | assumption | rfl | omega | decide)) (cwV 1 hts (zgV tw_515 tw_516 tw_517 tw_369 tw_510) rfl rfl rfl (by decide +kernel) ⟨Nat.le_of_ble_eq_true rfl, Nat.le_of_ble_eq_true rfl⟩) (zRO_preV hKN hP (ci := 5) (q0 := 1) rfl rfl [1, 0] rfl) rfl rfl hl.1 rfl (lv_room (Nat.le_of_ble_eq_true rfl)) dX5_count_24 ⟨Nat.zero_le _, Nat.zero_le _⟩) hS (fun r_4 H locs hw_24 hT hS => ?_)
  replace hP := hT _ _ hP
  obtain rfl : r_4 = qCt S (nI sv) w9 := hw_24
  refine lv_goto (tgt := 31) hx hb dX5_count_27 (by decide) ?_
  have hP := hP.sub (ws' := [((g 0), .inr (5, [.int 0, .ref (g 1), .int (nI sv), .ref (g 2), .ref (g 3), .int (nI ln), .int (nI at9), .int (nI pl), .int va, .long hs])), ((g 1), .inl (y 0, 4023, .inl S))]) [1, 0] rfl
  have hD := hD.sub (ws' := [((g 0), .inr (5, [.int 0, .ref (g 1), .int (nI sv), .ref (g 2), .ref (g 3), .int (nI ln), .int (nI at9), .int (nI pl), .int va, .long hs])), ((g 1), .inl (y 0, 4023, .inl S))]) [1, 0] (by decide) rfl
  refine W.widen (k := 0) (n := 0) (by first | exact Nat.le_of_ble_eq_true rfl | omega) (by first | exact Nat.le_of_ble_eq_true rfl | omega) ?_
  exact W.iret (v := (qCt S (nI sv) w9)) hx hb hr (fun t ht hW => ⟨⟨qCt S (nI sv) w9, (), rfl, by first | rfl | trivial | simp_all, ⟨by rw [ht]; exact hP, hD⟩⟩, hS.F ht⟩) hS.2.2 dX5_count_31

set_option maxHeartbeats 4000000 in
set_option maxRecDepth 100000 in
theorem mX5_count_b1 (l : Launch) (D : va_G) (y : Nat → ClassId) (sz : Nat) (g : Nat → Nat) (th : Int32) (sv : Nat) (ln : Nat) (at9 : Nat) (pl : Nat) (va : Int32) (hs : Int64) (w9 : Int32) (hb1 : ¬ (¬ w9 < 0 ∧ ¬ 7 < w9)) : Met l yX5_count (ws_ yX5_count cX5_count 2 (some .int)) ({ frames := 1, cells := 0, slots := 0, locals := 22 }) (va_Pc [.ref (g 0), .int w9] (zRW D y [((g 0), .inr (5, [.int th, .ref (g 1), .int (nI sv), .ref (g 2), .ref (g 3), .int (nI ln), .int (nI at9), .int (nI pl), .int va, .long hs]))] sz)) (va_Qi (fun (r : Int32) (_ : Unit) => r = 0) (fun (_ : Unit) t => zOut D (va_A [((g 0), .inr (5, [.int th, .ref (g 1), .int (nI sv), .ref (g 2), .ref (g 3), .int (nI ln), .int (nI at9), .int (nI pl), .int va, .long hs]))] sz) [((g 0), .inr (5, [.int 1, .ref (g 1), .int (nI sv), .ref (g 2), .ref (g 3), .int (nI ln), .int (nI at9), .int (nI pl), .int va, .long hs]))] t) (va_A [((g 0), .inr (5, [.int th, .ref (g 1), .int (nI sv), .ref (g 2), .ref (g 3), .int (nI ln), .int (nI at9), .int (nI pl), .int va, .long hs]))] sz)) 0 0 (va_A [((g 0), .inr (5, [.int th, .ref (g 1), .int (nI sv), .ref (g 2), .ref (g 3), .int (nI ln), .int (nI at9), .int (nI pl), .int va, .long hs]))] sz) := by
  refine Met.ofW (cc := cX5_count) (maxL := 2) (ret := (some .int)) (by decide) rfl ?_
  intro p e s m args below meth c s₁ B hml hpre9
  obtain ⟨rfl, hsz, hP, hKN, hD0⟩ := hpre9
  have hK := hKN.1
  have hx := B.exec
  have hb := B.bytes
  have hr := B.returns
  have hts := atoms_spec (ws := (ws_ yX5_count cX5_count 2 (some .int))) B.pre
  have htg : ∀ w ∈ gT, w.before _ s = true := fun w h => hts w (List.mem_cons_of_mem _ h)
  have hown : s.vm.findClass RX5 = some m.cls := findClass_of_methodNamed B.named
  have hlocks := B.notSynchronized
  subst hsz
  have hD := hD0.self (sz := s.heap.size)
  clear hD0
  generalize hAe : va_A [((g 0), .inr (5, [.int th, .ref (g 1), .int (nI sv), .ref (g 2), .ref (g 3), .int (nI ln), .int (nI at9), .int (nI pl), .int va, .long hs]))] s.heap.size = A at hD ⊢
  have hA : ∀ q : Nat, s.heap.size ≤ q → A q := fun q h => by rw [← hAe]; exact Or.inr h
  have hS : va_S A s.heap s.heap [] := va_S.rf
  have hP : va_P D vwCl [((g 0), .inr (5, [.int th, .ref (g 1), .int (nI sv), .ref (g 2), .ref (g 3), .int (nI ln), .int (nI at9), .int (nI pl), .int va, .long hs]))] s.heap := hP
  have hl := lv_entry ([.ref (g 0), .int w9]) (n := 2) (Nat.le_of_ble_eq_true rfl)
  rw [lg_entry_eq]
  generalize (lg_sl ([.ref (g 0), .int w9]) ++ List.replicate (2 - (lg_sl ([.ref (g 0), .int w9])).length) Slot.unset).toArray = ls at hl ⊢
  have hl : lv_has ls 2 [(0, .ref (g 0)), (1, .int w9)] := hl
  refine lv_aload_n hx hb dX5_count_0 rfl (lv_at hl 0 rfl) ?_
  refine lv_iload_n hx hb dX5_count_1 rfl (lv_at hl 1 rfl) ?_
  refine lv_iconst (v := 0) hx hb dX5_count_2 (by decide) ?_
  refine lv_bipush (v := 7) hx hb dX5_count_3 (by decide) ?_
  refine zr_calli (va_runS (As := [.int w9, .int 0, .int 7]) (rest := [.ref (g 0)]) ⟨hx, hb, hml, hown, hts⟩ (mX5_in l w9 0 7) (va_cwS 3 hts (zgS tw_367 tw_368 tw_369 tw_364) rfl rfl rfl (by decide +kernel) ⟨Nat.le_of_ble_eq_true rfl, Nat.le_of_ble_eq_true rfl⟩) zP_pre rfl rfl hl.1 rfl (lv_room (Nat.le_of_ble_eq_true rfl)) dX5_count_5 ⟨Nat.zero_le _, Nat.zero_le _⟩) hS (fun r_1 H locs hw_5 hT hS => ?_)
  replace hP := hT _ _ hP
  obtain rfl : r_1 = (if ¬ w9 < 0 ∧ ¬ 7 < w9 then (1 : Int32) else 0) := hw_5
  refine lv_if_eq (tgt := 15) hx hb dX5_count_8 (by decide) (fun _ => ?_) (fun c_8 => absurd (zb0.mpr hb1) c_8)
  refine lv_iconst (v := 1) hx hb dX5_count_15 (by decide) ?_
  refine zw_calli (wr := []) (w1 := (fun _ : Unit => [((g 0), .inr (5, [.int 1, .ref (g 1), .int (nI sv), .ref (g 2), .ref (g 3), .int (nI ln), .int (nI at9), .int (nI pl), .int va, .long hs]))])) hP hD hS hA [0] [] rfl rfl (by decide +kernel) (by decide +kernel) (va_runV (As := [.int 1]) (rest := []) ⟨hx, hb, hml, hown, hts⟩ (mX5_holds l D y _ g th sv ln at9 pl va hs 1) (cwV 1 hts (zgV tw_431 tw_432 tw_433 tw_369 tw_365) rfl rfl rfl (by decide +kernel) ⟨Nat.le_of_ble_eq_true rfl, Nat.le_of_ble_eq_true rfl⟩) (zRW_preV hKN hP hD (ci := 5) (q0 := 0) rfl rfl [0] rfl (by decide)) rfl rfl hl.1 rfl (lv_room (Nat.le_of_ble_eq_true rfl)) dX5_count_16 ⟨Nat.zero_le _, Nat.zero_le _⟩) (fun r_2 u_3 H locs hw_16 hP hD hS => ?_)
  have hP : va_P D vwCl [((g 0), .inr (5, [.int 1, .ref (g 1), .int (nI sv), .ref (g 2), .ref (g 3), .int (nI ln), .int (nI at9), .int (nI pl), .int va, .long hs]))] H := hP
  have hD : va_D A [((g 0), .inr (5, [.int 1, .ref (g 1), .int (nI sv), .ref (g 2), .ref (g 3), .int (nI ln), .int (nI at9), .int (nI pl), .int va, .long hs]))] := hD
  obtain rfl : r_2 = 0 := hw_16
  refine lv_if_eq (tgt := 30) hx hb dX5_count_19 (by decide) (fun _ => ?_) (fun c_19 => absurd (by decide) c_19)
  refine lv_iconst (v := 0) hx hb dX5_count_30 (by decide) ?_
  refine W.widen (k := 0) (n := 0) (by first | exact Nat.le_of_ble_eq_true rfl | omega) (by first | exact Nat.le_of_ble_eq_true rfl | omega) ?_
  exact W.iret (v := 0) hx hb hr (fun t ht hW => ⟨⟨0, (), rfl, by first | rfl | trivial | simp_all, ⟨by rw [ht]; exact hP, hD⟩⟩, hS.F ht⟩) hS.2.2 dX5_count_31

set_option maxHeartbeats 4000000 in
set_option maxRecDepth 100000 in
theorem mX5_setting (l : Launch) (D : va_G) (y : Nat → ClassId) (sz : Nat) (g : Nat → Nat) (S : (Nat → Int32)) (th : Int32) (sv : Nat) (ln : Nat) (at9 : Nat) (pl : Nat) (va : Int32) (hs : Int64) (q : Nat) (hq : q < 3) : Met l yX5_setting (ws_ yX5_setting cX5_setting 2 (some .int)) ({ frames := 1, cells := 0, slots := 0, locals := 22 }) (va_Pc [.ref (g 0), .int (nI q)] (zRW D y [((g 0), .inr (5, [.int th, .ref (g 1), .int (nI sv), .ref (g 2), .ref (g 3), .int (nI ln), .int (nI at9), .int (nI pl), .int va, .long hs])), ((g 1), .inl (y 0, 4023, .inl S))] sz)) (va_Qi (fun (r : Int32) (_ : Unit) => r = S (6 + q)) (fun (_ : Unit) t => zOut D (va_A [((g 0), .inr (5, [.int th, .ref (g 1), .int (nI sv), .ref (g 2), .ref (g 3), .int (nI ln), .int (nI at9), .int (nI pl), .int va, .long hs])), ((g 1), .inl (y 0, 4023, .inl S))] sz) [((g 0), .inr (5, [.int 0, .ref (g 1), .int (nI sv), .ref (g 2), .ref (g 3), .int (nI ln), .int (nI at9), .int (nI pl), .int va, .long hs])), ((g 1), .inl (y 0, 4023, .inl S))] t) (va_A [((g 0), .inr (5, [.int th, .ref (g 1), .int (nI sv), .ref (g 2), .ref (g 3), .int (nI ln), .int (nI at9), .int (nI pl), .int va, .long hs])), ((g 1), .inl (y 0, 4023, .inl S))] sz)) 0 0 (va_A [((g 0), .inr (5, [.int th, .ref (g 1), .int (nI sv), .ref (g 2), .ref (g 3), .int (nI ln), .int (nI at9), .int (nI pl), .int va, .long hs])), ((g 1), .inl (y 0, 4023, .inl S))] sz) := by
  refine Met.ofW (cc := cX5_setting) (maxL := 2) (ret := (some .int)) (by decide) rfl ?_
  intro p e s m args below meth c s₁ B hml hpre9
  obtain ⟨rfl, hsz, hP, hKN, hD0⟩ := hpre9
  have hK := hKN.1
  have hx := B.exec
  have hb := B.bytes
  have hr := B.returns
  have hts := atoms_spec (ws := (ws_ yX5_setting cX5_setting 2 (some .int))) B.pre
  have htg : ∀ w ∈ gT, w.before _ s = true := fun w h => hts w (List.mem_cons_of_mem _ h)
  have hown : s.vm.findClass RX5 = some m.cls := findClass_of_methodNamed B.named
  have hlocks := B.notSynchronized
  subst hsz
  have hD := hD0.self (sz := s.heap.size)
  clear hD0
  generalize hAe : va_A [((g 0), .inr (5, [.int th, .ref (g 1), .int (nI sv), .ref (g 2), .ref (g 3), .int (nI ln), .int (nI at9), .int (nI pl), .int va, .long hs])), ((g 1), .inl (y 0, 4023, .inl S))] s.heap.size = A at hD ⊢
  have hA : ∀ q : Nat, s.heap.size ≤ q → A q := fun q h => by rw [← hAe]; exact Or.inr h
  have hS : va_S A s.heap s.heap [] := va_S.rf
  have hP : va_P D vwCl [((g 0), .inr (5, [.int th, .ref (g 1), .int (nI sv), .ref (g 2), .ref (g 3), .int (nI ln), .int (nI at9), .int (nI pl), .int va, .long hs])), ((g 1), .inl (y 0, 4023, .inl S))] s.heap := hP
  have hl := lv_entry ([.ref (g 0), .int (nI q)]) (n := 2) (Nat.le_of_ble_eq_true rfl)
  rw [lg_entry_eq]
  generalize (lg_sl ([.ref (g 0), .int (nI q)]) ++ List.replicate (2 - (lg_sl ([.ref (g 0), .int (nI q)])).length) Slot.unset).toArray = ls at hl ⊢
  have hl : lv_has ls 2 [(0, .ref (g 0)), (1, .int (nI q))] := hl
  refine lv_aload_n hx hb dX5_setting_0 rfl (lv_at hl 0 rfl) ?_
  refine lv_iload_n hx hb dX5_setting_1 rfl (lv_at hl 1 rfl) ?_
  refine lv_iconst (v := 0) hx hb dX5_setting_2 (by decide) ?_
  refine lv_iconst (v := 2) hx hb dX5_setting_3 (by decide) ?_
  refine zr_calli (va_runS (As := [.int (nI q), .int 0, .int 2]) (rest := [.ref (g 0)]) ⟨hx, hb, hml, hown, hts⟩ (mX5_in l (nI q) 0 2) (va_cwS 3 hts (zgS tw_367 tw_368 tw_369 tw_364) rfl rfl rfl (by decide +kernel) ⟨Nat.le_of_ble_eq_true rfl, Nat.le_of_ble_eq_true rfl⟩) zP_pre rfl rfl hl.1 rfl (lv_room (Nat.le_of_ble_eq_true rfl)) dX5_setting_4 ⟨Nat.zero_le _, Nat.zero_le _⟩) hS (fun r_1 H locs hw_4 hT hS => ?_)
  replace hP := hT _ _ hP
  obtain rfl : r_1 = (if ¬ (nI q) < 0 ∧ ¬ 2 < (nI q) then (1 : Int32) else 0) := hw_4
  refine lv_if_eq (tgt := 14) hx hb dX5_setting_7 (by decide) (fun c_7 => absurd c_7 (zb1.mpr ⟨nI_pos (n := q) (by omega), nI_nlt (a := 2) (b := q) (by omega) (by omega)⟩)) (fun _ => ?_)
  refine lv_iconst (v := 0) hx hb dX5_setting_10 (by decide) ?_
  refine lv_goto (tgt := 15) hx hb dX5_setting_11 (by decide) ?_
  refine zw_calli (wr := [((g 1), .inl (y 0, 4023, .inl S))]) (w1 := (fun _ : Unit => [((g 0), .inr (5, [.int 0, .ref (g 1), .int (nI sv), .ref (g 2), .ref (g 3), .int (nI ln), .int (nI at9), .int (nI pl), .int va, .long hs]))])) hP hD hS hA [0] [1] rfl rfl (by decide +kernel) (by decide +kernel) (va_runV (As := [.int 0]) (rest := []) ⟨hx, hb, hml, hown, hts⟩ (mX5_holds l D y _ g th sv ln at9 pl va hs 0) (cwV 1 hts (zgV tw_431 tw_432 tw_433 tw_369 tw_365) rfl rfl rfl (by decide +kernel) ⟨Nat.le_of_ble_eq_true rfl, Nat.le_of_ble_eq_true rfl⟩) (zRW_preV hKN hP hD (ci := 5) (q0 := 0) rfl rfl [0] rfl (by decide)) rfl rfl hl.1 rfl (lv_room (Nat.le_of_ble_eq_true rfl)) dX5_setting_15 ⟨Nat.zero_le _, Nat.zero_le _⟩) (fun r_2 u_3 H locs hw_15 hP hD hS => ?_)
  have hP : va_P D vwCl [((g 1), .inl (y 0, 4023, .inl S)), ((g 0), .inr (5, [.int 0, .ref (g 1), .int (nI sv), .ref (g 2), .ref (g 3), .int (nI ln), .int (nI at9), .int (nI pl), .int va, .long hs]))] H := hP
  have hD : va_D A [((g 1), .inl (y 0, 4023, .inl S)), ((g 0), .inr (5, [.int 0, .ref (g 1), .int (nI sv), .ref (g 2), .ref (g 3), .int (nI ln), .int (nI at9), .int (nI pl), .int va, .long hs]))] := hD
  obtain rfl : r_2 = 1 := hw_15
  refine lv_if_eq (tgt := 33) hx hb dX5_setting_18 (by decide) (fun c_18 => absurd c_18 (by decide)) (fun _ => ?_)
  refine lv_aload_n hx hb dX5_setting_21 rfl (lv_at hl 0 rfl) ?_
  refine va_get (D := D) (ci := 5) (v := .ref (g 1)) (C := RX5) (T := TX5) (N := 10) hx hb htg iX5 hown hK hP 1 rfl rfl 1 (by decide) (htg _ tw_359) (fun _ h9 => h9) rfl dX5_setting_22 ?_
  refine lv_bipush (v := 6) hx hb dX5_setting_25 (by decide) ?_
  refine lv_iload_n hx hb dX5_setting_27 rfl (lv_at hl 1 rfl) ?_
  refine lv_iadd hx hb dX5_setting_28 ?_
  refine zz_top (y := nI (6 + q)) (nI_add 6 q) ?_
  refine va_iald hx hb hK hP 0 0 rfl rfl (vp_in_nI (by omega) (by decide)) dX5_setting_29 ?_
  refine zz_top (y := S (6 + q)) (congrArg S (nI_clamp (by omega))) ?_
  refine lv_goto (tgt := 34) hx hb dX5_setting_30 (by decide) ?_
  have hP := hP.sub (ws' := [((g 0), .inr (5, [.int 0, .ref (g 1), .int (nI sv), .ref (g 2), .ref (g 3), .int (nI ln), .int (nI at9), .int (nI pl), .int va, .long hs])), ((g 1), .inl (y 0, 4023, .inl S))]) [1, 0] rfl
  have hD := hD.sub (ws' := [((g 0), .inr (5, [.int 0, .ref (g 1), .int (nI sv), .ref (g 2), .ref (g 3), .int (nI ln), .int (nI at9), .int (nI pl), .int va, .long hs])), ((g 1), .inl (y 0, 4023, .inl S))]) [1, 0] (by decide) rfl
  refine W.widen (k := 0) (n := 0) (by first | exact Nat.le_of_ble_eq_true rfl | omega) (by first | exact Nat.le_of_ble_eq_true rfl | omega) ?_
  exact W.iret (v := (S (6 + q))) hx hb hr (fun t ht hW => ⟨⟨S (6 + q), (), rfl, by first | rfl | trivial | simp_all, ⟨by rw [ht]; exact hP, hD⟩⟩, hS.F ht⟩) hS.2.2 dX5_setting_34

set_option maxHeartbeats 4000000 in
set_option maxRecDepth 100000 in
theorem mX5_setting_b1 (l : Launch) (D : va_G) (y : Nat → ClassId) (sz : Nat) (g : Nat → Nat) (th : Int32) (sv : Nat) (ln : Nat) (at9 : Nat) (pl : Nat) (va : Int32) (hs : Int64) (q : Int32) (hb1 : ¬ (¬ q < 0 ∧ ¬ 2 < q)) : Met l yX5_setting (ws_ yX5_setting cX5_setting 2 (some .int)) ({ frames := 1, cells := 0, slots := 0, locals := 22 }) (va_Pc [.ref (g 0), .int q] (zRW D y [((g 0), .inr (5, [.int th, .ref (g 1), .int (nI sv), .ref (g 2), .ref (g 3), .int (nI ln), .int (nI at9), .int (nI pl), .int va, .long hs]))] sz)) (va_Qi (fun (r : Int32) (_ : Unit) => r = 0) (fun (_ : Unit) t => zOut D (va_A [((g 0), .inr (5, [.int th, .ref (g 1), .int (nI sv), .ref (g 2), .ref (g 3), .int (nI ln), .int (nI at9), .int (nI pl), .int va, .long hs]))] sz) [((g 0), .inr (5, [.int 1, .ref (g 1), .int (nI sv), .ref (g 2), .ref (g 3), .int (nI ln), .int (nI at9), .int (nI pl), .int va, .long hs]))] t) (va_A [((g 0), .inr (5, [.int th, .ref (g 1), .int (nI sv), .ref (g 2), .ref (g 3), .int (nI ln), .int (nI at9), .int (nI pl), .int va, .long hs]))] sz)) 0 0 (va_A [((g 0), .inr (5, [.int th, .ref (g 1), .int (nI sv), .ref (g 2), .ref (g 3), .int (nI ln), .int (nI at9), .int (nI pl), .int va, .long hs]))] sz) := by
  refine Met.ofW (cc := cX5_setting) (maxL := 2) (ret := (some .int)) (by decide) rfl ?_
  intro p e s m args below meth c s₁ B hml hpre9
  obtain ⟨rfl, hsz, hP, hKN, hD0⟩ := hpre9
  have hK := hKN.1
  have hx := B.exec
  have hb := B.bytes
  have hr := B.returns
  have hts := atoms_spec (ws := (ws_ yX5_setting cX5_setting 2 (some .int))) B.pre
  have htg : ∀ w ∈ gT, w.before _ s = true := fun w h => hts w (List.mem_cons_of_mem _ h)
  have hown : s.vm.findClass RX5 = some m.cls := findClass_of_methodNamed B.named
  have hlocks := B.notSynchronized
  subst hsz
  have hD := hD0.self (sz := s.heap.size)
  clear hD0
  generalize hAe : va_A [((g 0), .inr (5, [.int th, .ref (g 1), .int (nI sv), .ref (g 2), .ref (g 3), .int (nI ln), .int (nI at9), .int (nI pl), .int va, .long hs]))] s.heap.size = A at hD ⊢
  have hA : ∀ q : Nat, s.heap.size ≤ q → A q := fun q h => by rw [← hAe]; exact Or.inr h
  have hS : va_S A s.heap s.heap [] := va_S.rf
  have hP : va_P D vwCl [((g 0), .inr (5, [.int th, .ref (g 1), .int (nI sv), .ref (g 2), .ref (g 3), .int (nI ln), .int (nI at9), .int (nI pl), .int va, .long hs]))] s.heap := hP
  have hl := lv_entry ([.ref (g 0), .int q]) (n := 2) (Nat.le_of_ble_eq_true rfl)
  rw [lg_entry_eq]
  generalize (lg_sl ([.ref (g 0), .int q]) ++ List.replicate (2 - (lg_sl ([.ref (g 0), .int q])).length) Slot.unset).toArray = ls at hl ⊢
  have hl : lv_has ls 2 [(0, .ref (g 0)), (1, .int q)] := hl
  refine lv_aload_n hx hb dX5_setting_0 rfl (lv_at hl 0 rfl) ?_
  refine lv_iload_n hx hb dX5_setting_1 rfl (lv_at hl 1 rfl) ?_
  refine lv_iconst (v := 0) hx hb dX5_setting_2 (by decide) ?_
  refine lv_iconst (v := 2) hx hb dX5_setting_3 (by decide) ?_
  refine zr_calli (va_runS (As := [.int q, .int 0, .int 2]) (rest := [.ref (g 0)]) ⟨hx, hb, hml, hown, hts⟩ (mX5_in l q 0 2) (va_cwS 3 hts (zgS tw_367 tw_368 tw_369 tw_364) rfl rfl rfl (by decide +kernel) ⟨Nat.le_of_ble_eq_true rfl, Nat.le_of_ble_eq_true rfl⟩) zP_pre rfl rfl hl.1 rfl (lv_room (Nat.le_of_ble_eq_true rfl)) dX5_setting_4 ⟨Nat.zero_le _, Nat.zero_le _⟩) hS (fun r_1 H locs hw_4 hT hS => ?_)
  replace hP := hT _ _ hP
  obtain rfl : r_1 = (if ¬ q < 0 ∧ ¬ 2 < q then (1 : Int32) else 0) := hw_4
  refine lv_if_eq (tgt := 14) hx hb dX5_setting_7 (by decide) (fun _ => ?_) (fun c_7 => absurd (zb0.mpr hb1) c_7)
  refine lv_iconst (v := 1) hx hb dX5_setting_14 (by decide) ?_
  refine zw_calli (wr := []) (w1 := (fun _ : Unit => [((g 0), .inr (5, [.int 1, .ref (g 1), .int (nI sv), .ref (g 2), .ref (g 3), .int (nI ln), .int (nI at9), .int (nI pl), .int va, .long hs]))])) hP hD hS hA [0] [] rfl rfl (by decide +kernel) (by decide +kernel) (va_runV (As := [.int 1]) (rest := []) ⟨hx, hb, hml, hown, hts⟩ (mX5_holds l D y _ g th sv ln at9 pl va hs 1) (cwV 1 hts (zgV tw_431 tw_432 tw_433 tw_369 tw_365) rfl rfl rfl (by decide +kernel) ⟨Nat.le_of_ble_eq_true rfl, Nat.le_of_ble_eq_true rfl⟩) (zRW_preV hKN hP hD (ci := 5) (q0 := 0) rfl rfl [0] rfl (by decide)) rfl rfl hl.1 rfl (lv_room (Nat.le_of_ble_eq_true rfl)) dX5_setting_15 ⟨Nat.zero_le _, Nat.zero_le _⟩) (fun r_2 u_3 H locs hw_15 hP hD hS => ?_)
  have hP : va_P D vwCl [((g 0), .inr (5, [.int 1, .ref (g 1), .int (nI sv), .ref (g 2), .ref (g 3), .int (nI ln), .int (nI at9), .int (nI pl), .int va, .long hs]))] H := hP
  have hD : va_D A [((g 0), .inr (5, [.int 1, .ref (g 1), .int (nI sv), .ref (g 2), .ref (g 3), .int (nI ln), .int (nI at9), .int (nI pl), .int va, .long hs]))] := hD
  obtain rfl : r_2 = 0 := hw_15
  refine lv_if_eq (tgt := 33) hx hb dX5_setting_18 (by decide) (fun _ => ?_) (fun c_18 => absurd (by decide) c_18)
  refine lv_iconst (v := 0) hx hb dX5_setting_33 (by decide) ?_
  refine W.widen (k := 0) (n := 0) (by first | exact Nat.le_of_ble_eq_true rfl | omega) (by first | exact Nat.le_of_ble_eq_true rfl | omega) ?_
  exact W.iret (v := 0) hx hb hr (fun t ht hW => ⟨⟨0, (), rfl, by first | rfl | trivial | simp_all, ⟨by rw [ht]; exact hP, hD⟩⟩, hS.F ht⟩) hS.2.2 dX5_setting_34

set_option maxHeartbeats 4000000 in
set_option maxRecDepth 100000 in
theorem mX5_moved (l : Launch) (D : va_G) (y : Nat → ClassId) (sz : Nat) (g : Nat → Nat) (S : (Nat → Int32)) (th : Int32) (sv : Nat) (ln : Nat) (at9 : Nat) (pl : Nat) (va : Int32) (hs : Int64) (n : Nat) (k1 : Nat) (k2 : Nat) (v : Nat) (o : Nat) (hS1 : S 1 = nI n) (hn6 : n ≤ 6) (hk0 : k1 < n) (hk1 : k2 < n) (hl9 : v < 16) (hq : o < 2) (hTu : hTq S) : Met l yX5_moved (ws_ yX5_moved cX5_moved 5 (some .int)) ({ frames := 9, cells := 0, slots := 0, locals := 224 }) (va_Pc [.ref (g 0), .int (nI k1), .int (nI k2), .int (nI v), .int (nI o)] (zRW D y [((g 0), .inr (5, [.int th, .ref (g 1), .int (nI sv), .ref (g 2), .ref (g 3), .int (nI ln), .int (nI at9), .int (nI pl), .int va, .long hs])), ((g 1), .inl (y 0, 4023, .inl S))] sz)) (va_Qi (fun (r : Int32) (_ : Unit) => r = qPl S k2 o (v + 1) - qPl S k1 o (v + 1)) (fun (_ : Unit) t => zOut D (va_A [((g 0), .inr (5, [.int th, .ref (g 1), .int (nI sv), .ref (g 2), .ref (g 3), .int (nI ln), .int (nI at9), .int (nI pl), .int va, .long hs])), ((g 1), .inl (y 0, 4023, .inl S))] sz) [((g 0), .inr (5, [.int 0, .ref (g 1), .int (nI sv), .ref (g 2), .ref (g 3), .int (nI ln), .int (nI at9), .int (nI pl), .int va, .long hs])), ((g 1), .inl (y 0, 4023, .inl S))] t) (va_A [((g 0), .inr (5, [.int th, .ref (g 1), .int (nI sv), .ref (g 2), .ref (g 3), .int (nI ln), .int (nI at9), .int (nI pl), .int va, .long hs])), ((g 1), .inl (y 0, 4023, .inl S))] sz)) 0 0 (va_A [((g 0), .inr (5, [.int th, .ref (g 1), .int (nI sv), .ref (g 2), .ref (g 3), .int (nI ln), .int (nI at9), .int (nI pl), .int va, .long hs])), ((g 1), .inl (y 0, 4023, .inl S))] sz) := by
  refine Met.ofW (cc := cX5_moved) (maxL := 5) (ret := (some .int)) (by decide) rfl ?_
  intro p e s m args below meth c s₁ B hml hpre9
  obtain ⟨rfl, hsz, hP, hKN, hD0⟩ := hpre9
  have hK := hKN.1
  have hx := B.exec
  have hb := B.bytes
  have hr := B.returns
  have hts := atoms_spec (ws := (ws_ yX5_moved cX5_moved 5 (some .int))) B.pre
  have htg : ∀ w ∈ gT, w.before _ s = true := fun w h => hts w (List.mem_cons_of_mem _ h)
  have hown : s.vm.findClass RX5 = some m.cls := findClass_of_methodNamed B.named
  have hlocks := B.notSynchronized
  subst hsz
  have hD := hD0.self (sz := s.heap.size)
  clear hD0
  generalize hAe : va_A [((g 0), .inr (5, [.int th, .ref (g 1), .int (nI sv), .ref (g 2), .ref (g 3), .int (nI ln), .int (nI at9), .int (nI pl), .int va, .long hs])), ((g 1), .inl (y 0, 4023, .inl S))] s.heap.size = A at hD ⊢
  have hA : ∀ q : Nat, s.heap.size ≤ q → A q := fun q h => by rw [← hAe]; exact Or.inr h
  have hS : va_S A s.heap s.heap [] := va_S.rf
  have hP : va_P D vwCl [((g 0), .inr (5, [.int th, .ref (g 1), .int (nI sv), .ref (g 2), .ref (g 3), .int (nI ln), .int (nI at9), .int (nI pl), .int va, .long hs])), ((g 1), .inl (y 0, 4023, .inl S))] s.heap := hP
  have hl := lv_entry ([.ref (g 0), .int (nI k1), .int (nI k2), .int (nI v), .int (nI o)]) (n := 5) (Nat.le_of_ble_eq_true rfl)
  rw [lg_entry_eq]
  generalize (lg_sl ([.ref (g 0), .int (nI k1), .int (nI k2), .int (nI v), .int (nI o)]) ++ List.replicate (5 - (lg_sl ([.ref (g 0), .int (nI k1), .int (nI k2), .int (nI v), .int (nI o)])).length) Slot.unset).toArray = ls at hl ⊢
  have hl : lv_has ls 5 [(0, .ref (g 0)), (1, .int (nI k1)), (2, .int (nI k2)), (3, .int (nI v)), (4, .int (nI o))] := hl
  refine lv_aload_n hx hb dX5_moved_0 rfl (lv_at hl 0 rfl) ?_
  refine lv_aload_n hx hb dX5_moved_1 rfl (lv_at hl 0 rfl) ?_
  refine lv_iload_n hx hb dX5_moved_2 rfl (lv_at hl 1 rfl) ?_
  refine lv_iload_n hx hb dX5_moved_3 rfl (lv_at hl 2 rfl) ?_
  refine lv_iload hx hb dX5_moved_4 (lv_at hl 4 rfl) ?_
  refine zr_calli (va_runV (As := [.int (nI k1), .int (nI k2), .int (nI o)]) (rest := [.ref (g 0)]) ⟨hx, hb, hml, hown, hts⟩ (mX5_arePair l D y g S th sv ln at9 pl va hs (nI k1) (nI k2) (nI o)) (cwV 3 hts (zgV tw_522 tw_523 tw_524 tw_369 tw_519) rfl rfl rfl (by decide +kernel) ⟨Nat.le_of_ble_eq_true rfl, Nat.le_of_ble_eq_true rfl⟩) (zRO_preV hKN hP (ci := 5) (q0 := 0) rfl rfl [0, 1] rfl) rfl rfl hl.1 rfl (lv_room (Nat.le_of_ble_eq_true rfl)) dX5_moved_6 ⟨Nat.zero_le _, Nat.zero_le _⟩) hS (fun r_1 H locs hw_6 hT hS => ?_)
  replace hP := hT _ _ hP
  obtain rfl : r_1 = (if (¬ (nI k1) < 0 ∧ ¬ (S 1 - 1) < (nI k1)) ∧ (¬ (nI k2) < 0 ∧ ¬ (S 1 - 1) < (nI k2)) ∧ (¬ (nI o) < 0 ∧ ¬ 1 < (nI o)) then (1 : Int32) else 0) := hw_6
  refine lv_if_eq (tgt := 23) hx hb dX5_moved_9 (by decide) (fun c_9 => absurd c_9 (zb1.mpr ⟨⟨nI_pos (n := k1) (by omega), zsu hS1 (by omega) hn6⟩, ⟨nI_pos (n := k2) (by omega), zsu hS1 (by omega) hn6⟩, ⟨nI_pos (n := o) (by omega), nI_nlt (a := 1) (b := o) (by omega) (by omega)⟩⟩)) (fun _ => ?_)
  refine lv_iload_n hx hb dX5_moved_12 rfl (lv_at hl 3 rfl) ?_
  refine zr_calli (va_runS (As := [.int (nI v)]) (rest := [.ref (g 0)]) ⟨hx, hb, hml, hown, hts⟩ (mX5_isLevel l (nI v)) (va_cwS 1 hts (zgS tw_427 tw_428 tw_369 tw_366) rfl rfl rfl (by decide +kernel) ⟨Nat.le_of_ble_eq_true rfl, Nat.le_of_ble_eq_true rfl⟩) zP_pre rfl rfl hl.1 rfl (lv_room (Nat.le_of_ble_eq_true rfl)) dX5_moved_13 ⟨Nat.zero_le _, Nat.zero_le _⟩) hS (fun r_2 H locs hw_13 hT hS => ?_)
  replace hP := hT _ _ hP
  obtain rfl : r_2 = (if ¬ (nI v) < 0 ∧ ¬ 15 < (nI v) then (1 : Int32) else 0) := hw_13
  refine lv_if_eq (tgt := 23) hx hb dX5_moved_16 (by decide) (fun c_16 => absurd c_16 (zb1.mpr ⟨nI_pos (n := v) (by omega), nI_nlt (a := 15) (b := v) (by omega) (by omega)⟩)) (fun _ => ?_)
  refine lv_iconst (v := 0) hx hb dX5_moved_19 (by decide) ?_
  refine lv_goto (tgt := 24) hx hb dX5_moved_20 (by decide) ?_
  refine zw_calli (wr := [((g 1), .inl (y 0, 4023, .inl S))]) (w1 := (fun _ : Unit => [((g 0), .inr (5, [.int 0, .ref (g 1), .int (nI sv), .ref (g 2), .ref (g 3), .int (nI ln), .int (nI at9), .int (nI pl), .int va, .long hs]))])) hP hD hS hA [0] [1] rfl rfl (by decide +kernel) (by decide +kernel) (va_runV (As := [.int 0]) (rest := []) ⟨hx, hb, hml, hown, hts⟩ (mX5_holds l D y _ g th sv ln at9 pl va hs 0) (cwV 1 hts (zgV tw_431 tw_432 tw_433 tw_369 tw_365) rfl rfl rfl (by decide +kernel) ⟨Nat.le_of_ble_eq_true rfl, Nat.le_of_ble_eq_true rfl⟩) (zRW_preV hKN hP hD (ci := 5) (q0 := 0) rfl rfl [0] rfl (by decide)) rfl rfl hl.1 rfl (lv_room (Nat.le_of_ble_eq_true rfl)) dX5_moved_24 ⟨Nat.zero_le _, Nat.zero_le _⟩) (fun r_3 u_4 H locs hw_24 hP hD hS => ?_)
  have hP : va_P D vwCl [((g 1), .inl (y 0, 4023, .inl S)), ((g 0), .inr (5, [.int 0, .ref (g 1), .int (nI sv), .ref (g 2), .ref (g 3), .int (nI ln), .int (nI at9), .int (nI pl), .int va, .long hs]))] H := hP
  have hD : va_D A [((g 1), .inl (y 0, 4023, .inl S)), ((g 0), .inr (5, [.int 0, .ref (g 1), .int (nI sv), .ref (g 2), .ref (g 3), .int (nI ln), .int (nI at9), .int (nI pl), .int va, .long hs]))] := hD
  obtain rfl : r_3 = 1 := hw_24
  refine lv_if_eq (tgt := 42) hx hb dX5_moved_27 (by decide) (fun c_27 => absurd c_27 (by decide)) (fun _ => ?_)
  refine lv_aload_n hx hb dX5_moved_30 rfl (lv_at hl 0 rfl) ?_
  refine lv_iload_n hx hb dX5_moved_31 rfl (lv_at hl 1 rfl) ?_
  refine lv_iload_n hx hb dX5_moved_32 rfl (lv_at hl 2 rfl) ?_
  refine lv_iload_n hx hb dX5_moved_33 rfl (lv_at hl 3 rfl) ?_
  refine lv_iload hx hb dX5_moved_34 (lv_at hl 4 rfl) ?_
  refine zr_calli (va_runV (As := [.int (nI k1), .int (nI k2), .int (nI v), .int (nI o)]) (rest := []) ⟨hx, hb, hml, hown, hts⟩ (mX5_movedBy l D y g S 0 sv ln at9 pl va hs k1 k2 v o (by first | assumption | rfl | omega | decide) (by first | assumption | rfl | omega | decide) (by first | assumption | rfl | omega | decide) (by first | assumption | rfl | omega | decide) (by first | assumption | rfl | omega | decide)) (cwV 4 hts (zgV tw_525 tw_526 tw_527 tw_369 tw_520) rfl rfl rfl (by decide +kernel) ⟨Nat.le_of_ble_eq_true rfl, Nat.le_of_ble_eq_true rfl⟩) (zRO_preV hKN hP (ci := 5) (q0 := 1) rfl rfl [1, 0] rfl) rfl rfl hl.1 rfl (lv_room (Nat.le_of_ble_eq_true rfl)) dX5_moved_36 ⟨Nat.zero_le _, Nat.zero_le _⟩) hS (fun r_5 H locs hw_36 hT hS => ?_)
  replace hP := hT _ _ hP
  obtain rfl : r_5 = qPl S k2 o (v + 1) - qPl S k1 o (v + 1) := hw_36
  refine lv_goto (tgt := 43) hx hb dX5_moved_39 (by decide) ?_
  have hP := hP.sub (ws' := [((g 0), .inr (5, [.int 0, .ref (g 1), .int (nI sv), .ref (g 2), .ref (g 3), .int (nI ln), .int (nI at9), .int (nI pl), .int va, .long hs])), ((g 1), .inl (y 0, 4023, .inl S))]) [1, 0] rfl
  have hD := hD.sub (ws' := [((g 0), .inr (5, [.int 0, .ref (g 1), .int (nI sv), .ref (g 2), .ref (g 3), .int (nI ln), .int (nI at9), .int (nI pl), .int va, .long hs])), ((g 1), .inl (y 0, 4023, .inl S))]) [1, 0] (by decide) rfl
  refine W.widen (k := 0) (n := 0) (by first | exact Nat.le_of_ble_eq_true rfl | omega) (by first | exact Nat.le_of_ble_eq_true rfl | omega) ?_
  exact W.iret (v := (qPl S k2 o (v + 1) - qPl S k1 o (v + 1))) hx hb hr (fun t ht hW => ⟨⟨qPl S k2 o (v + 1) - qPl S k1 o (v + 1), (), rfl, by first | rfl | trivial | simp_all, ⟨by rw [ht]; exact hP, hD⟩⟩, hS.F ht⟩) hS.2.2 dX5_moved_43

set_option maxHeartbeats 4000000 in
set_option maxRecDepth 100000 in
theorem mX5_moved_b1 (l : Launch) (D : va_G) (y : Nat → ClassId) (sz : Nat) (g : Nat → Nat) (S : (Nat → Int32)) (th : Int32) (sv : Nat) (ln : Nat) (at9 : Nat) (pl : Nat) (va : Int32) (hs : Int64) (k1 : Int32) (k2 : Int32) (v : Int32) (o : Int32) (hb1 : ¬ (((¬ k1 < 0 ∧ ¬ (S 1 - 1) < k1) ∧ (¬ k2 < 0 ∧ ¬ (S 1 - 1) < k2) ∧ (¬ o < 0 ∧ ¬ 1 < o)) ∧ (¬ v < 0 ∧ ¬ 15 < v))) : Met l yX5_moved (ws_ yX5_moved cX5_moved 5 (some .int)) ({ frames := 3, cells := 0, slots := 0, locals := 66 }) (va_Pc [.ref (g 0), .int k1, .int k2, .int v, .int o] (zRW D y [((g 0), .inr (5, [.int th, .ref (g 1), .int (nI sv), .ref (g 2), .ref (g 3), .int (nI ln), .int (nI at9), .int (nI pl), .int va, .long hs])), ((g 1), .inl (y 0, 4023, .inl S))] sz)) (va_Qi (fun (r : Int32) (_ : Unit) => r = 0) (fun (_ : Unit) t => zOut D (va_A [((g 0), .inr (5, [.int th, .ref (g 1), .int (nI sv), .ref (g 2), .ref (g 3), .int (nI ln), .int (nI at9), .int (nI pl), .int va, .long hs])), ((g 1), .inl (y 0, 4023, .inl S))] sz) [((g 0), .inr (5, [.int 1, .ref (g 1), .int (nI sv), .ref (g 2), .ref (g 3), .int (nI ln), .int (nI at9), .int (nI pl), .int va, .long hs])), ((g 1), .inl (y 0, 4023, .inl S))] t) (va_A [((g 0), .inr (5, [.int th, .ref (g 1), .int (nI sv), .ref (g 2), .ref (g 3), .int (nI ln), .int (nI at9), .int (nI pl), .int va, .long hs])), ((g 1), .inl (y 0, 4023, .inl S))] sz)) 0 0 (va_A [((g 0), .inr (5, [.int th, .ref (g 1), .int (nI sv), .ref (g 2), .ref (g 3), .int (nI ln), .int (nI at9), .int (nI pl), .int va, .long hs])), ((g 1), .inl (y 0, 4023, .inl S))] sz) := by
  refine Met.ofW (cc := cX5_moved) (maxL := 5) (ret := (some .int)) (by decide) rfl ?_
  intro p e s m args below meth c s₁ B hml hpre9
  obtain ⟨rfl, hsz, hP, hKN, hD0⟩ := hpre9
  have hK := hKN.1
  have hx := B.exec
  have hb := B.bytes
  have hr := B.returns
  have hts := atoms_spec (ws := (ws_ yX5_moved cX5_moved 5 (some .int))) B.pre
  have htg : ∀ w ∈ gT, w.before _ s = true := fun w h => hts w (List.mem_cons_of_mem _ h)
  have hown : s.vm.findClass RX5 = some m.cls := findClass_of_methodNamed B.named
  have hlocks := B.notSynchronized
  subst hsz
  have hD := hD0.self (sz := s.heap.size)
  clear hD0
  generalize hAe : va_A [((g 0), .inr (5, [.int th, .ref (g 1), .int (nI sv), .ref (g 2), .ref (g 3), .int (nI ln), .int (nI at9), .int (nI pl), .int va, .long hs])), ((g 1), .inl (y 0, 4023, .inl S))] s.heap.size = A at hD ⊢
  have hA : ∀ q : Nat, s.heap.size ≤ q → A q := fun q h => by rw [← hAe]; exact Or.inr h
  have hS : va_S A s.heap s.heap [] := va_S.rf
  have hP : va_P D vwCl [((g 0), .inr (5, [.int th, .ref (g 1), .int (nI sv), .ref (g 2), .ref (g 3), .int (nI ln), .int (nI at9), .int (nI pl), .int va, .long hs])), ((g 1), .inl (y 0, 4023, .inl S))] s.heap := hP
  have hl := lv_entry ([.ref (g 0), .int k1, .int k2, .int v, .int o]) (n := 5) (Nat.le_of_ble_eq_true rfl)
  rw [lg_entry_eq]
  generalize (lg_sl ([.ref (g 0), .int k1, .int k2, .int v, .int o]) ++ List.replicate (5 - (lg_sl ([.ref (g 0), .int k1, .int k2, .int v, .int o])).length) Slot.unset).toArray = ls at hl ⊢
  have hl : lv_has ls 5 [(0, .ref (g 0)), (1, .int k1), (2, .int k2), (3, .int v), (4, .int o)] := hl
  refine lv_aload_n hx hb dX5_moved_0 rfl (lv_at hl 0 rfl) ?_
  refine lv_aload_n hx hb dX5_moved_1 rfl (lv_at hl 0 rfl) ?_
  refine lv_iload_n hx hb dX5_moved_2 rfl (lv_at hl 1 rfl) ?_
  refine lv_iload_n hx hb dX5_moved_3 rfl (lv_at hl 2 rfl) ?_
  refine lv_iload hx hb dX5_moved_4 (lv_at hl 4 rfl) ?_
  refine zr_calli (va_runV (As := [.int k1, .int k2, .int o]) (rest := [.ref (g 0)]) ⟨hx, hb, hml, hown, hts⟩ (mX5_arePair l D y g S th sv ln at9 pl va hs k1 k2 o) (cwV 3 hts (zgV tw_522 tw_523 tw_524 tw_369 tw_519) rfl rfl rfl (by decide +kernel) ⟨Nat.le_of_ble_eq_true rfl, Nat.le_of_ble_eq_true rfl⟩) (zRO_preV hKN hP (ci := 5) (q0 := 0) rfl rfl [0, 1] rfl) rfl rfl hl.1 rfl (lv_room (Nat.le_of_ble_eq_true rfl)) dX5_moved_6 ⟨Nat.zero_le _, Nat.zero_le _⟩) hS (fun r_1 H locs hw_6 hT hS => ?_)
  replace hP := hT _ _ hP
  obtain rfl : r_1 = (if (¬ k1 < 0 ∧ ¬ (S 1 - 1) < k1) ∧ (¬ k2 < 0 ∧ ¬ (S 1 - 1) < k2) ∧ (¬ o < 0 ∧ ¬ 1 < o) then (1 : Int32) else 0) := hw_6
  refine lv_if_eq (tgt := 23) hx hb dX5_moved_9 (by decide) (fun c_9 => ?_) (fun c_9 => ?_)
  · replace c_9 := zb0.mp c_9
    refine lv_iconst (v := 1) hx hb dX5_moved_23 (by decide) ?_
    refine zw_calli (wr := [((g 1), .inl (y 0, 4023, .inl S))]) (w1 := (fun _ : Unit => [((g 0), .inr (5, [.int 1, .ref (g 1), .int (nI sv), .ref (g 2), .ref (g 3), .int (nI ln), .int (nI at9), .int (nI pl), .int va, .long hs]))])) hP hD hS hA [0] [1] rfl rfl (by decide +kernel) (by decide +kernel) (va_runV (As := [.int 1]) (rest := []) ⟨hx, hb, hml, hown, hts⟩ (mX5_holds l D y _ g th sv ln at9 pl va hs 1) (cwV 1 hts (zgV tw_431 tw_432 tw_433 tw_369 tw_365) rfl rfl rfl (by decide +kernel) ⟨Nat.le_of_ble_eq_true rfl, Nat.le_of_ble_eq_true rfl⟩) (zRW_preV hKN hP hD (ci := 5) (q0 := 0) rfl rfl [0] rfl (by decide)) rfl rfl hl.1 rfl (lv_room (Nat.le_of_ble_eq_true rfl)) dX5_moved_24 ⟨Nat.zero_le _, Nat.zero_le _⟩) (fun r_2 u_3 H locs hw_24 hP hD hS => ?_)
    have hP : va_P D vwCl [((g 1), .inl (y 0, 4023, .inl S)), ((g 0), .inr (5, [.int 1, .ref (g 1), .int (nI sv), .ref (g 2), .ref (g 3), .int (nI ln), .int (nI at9), .int (nI pl), .int va, .long hs]))] H := hP
    have hD : va_D A [((g 1), .inl (y 0, 4023, .inl S)), ((g 0), .inr (5, [.int 1, .ref (g 1), .int (nI sv), .ref (g 2), .ref (g 3), .int (nI ln), .int (nI at9), .int (nI pl), .int va, .long hs]))] := hD
    obtain rfl : r_2 = 0 := hw_24
    refine lv_if_eq (tgt := 42) hx hb dX5_moved_27 (by decide) (fun _ => ?_) (fun c_27 => absurd (by decide) c_27)
    refine lv_iconst (v := 0) hx hb dX5_moved_42 (by decide) ?_
    have hP := hP.sub (ws' := [((g 0), .inr (5, [.int 1, .ref (g 1), .int (nI sv), .ref (g 2), .ref (g 3), .int (nI ln), .int (nI at9), .int (nI pl), .int va, .long hs])), ((g 1), .inl (y 0, 4023, .inl S))]) [1, 0] rfl
    have hD := hD.sub (ws' := [((g 0), .inr (5, [.int 1, .ref (g 1), .int (nI sv), .ref (g 2), .ref (g 3), .int (nI ln), .int (nI at9), .int (nI pl), .int va, .long hs])), ((g 1), .inl (y 0, 4023, .inl S))]) [1, 0] (by decide) rfl
    refine W.widen (k := 0) (n := 0) (by first | exact Nat.le_of_ble_eq_true rfl | omega) (by first | exact Nat.le_of_ble_eq_true rfl | omega) ?_
    exact W.iret (v := 0) hx hb hr (fun t ht hW => ⟨⟨0, (), rfl, by first | rfl | trivial | simp_all, ⟨by rw [ht]; exact hP, hD⟩⟩, hS.F ht⟩) hS.2.2 dX5_moved_43
  · replace c_9 := zb1.mp c_9
    refine lv_iload_n hx hb dX5_moved_12 rfl (lv_at hl 3 rfl) ?_
    refine zr_calli (va_runS (As := [.int v]) (rest := [.ref (g 0)]) ⟨hx, hb, hml, hown, hts⟩ (mX5_isLevel l v) (va_cwS 1 hts (zgS tw_427 tw_428 tw_369 tw_366) rfl rfl rfl (by decide +kernel) ⟨Nat.le_of_ble_eq_true rfl, Nat.le_of_ble_eq_true rfl⟩) zP_pre rfl rfl hl.1 rfl (lv_room (Nat.le_of_ble_eq_true rfl)) dX5_moved_13 ⟨Nat.zero_le _, Nat.zero_le _⟩) hS (fun r_4 H locs hw_13 hT hS => ?_)
    replace hP := hT _ _ hP
    obtain rfl : r_4 = (if ¬ v < 0 ∧ ¬ 15 < v then (1 : Int32) else 0) := hw_13
    refine lv_if_eq (tgt := 23) hx hb dX5_moved_16 (by decide) (fun c_16 => ?_) (fun c_16 => ?_)
    · replace c_16 := zb0.mp c_16
      refine lv_iconst (v := 1) hx hb dX5_moved_23 (by decide) ?_
      refine zw_calli (wr := [((g 1), .inl (y 0, 4023, .inl S))]) (w1 := (fun _ : Unit => [((g 0), .inr (5, [.int 1, .ref (g 1), .int (nI sv), .ref (g 2), .ref (g 3), .int (nI ln), .int (nI at9), .int (nI pl), .int va, .long hs]))])) hP hD hS hA [0] [1] rfl rfl (by decide +kernel) (by decide +kernel) (va_runV (As := [.int 1]) (rest := []) ⟨hx, hb, hml, hown, hts⟩ (mX5_holds l D y _ g th sv ln at9 pl va hs 1) (cwV 1 hts (zgV tw_431 tw_432 tw_433 tw_369 tw_365) rfl rfl rfl (by decide +kernel) ⟨Nat.le_of_ble_eq_true rfl, Nat.le_of_ble_eq_true rfl⟩) (zRW_preV hKN hP hD (ci := 5) (q0 := 0) rfl rfl [0] rfl (by decide)) rfl rfl hl.1 rfl (lv_room (Nat.le_of_ble_eq_true rfl)) dX5_moved_24 ⟨Nat.zero_le _, Nat.zero_le _⟩) (fun r_5 u_6 H locs hw_24 hP hD hS => ?_)
      have hP : va_P D vwCl [((g 1), .inl (y 0, 4023, .inl S)), ((g 0), .inr (5, [.int 1, .ref (g 1), .int (nI sv), .ref (g 2), .ref (g 3), .int (nI ln), .int (nI at9), .int (nI pl), .int va, .long hs]))] H := hP
      have hD : va_D A [((g 1), .inl (y 0, 4023, .inl S)), ((g 0), .inr (5, [.int 1, .ref (g 1), .int (nI sv), .ref (g 2), .ref (g 3), .int (nI ln), .int (nI at9), .int (nI pl), .int va, .long hs]))] := hD
      obtain rfl : r_5 = 0 := hw_24
      refine lv_if_eq (tgt := 42) hx hb dX5_moved_27 (by decide) (fun _ => ?_) (fun c_27 => absurd (by decide) c_27)
      refine lv_iconst (v := 0) hx hb dX5_moved_42 (by decide) ?_
      have hP := hP.sub (ws' := [((g 0), .inr (5, [.int 1, .ref (g 1), .int (nI sv), .ref (g 2), .ref (g 3), .int (nI ln), .int (nI at9), .int (nI pl), .int va, .long hs])), ((g 1), .inl (y 0, 4023, .inl S))]) [1, 0] rfl
      have hD := hD.sub (ws' := [((g 0), .inr (5, [.int 1, .ref (g 1), .int (nI sv), .ref (g 2), .ref (g 3), .int (nI ln), .int (nI at9), .int (nI pl), .int va, .long hs])), ((g 1), .inl (y 0, 4023, .inl S))]) [1, 0] (by decide) rfl
      refine W.widen (k := 0) (n := 0) (by first | exact Nat.le_of_ble_eq_true rfl | omega) (by first | exact Nat.le_of_ble_eq_true rfl | omega) ?_
      exact W.iret (v := 0) hx hb hr (fun t ht hW => ⟨⟨0, (), rfl, by first | rfl | trivial | simp_all, ⟨by rw [ht]; exact hP, hD⟩⟩, hS.F ht⟩) hS.2.2 dX5_moved_43
    · replace c_16 := zb1.mp c_16
      exact absurd ⟨c_9, c_16⟩ hb1

set_option maxHeartbeats 4000000 in
set_option maxRecDepth 100000 in
theorem mX5_slidesAt (l : Launch) (D : va_G) (y : Nat → ClassId) (sz : Nat) (g : Nat → Nat) (S : (Nat → Int32)) (th : Int32) (sv : Nat) (ln : Nat) (at9 : Nat) (pl : Nat) (va : Int32) (hs : Int64) (n : Nat) (k1 : Nat) (k2 : Nat) (o : Nat) (hS1 : S 1 = nI n) (hn6 : n ≤ 6) (hk0 : k1 < n) (hk1 : k2 < n) (hq : o < 2) (hTu : hTq S) : Met l yX5_slidesAt (ws_ yX5_slidesAt cX5_slidesAt 4 (some .int)) ({ frames := 8, cells := 0, slots := 0, locals := 202 }) (va_Pc [.ref (g 0), .int (nI k1), .int (nI k2), .int (nI o)] (zRW D y [((g 0), .inr (5, [.int th, .ref (g 1), .int (nI sv), .ref (g 2), .ref (g 3), .int (nI ln), .int (nI at9), .int (nI pl), .int va, .long hs])), ((g 1), .inl (y 0, 4023, .inl S))] sz)) (va_Qi (fun (r : Int32) (_ : Unit) => r = (qSl S k1 k2 o 16).1) (fun (_ : Unit) t => zOut D (va_A [((g 0), .inr (5, [.int th, .ref (g 1), .int (nI sv), .ref (g 2), .ref (g 3), .int (nI ln), .int (nI at9), .int (nI pl), .int va, .long hs])), ((g 1), .inl (y 0, 4023, .inl S))] sz) [((g 0), .inr (5, [.int 0, .ref (g 1), .int (nI sv), .ref (g 2), .ref (g 3), .int (nI ln), .int (nI at9), .int (nI pl), .int va, .long hs])), ((g 1), .inl (y 0, 4023, .inl S))] t) (va_A [((g 0), .inr (5, [.int th, .ref (g 1), .int (nI sv), .ref (g 2), .ref (g 3), .int (nI ln), .int (nI at9), .int (nI pl), .int va, .long hs])), ((g 1), .inl (y 0, 4023, .inl S))] sz)) 0 0 (va_A [((g 0), .inr (5, [.int th, .ref (g 1), .int (nI sv), .ref (g 2), .ref (g 3), .int (nI ln), .int (nI at9), .int (nI pl), .int va, .long hs])), ((g 1), .inl (y 0, 4023, .inl S))] sz) := by
  refine Met.ofW (cc := cX5_slidesAt) (maxL := 4) (ret := (some .int)) (by decide) rfl ?_
  intro p e s m args below meth c s₁ B hml hpre9
  obtain ⟨rfl, hsz, hP, hKN, hD0⟩ := hpre9
  have hK := hKN.1
  have hx := B.exec
  have hb := B.bytes
  have hr := B.returns
  have hts := atoms_spec (ws := (ws_ yX5_slidesAt cX5_slidesAt 4 (some .int))) B.pre
  have htg : ∀ w ∈ gT, w.before _ s = true := fun w h => hts w (List.mem_cons_of_mem _ h)
  have hown : s.vm.findClass RX5 = some m.cls := findClass_of_methodNamed B.named
  have hlocks := B.notSynchronized
  subst hsz
  have hD := hD0.self (sz := s.heap.size)
  clear hD0
  generalize hAe : va_A [((g 0), .inr (5, [.int th, .ref (g 1), .int (nI sv), .ref (g 2), .ref (g 3), .int (nI ln), .int (nI at9), .int (nI pl), .int va, .long hs])), ((g 1), .inl (y 0, 4023, .inl S))] s.heap.size = A at hD ⊢
  have hA : ∀ q : Nat, s.heap.size ≤ q → A q := fun q h => by rw [← hAe]; exact Or.inr h
  have hS : va_S A s.heap s.heap [] := va_S.rf
  have hP : va_P D vwCl [((g 0), .inr (5, [.int th, .ref (g 1), .int (nI sv), .ref (g 2), .ref (g 3), .int (nI ln), .int (nI at9), .int (nI pl), .int va, .long hs])), ((g 1), .inl (y 0, 4023, .inl S))] s.heap := hP
  have hl := lv_entry ([.ref (g 0), .int (nI k1), .int (nI k2), .int (nI o)]) (n := 4) (Nat.le_of_ble_eq_true rfl)
  rw [lg_entry_eq]
  generalize (lg_sl ([.ref (g 0), .int (nI k1), .int (nI k2), .int (nI o)]) ++ List.replicate (4 - (lg_sl ([.ref (g 0), .int (nI k1), .int (nI k2), .int (nI o)])).length) Slot.unset).toArray = ls at hl ⊢
  have hl : lv_has ls 4 [(0, .ref (g 0)), (1, .int (nI k1)), (2, .int (nI k2)), (3, .int (nI o))] := hl
  refine lv_aload_n hx hb dX5_slidesAt_0 rfl (lv_at hl 0 rfl) ?_
  refine lv_aload_n hx hb dX5_slidesAt_1 rfl (lv_at hl 0 rfl) ?_
  refine lv_iload_n hx hb dX5_slidesAt_2 rfl (lv_at hl 1 rfl) ?_
  refine lv_iload_n hx hb dX5_slidesAt_3 rfl (lv_at hl 2 rfl) ?_
  refine lv_iload_n hx hb dX5_slidesAt_4 rfl (lv_at hl 3 rfl) ?_
  refine zr_calli (va_runV (As := [.int (nI k1), .int (nI k2), .int (nI o)]) (rest := [.ref (g 0)]) ⟨hx, hb, hml, hown, hts⟩ (mX5_arePair l D y g S th sv ln at9 pl va hs (nI k1) (nI k2) (nI o)) (cwV 3 hts (zgV tw_522 tw_523 tw_524 tw_369 tw_519) rfl rfl rfl (by decide +kernel) ⟨Nat.le_of_ble_eq_true rfl, Nat.le_of_ble_eq_true rfl⟩) (zRO_preV hKN hP (ci := 5) (q0 := 0) rfl rfl [0, 1] rfl) rfl rfl hl.1 rfl (lv_room (Nat.le_of_ble_eq_true rfl)) dX5_slidesAt_5 ⟨Nat.zero_le _, Nat.zero_le _⟩) hS (fun r_1 H locs hw_5 hT hS => ?_)
  replace hP := hT _ _ hP
  obtain rfl : r_1 = (if (¬ (nI k1) < 0 ∧ ¬ (S 1 - 1) < (nI k1)) ∧ (¬ (nI k2) < 0 ∧ ¬ (S 1 - 1) < (nI k2)) ∧ (¬ (nI o) < 0 ∧ ¬ 1 < (nI o)) then (1 : Int32) else 0) := hw_5
  refine lv_if_eq (tgt := 15) hx hb dX5_slidesAt_8 (by decide) (fun c_8 => absurd c_8 (zb1.mpr ⟨⟨nI_pos (n := k1) (by omega), zsu hS1 (by omega) hn6⟩, ⟨nI_pos (n := k2) (by omega), zsu hS1 (by omega) hn6⟩, ⟨nI_pos (n := o) (by omega), nI_nlt (a := 1) (b := o) (by omega) (by omega)⟩⟩)) (fun _ => ?_)
  refine lv_iconst (v := 0) hx hb dX5_slidesAt_11 (by decide) ?_
  refine lv_goto (tgt := 16) hx hb dX5_slidesAt_12 (by decide) ?_
  refine zw_calli (wr := [((g 1), .inl (y 0, 4023, .inl S))]) (w1 := (fun _ : Unit => [((g 0), .inr (5, [.int 0, .ref (g 1), .int (nI sv), .ref (g 2), .ref (g 3), .int (nI ln), .int (nI at9), .int (nI pl), .int va, .long hs]))])) hP hD hS hA [0] [1] rfl rfl (by decide +kernel) (by decide +kernel) (va_runV (As := [.int 0]) (rest := []) ⟨hx, hb, hml, hown, hts⟩ (mX5_holds l D y _ g th sv ln at9 pl va hs 0) (cwV 1 hts (zgV tw_431 tw_432 tw_433 tw_369 tw_365) rfl rfl rfl (by decide +kernel) ⟨Nat.le_of_ble_eq_true rfl, Nat.le_of_ble_eq_true rfl⟩) (zRW_preV hKN hP hD (ci := 5) (q0 := 0) rfl rfl [0] rfl (by decide)) rfl rfl hl.1 rfl (lv_room (Nat.le_of_ble_eq_true rfl)) dX5_slidesAt_16 ⟨Nat.zero_le _, Nat.zero_le _⟩) (fun r_2 u_3 H locs hw_16 hP hD hS => ?_)
  have hP : va_P D vwCl [((g 1), .inl (y 0, 4023, .inl S)), ((g 0), .inr (5, [.int 0, .ref (g 1), .int (nI sv), .ref (g 2), .ref (g 3), .int (nI ln), .int (nI at9), .int (nI pl), .int va, .long hs]))] H := hP
  have hD : va_D A [((g 1), .inl (y 0, 4023, .inl S)), ((g 0), .inr (5, [.int 0, .ref (g 1), .int (nI sv), .ref (g 2), .ref (g 3), .int (nI ln), .int (nI at9), .int (nI pl), .int va, .long hs]))] := hD
  obtain rfl : r_2 = 1 := hw_16
  refine lv_if_eq (tgt := 32) hx hb dX5_slidesAt_19 (by decide) (fun c_19 => absurd c_19 (by decide)) (fun _ => ?_)
  refine lv_aload_n hx hb dX5_slidesAt_22 rfl (lv_at hl 0 rfl) ?_
  refine lv_iload_n hx hb dX5_slidesAt_23 rfl (lv_at hl 1 rfl) ?_
  refine lv_iload_n hx hb dX5_slidesAt_24 rfl (lv_at hl 2 rfl) ?_
  refine lv_iload_n hx hb dX5_slidesAt_25 rfl (lv_at hl 3 rfl) ?_
  refine zr_calli (va_runV (As := [.int (nI k1), .int (nI k2), .int (nI o)]) (rest := []) ⟨hx, hb, hml, hown, hts⟩ (mX5_sliding l D y g S 0 sv ln at9 pl va hs k1 k2 o (by first | assumption | rfl | omega | decide) (by first | assumption | rfl | omega | decide) (by first | assumption | rfl | omega | decide) (by first | assumption | rfl | omega | decide)) (cwV 3 hts (zgV tw_530 tw_531 tw_532 tw_369 tw_528) rfl rfl rfl (by decide +kernel) ⟨Nat.le_of_ble_eq_true rfl, Nat.le_of_ble_eq_true rfl⟩) (zRO_preV hKN hP (ci := 5) (q0 := 1) rfl rfl [1, 0] rfl) rfl rfl hl.1 rfl (lv_room (Nat.le_of_ble_eq_true rfl)) dX5_slidesAt_26 ⟨Nat.zero_le _, Nat.zero_le _⟩) hS (fun r_4 H locs hw_26 hT hS => ?_)
  replace hP := hT _ _ hP
  obtain rfl : r_4 = (qSl S k1 k2 o 16).1 := hw_26
  refine lv_goto (tgt := 33) hx hb dX5_slidesAt_29 (by decide) ?_
  have hP := hP.sub (ws' := [((g 0), .inr (5, [.int 0, .ref (g 1), .int (nI sv), .ref (g 2), .ref (g 3), .int (nI ln), .int (nI at9), .int (nI pl), .int va, .long hs])), ((g 1), .inl (y 0, 4023, .inl S))]) [1, 0] rfl
  have hD := hD.sub (ws' := [((g 0), .inr (5, [.int 0, .ref (g 1), .int (nI sv), .ref (g 2), .ref (g 3), .int (nI ln), .int (nI at9), .int (nI pl), .int va, .long hs])), ((g 1), .inl (y 0, 4023, .inl S))]) [1, 0] (by decide) rfl
  refine W.widen (k := 0) (n := 0) (by first | exact Nat.le_of_ble_eq_true rfl | omega) (by first | exact Nat.le_of_ble_eq_true rfl | omega) ?_
  exact W.iret (v := ((qSl S k1 k2 o 16).1)) hx hb hr (fun t ht hW => ⟨⟨(qSl S k1 k2 o 16).1, (), rfl, by first | rfl | trivial | simp_all, ⟨by rw [ht]; exact hP, hD⟩⟩, hS.F ht⟩) hS.2.2 dX5_slidesAt_33

set_option maxHeartbeats 4000000 in
set_option maxRecDepth 100000 in
theorem mX5_slidesAt_b1 (l : Launch) (D : va_G) (y : Nat → ClassId) (sz : Nat) (g : Nat → Nat) (S : (Nat → Int32)) (th : Int32) (sv : Nat) (ln : Nat) (at9 : Nat) (pl : Nat) (va : Int32) (hs : Int64) (k1 : Int32) (k2 : Int32) (o : Int32) (hb1 : ¬ ((¬ k1 < 0 ∧ ¬ (S 1 - 1) < k1) ∧ (¬ k2 < 0 ∧ ¬ (S 1 - 1) < k2) ∧ (¬ o < 0 ∧ ¬ 1 < o))) : Met l yX5_slidesAt (ws_ yX5_slidesAt cX5_slidesAt 4 (some .int)) ({ frames := 3, cells := 0, slots := 0, locals := 66 }) (va_Pc [.ref (g 0), .int k1, .int k2, .int o] (zRW D y [((g 0), .inr (5, [.int th, .ref (g 1), .int (nI sv), .ref (g 2), .ref (g 3), .int (nI ln), .int (nI at9), .int (nI pl), .int va, .long hs])), ((g 1), .inl (y 0, 4023, .inl S))] sz)) (va_Qi (fun (r : Int32) (_ : Unit) => r = 0) (fun (_ : Unit) t => zOut D (va_A [((g 0), .inr (5, [.int th, .ref (g 1), .int (nI sv), .ref (g 2), .ref (g 3), .int (nI ln), .int (nI at9), .int (nI pl), .int va, .long hs])), ((g 1), .inl (y 0, 4023, .inl S))] sz) [((g 0), .inr (5, [.int 1, .ref (g 1), .int (nI sv), .ref (g 2), .ref (g 3), .int (nI ln), .int (nI at9), .int (nI pl), .int va, .long hs])), ((g 1), .inl (y 0, 4023, .inl S))] t) (va_A [((g 0), .inr (5, [.int th, .ref (g 1), .int (nI sv), .ref (g 2), .ref (g 3), .int (nI ln), .int (nI at9), .int (nI pl), .int va, .long hs])), ((g 1), .inl (y 0, 4023, .inl S))] sz)) 0 0 (va_A [((g 0), .inr (5, [.int th, .ref (g 1), .int (nI sv), .ref (g 2), .ref (g 3), .int (nI ln), .int (nI at9), .int (nI pl), .int va, .long hs])), ((g 1), .inl (y 0, 4023, .inl S))] sz) := by
  refine Met.ofW (cc := cX5_slidesAt) (maxL := 4) (ret := (some .int)) (by decide) rfl ?_
  intro p e s m args below meth c s₁ B hml hpre9
  obtain ⟨rfl, hsz, hP, hKN, hD0⟩ := hpre9
  have hK := hKN.1
  have hx := B.exec
  have hb := B.bytes
  have hr := B.returns
  have hts := atoms_spec (ws := (ws_ yX5_slidesAt cX5_slidesAt 4 (some .int))) B.pre
  have htg : ∀ w ∈ gT, w.before _ s = true := fun w h => hts w (List.mem_cons_of_mem _ h)
  have hown : s.vm.findClass RX5 = some m.cls := findClass_of_methodNamed B.named
  have hlocks := B.notSynchronized
  subst hsz
  have hD := hD0.self (sz := s.heap.size)
  clear hD0
  generalize hAe : va_A [((g 0), .inr (5, [.int th, .ref (g 1), .int (nI sv), .ref (g 2), .ref (g 3), .int (nI ln), .int (nI at9), .int (nI pl), .int va, .long hs])), ((g 1), .inl (y 0, 4023, .inl S))] s.heap.size = A at hD ⊢
  have hA : ∀ q : Nat, s.heap.size ≤ q → A q := fun q h => by rw [← hAe]; exact Or.inr h
  have hS : va_S A s.heap s.heap [] := va_S.rf
  have hP : va_P D vwCl [((g 0), .inr (5, [.int th, .ref (g 1), .int (nI sv), .ref (g 2), .ref (g 3), .int (nI ln), .int (nI at9), .int (nI pl), .int va, .long hs])), ((g 1), .inl (y 0, 4023, .inl S))] s.heap := hP
  have hl := lv_entry ([.ref (g 0), .int k1, .int k2, .int o]) (n := 4) (Nat.le_of_ble_eq_true rfl)
  rw [lg_entry_eq]
  generalize (lg_sl ([.ref (g 0), .int k1, .int k2, .int o]) ++ List.replicate (4 - (lg_sl ([.ref (g 0), .int k1, .int k2, .int o])).length) Slot.unset).toArray = ls at hl ⊢
  have hl : lv_has ls 4 [(0, .ref (g 0)), (1, .int k1), (2, .int k2), (3, .int o)] := hl
  refine lv_aload_n hx hb dX5_slidesAt_0 rfl (lv_at hl 0 rfl) ?_
  refine lv_aload_n hx hb dX5_slidesAt_1 rfl (lv_at hl 0 rfl) ?_
  refine lv_iload_n hx hb dX5_slidesAt_2 rfl (lv_at hl 1 rfl) ?_
  refine lv_iload_n hx hb dX5_slidesAt_3 rfl (lv_at hl 2 rfl) ?_
  refine lv_iload_n hx hb dX5_slidesAt_4 rfl (lv_at hl 3 rfl) ?_
  refine zr_calli (va_runV (As := [.int k1, .int k2, .int o]) (rest := [.ref (g 0)]) ⟨hx, hb, hml, hown, hts⟩ (mX5_arePair l D y g S th sv ln at9 pl va hs k1 k2 o) (cwV 3 hts (zgV tw_522 tw_523 tw_524 tw_369 tw_519) rfl rfl rfl (by decide +kernel) ⟨Nat.le_of_ble_eq_true rfl, Nat.le_of_ble_eq_true rfl⟩) (zRO_preV hKN hP (ci := 5) (q0 := 0) rfl rfl [0, 1] rfl) rfl rfl hl.1 rfl (lv_room (Nat.le_of_ble_eq_true rfl)) dX5_slidesAt_5 ⟨Nat.zero_le _, Nat.zero_le _⟩) hS (fun r_1 H locs hw_5 hT hS => ?_)
  replace hP := hT _ _ hP
  obtain rfl : r_1 = (if (¬ k1 < 0 ∧ ¬ (S 1 - 1) < k1) ∧ (¬ k2 < 0 ∧ ¬ (S 1 - 1) < k2) ∧ (¬ o < 0 ∧ ¬ 1 < o) then (1 : Int32) else 0) := hw_5
  refine lv_if_eq (tgt := 15) hx hb dX5_slidesAt_8 (by decide) (fun _ => ?_) (fun c_8 => absurd (zb0.mpr hb1) c_8)
  refine lv_iconst (v := 1) hx hb dX5_slidesAt_15 (by decide) ?_
  refine zw_calli (wr := [((g 1), .inl (y 0, 4023, .inl S))]) (w1 := (fun _ : Unit => [((g 0), .inr (5, [.int 1, .ref (g 1), .int (nI sv), .ref (g 2), .ref (g 3), .int (nI ln), .int (nI at9), .int (nI pl), .int va, .long hs]))])) hP hD hS hA [0] [1] rfl rfl (by decide +kernel) (by decide +kernel) (va_runV (As := [.int 1]) (rest := []) ⟨hx, hb, hml, hown, hts⟩ (mX5_holds l D y _ g th sv ln at9 pl va hs 1) (cwV 1 hts (zgV tw_431 tw_432 tw_433 tw_369 tw_365) rfl rfl rfl (by decide +kernel) ⟨Nat.le_of_ble_eq_true rfl, Nat.le_of_ble_eq_true rfl⟩) (zRW_preV hKN hP hD (ci := 5) (q0 := 0) rfl rfl [0] rfl (by decide)) rfl rfl hl.1 rfl (lv_room (Nat.le_of_ble_eq_true rfl)) dX5_slidesAt_16 ⟨Nat.zero_le _, Nat.zero_le _⟩) (fun r_2 u_3 H locs hw_16 hP hD hS => ?_)
  have hP : va_P D vwCl [((g 1), .inl (y 0, 4023, .inl S)), ((g 0), .inr (5, [.int 1, .ref (g 1), .int (nI sv), .ref (g 2), .ref (g 3), .int (nI ln), .int (nI at9), .int (nI pl), .int va, .long hs]))] H := hP
  have hD : va_D A [((g 1), .inl (y 0, 4023, .inl S)), ((g 0), .inr (5, [.int 1, .ref (g 1), .int (nI sv), .ref (g 2), .ref (g 3), .int (nI ln), .int (nI at9), .int (nI pl), .int va, .long hs]))] := hD
  obtain rfl : r_2 = 0 := hw_16
  refine lv_if_eq (tgt := 32) hx hb dX5_slidesAt_19 (by decide) (fun _ => ?_) (fun c_19 => absurd (by decide) c_19)
  refine lv_iconst (v := 0) hx hb dX5_slidesAt_32 (by decide) ?_
  have hP := hP.sub (ws' := [((g 0), .inr (5, [.int 1, .ref (g 1), .int (nI sv), .ref (g 2), .ref (g 3), .int (nI ln), .int (nI at9), .int (nI pl), .int va, .long hs])), ((g 1), .inl (y 0, 4023, .inl S))]) [1, 0] rfl
  have hD := hD.sub (ws' := [((g 0), .inr (5, [.int 1, .ref (g 1), .int (nI sv), .ref (g 2), .ref (g 3), .int (nI ln), .int (nI at9), .int (nI pl), .int va, .long hs])), ((g 1), .inl (y 0, 4023, .inl S))]) [1, 0] (by decide) rfl
  refine W.widen (k := 0) (n := 0) (by first | exact Nat.le_of_ble_eq_true rfl | omega) (by first | exact Nat.le_of_ble_eq_true rfl | omega) ?_
  exact W.iret (v := 0) hx hb hr (fun t ht hW => ⟨⟨0, (), rfl, by first | rfl | trivial | simp_all, ⟨by rw [ht]; exact hP, hD⟩⟩, hS.F ht⟩) hS.2.2 dX5_slidesAt_33

set_option maxHeartbeats 4000000 in
set_option maxRecDepth 100000 in
theorem mX5_speed (l : Launch) (D : va_G) (y : Nat → ClassId) (sz : Nat) (g : Nat → Nat) (S : (Nat → Int32)) (th : Int32) (sv : Nat) (ln : Nat) (at9 : Nat) (pl : Nat) (va : Int32) (hs : Int64) (n : Nat) (k1 : Nat) (k2 : Nat) (o : Nat) (hS1 : S 1 = nI n) (hn6 : n ≤ 6) (hk0 : k1 < n) (hk1 : k2 < n) (hq : o < 2) (hTu : hTq S) : Met l yX5_speed (ws_ yX5_speed cX5_speed 4 (some .double)) ({ frames := 10, cells := 0, slots := 0, locals := 248 }) (va_Pc [.ref (g 0), .int (nI k1), .int (nI k2), .int (nI o)] (zRW D y [((g 0), .inr (5, [.int th, .ref (g 1), .int (nI sv), .ref (g 2), .ref (g 3), .int (nI ln), .int (nI at9), .int (nI pl), .int va, .long hs])), ((g 1), .inl (y 0, 4023, .inl S))] sz)) (va_Qd (fun (r : UInt64) (_ : Unit) => r = qSp S k1 k2 o) (fun (_ : Unit) t => zOut D (va_A [((g 0), .inr (5, [.int th, .ref (g 1), .int (nI sv), .ref (g 2), .ref (g 3), .int (nI ln), .int (nI at9), .int (nI pl), .int va, .long hs])), ((g 1), .inl (y 0, 4023, .inl S))] sz) [((g 0), .inr (5, [.int 0, .ref (g 1), .int (nI sv), .ref (g 2), .ref (g 3), .int (nI ln), .int (nI at9), .int (nI pl), .int va, .long hs])), ((g 1), .inl (y 0, 4023, .inl S))] t) (va_A [((g 0), .inr (5, [.int th, .ref (g 1), .int (nI sv), .ref (g 2), .ref (g 3), .int (nI ln), .int (nI at9), .int (nI pl), .int va, .long hs])), ((g 1), .inl (y 0, 4023, .inl S))] sz)) 0 0 (va_A [((g 0), .inr (5, [.int th, .ref (g 1), .int (nI sv), .ref (g 2), .ref (g 3), .int (nI ln), .int (nI at9), .int (nI pl), .int va, .long hs])), ((g 1), .inl (y 0, 4023, .inl S))] sz) := by
  refine Met.ofW (cc := cX5_speed) (maxL := 4) (ret := (some .double)) (by decide) rfl ?_
  intro p e s m args below meth c s₁ B hml hpre9
  obtain ⟨rfl, hsz, hP, hKN, hD0⟩ := hpre9
  have hK := hKN.1
  have hx := B.exec
  have hb := B.bytes
  have hr := B.returns
  have hts := atoms_spec (ws := (ws_ yX5_speed cX5_speed 4 (some .double))) B.pre
  have htg : ∀ w ∈ gT, w.before _ s = true := fun w h => hts w (List.mem_cons_of_mem _ h)
  have hown : s.vm.findClass RX5 = some m.cls := findClass_of_methodNamed B.named
  have hlocks := B.notSynchronized
  subst hsz
  have hD := hD0.self (sz := s.heap.size)
  clear hD0
  generalize hAe : va_A [((g 0), .inr (5, [.int th, .ref (g 1), .int (nI sv), .ref (g 2), .ref (g 3), .int (nI ln), .int (nI at9), .int (nI pl), .int va, .long hs])), ((g 1), .inl (y 0, 4023, .inl S))] s.heap.size = A at hD ⊢
  have hA : ∀ q : Nat, s.heap.size ≤ q → A q := fun q h => by rw [← hAe]; exact Or.inr h
  have hS : va_S A s.heap s.heap [] := va_S.rf
  have hP : va_P D vwCl [((g 0), .inr (5, [.int th, .ref (g 1), .int (nI sv), .ref (g 2), .ref (g 3), .int (nI ln), .int (nI at9), .int (nI pl), .int va, .long hs])), ((g 1), .inl (y 0, 4023, .inl S))] s.heap := hP
  have hl := lv_entry ([.ref (g 0), .int (nI k1), .int (nI k2), .int (nI o)]) (n := 4) (Nat.le_of_ble_eq_true rfl)
  rw [lg_entry_eq]
  generalize (lg_sl ([.ref (g 0), .int (nI k1), .int (nI k2), .int (nI o)]) ++ List.replicate (4 - (lg_sl ([.ref (g 0), .int (nI k1), .int (nI k2), .int (nI o)])).length) Slot.unset).toArray = ls at hl ⊢
  have hl : lv_has ls 4 [(0, .ref (g 0)), (1, .int (nI k1)), (2, .int (nI k2)), (3, .int (nI o))] := hl
  refine lv_aload_n hx hb dX5_speed_0 rfl (lv_at hl 0 rfl) ?_
  refine lv_aload_n hx hb dX5_speed_1 rfl (lv_at hl 0 rfl) ?_
  refine lv_iload_n hx hb dX5_speed_2 rfl (lv_at hl 1 rfl) ?_
  refine lv_iload_n hx hb dX5_speed_3 rfl (lv_at hl 2 rfl) ?_
  refine lv_iload_n hx hb dX5_speed_4 rfl (lv_at hl 3 rfl) ?_
  refine zr_calli (va_runV (As := [.int (nI k1), .int (nI k2), .int (nI o)]) (rest := [.ref (g 0)]) ⟨hx, hb, hml, hown, hts⟩ (mX5_arePair l D y g S th sv ln at9 pl va hs (nI k1) (nI k2) (nI o)) (cwV 3 hts (zgV tw_522 tw_523 tw_524 tw_369 tw_519) rfl rfl rfl (by decide +kernel) ⟨Nat.le_of_ble_eq_true rfl, Nat.le_of_ble_eq_true rfl⟩) (zRO_preV hKN hP (ci := 5) (q0 := 0) rfl rfl [0, 1] rfl) rfl rfl hl.1 rfl (lv_room (Nat.le_of_ble_eq_true rfl)) dX5_speed_5 ⟨Nat.zero_le _, Nat.zero_le _⟩) hS (fun r_1 H locs hw_5 hT hS => ?_)
  replace hP := hT _ _ hP
  obtain rfl : r_1 = (if (¬ (nI k1) < 0 ∧ ¬ (S 1 - 1) < (nI k1)) ∧ (¬ (nI k2) < 0 ∧ ¬ (S 1 - 1) < (nI k2)) ∧ (¬ (nI o) < 0 ∧ ¬ 1 < (nI o)) then (1 : Int32) else 0) := hw_5
  refine lv_if_eq (tgt := 15) hx hb dX5_speed_8 (by decide) (fun c_8 => absurd c_8 (zb1.mpr ⟨⟨nI_pos (n := k1) (by omega), zsu hS1 (by omega) hn6⟩, ⟨nI_pos (n := k2) (by omega), zsu hS1 (by omega) hn6⟩, ⟨nI_pos (n := o) (by omega), nI_nlt (a := 1) (b := o) (by omega) (by omega)⟩⟩)) (fun _ => ?_)
  refine lv_iconst (v := 0) hx hb dX5_speed_11 (by decide) ?_
  refine lv_goto (tgt := 16) hx hb dX5_speed_12 (by decide) ?_
  refine zw_calli (wr := [((g 1), .inl (y 0, 4023, .inl S))]) (w1 := (fun _ : Unit => [((g 0), .inr (5, [.int 0, .ref (g 1), .int (nI sv), .ref (g 2), .ref (g 3), .int (nI ln), .int (nI at9), .int (nI pl), .int va, .long hs]))])) hP hD hS hA [0] [1] rfl rfl (by decide +kernel) (by decide +kernel) (va_runV (As := [.int 0]) (rest := []) ⟨hx, hb, hml, hown, hts⟩ (mX5_holds l D y _ g th sv ln at9 pl va hs 0) (cwV 1 hts (zgV tw_431 tw_432 tw_433 tw_369 tw_365) rfl rfl rfl (by decide +kernel) ⟨Nat.le_of_ble_eq_true rfl, Nat.le_of_ble_eq_true rfl⟩) (zRW_preV hKN hP hD (ci := 5) (q0 := 0) rfl rfl [0] rfl (by decide)) rfl rfl hl.1 rfl (lv_room (Nat.le_of_ble_eq_true rfl)) dX5_speed_16 ⟨Nat.zero_le _, Nat.zero_le _⟩) (fun r_2 u_3 H locs hw_16 hP hD hS => ?_)
  have hP : va_P D vwCl [((g 1), .inl (y 0, 4023, .inl S)), ((g 0), .inr (5, [.int 0, .ref (g 1), .int (nI sv), .ref (g 2), .ref (g 3), .int (nI ln), .int (nI at9), .int (nI pl), .int va, .long hs]))] H := hP
  have hD : va_D A [((g 1), .inl (y 0, 4023, .inl S)), ((g 0), .inr (5, [.int 0, .ref (g 1), .int (nI sv), .ref (g 2), .ref (g 3), .int (nI ln), .int (nI at9), .int (nI pl), .int va, .long hs]))] := hD
  obtain rfl : r_2 = 1 := hw_16
  refine lv_if_eq (tgt := 32) hx hb dX5_speed_19 (by decide) (fun c_19 => absurd c_19 (by decide)) (fun _ => ?_)
  refine lv_aload_n hx hb dX5_speed_22 rfl (lv_at hl 0 rfl) ?_
  refine lv_iload_n hx hb dX5_speed_23 rfl (lv_at hl 1 rfl) ?_
  refine lv_iload_n hx hb dX5_speed_24 rfl (lv_at hl 2 rfl) ?_
  refine lv_iload_n hx hb dX5_speed_25 rfl (lv_at hl 3 rfl) ?_
  refine zr_calld (va_runV (As := [.int (nI k1), .int (nI k2), .int (nI o)]) (rest := []) ⟨hx, hb, hml, hown, hts⟩ (mX5_rate l D y g S 0 sv ln at9 pl va hs k1 k2 o (by first | assumption | rfl | omega | decide) (by first | assumption | rfl | omega | decide) (by first | assumption | rfl | omega | decide) (by first | assumption | rfl | omega | decide)) (cwV 3 hts (zgV tw_540 tw_541 tw_542 tw_369 tw_538) rfl rfl rfl (by decide +kernel) ⟨Nat.le_of_ble_eq_true rfl, Nat.le_of_ble_eq_true rfl⟩) (zRO_preV hKN hP (ci := 5) (q0 := 1) rfl rfl [1, 0] rfl) rfl rfl hl.1 rfl (lv_room (Nat.le_of_ble_eq_true rfl)) dX5_speed_26 ⟨Nat.zero_le _, Nat.zero_le _⟩) hS (fun r_4 H locs hw_26 hT hS => ?_)
  replace hP := hT _ _ hP
  obtain rfl : r_4 = qSp S k1 k2 o := hw_26
  refine lv_goto (tgt := 33) hx hb dX5_speed_29 (by decide) ?_
  have hP := hP.sub (ws' := [((g 0), .inr (5, [.int 0, .ref (g 1), .int (nI sv), .ref (g 2), .ref (g 3), .int (nI ln), .int (nI at9), .int (nI pl), .int va, .long hs])), ((g 1), .inl (y 0, 4023, .inl S))]) [1, 0] rfl
  have hD := hD.sub (ws' := [((g 0), .inr (5, [.int 0, .ref (g 1), .int (nI sv), .ref (g 2), .ref (g 3), .int (nI ln), .int (nI at9), .int (nI pl), .int va, .long hs])), ((g 1), .inl (y 0, 4023, .inl S))]) [1, 0] (by decide) rfl
  refine W.widen (k := 0) (n := 0) (by first | exact Nat.le_of_ble_eq_true rfl | omega) (by first | exact Nat.le_of_ble_eq_true rfl | omega) ?_
  exact W.dret (v := (qSp S k1 k2 o)) hx hb hr (fun t ht hW => ⟨⟨qSp S k1 k2 o, (), rfl, by first | rfl | trivial | simp_all, ⟨by rw [ht]; exact hP, hD⟩⟩, hS.F ht⟩) hS.2.2 dX5_speed_33

set_option maxHeartbeats 4000000 in
set_option maxRecDepth 100000 in
theorem mX5_speed_b1 (l : Launch) (D : va_G) (y : Nat → ClassId) (sz : Nat) (g : Nat → Nat) (S : (Nat → Int32)) (th : Int32) (sv : Nat) (ln : Nat) (at9 : Nat) (pl : Nat) (va : Int32) (hs : Int64) (k1 : Int32) (k2 : Int32) (o : Int32) (hb1 : ¬ ((¬ k1 < 0 ∧ ¬ (S 1 - 1) < k1) ∧ (¬ k2 < 0 ∧ ¬ (S 1 - 1) < k2) ∧ (¬ o < 0 ∧ ¬ 1 < o))) : Met l yX5_speed (ws_ yX5_speed cX5_speed 4 (some .double)) ({ frames := 3, cells := 0, slots := 0, locals := 66 }) (va_Pc [.ref (g 0), .int k1, .int k2, .int o] (zRW D y [((g 0), .inr (5, [.int th, .ref (g 1), .int (nI sv), .ref (g 2), .ref (g 3), .int (nI ln), .int (nI at9), .int (nI pl), .int va, .long hs])), ((g 1), .inl (y 0, 4023, .inl S))] sz)) (va_Qd (fun (r : UInt64) (_ : Unit) => r = FP.dconst0) (fun (_ : Unit) t => zOut D (va_A [((g 0), .inr (5, [.int th, .ref (g 1), .int (nI sv), .ref (g 2), .ref (g 3), .int (nI ln), .int (nI at9), .int (nI pl), .int va, .long hs])), ((g 1), .inl (y 0, 4023, .inl S))] sz) [((g 0), .inr (5, [.int 1, .ref (g 1), .int (nI sv), .ref (g 2), .ref (g 3), .int (nI ln), .int (nI at9), .int (nI pl), .int va, .long hs])), ((g 1), .inl (y 0, 4023, .inl S))] t) (va_A [((g 0), .inr (5, [.int th, .ref (g 1), .int (nI sv), .ref (g 2), .ref (g 3), .int (nI ln), .int (nI at9), .int (nI pl), .int va, .long hs])), ((g 1), .inl (y 0, 4023, .inl S))] sz)) 0 0 (va_A [((g 0), .inr (5, [.int th, .ref (g 1), .int (nI sv), .ref (g 2), .ref (g 3), .int (nI ln), .int (nI at9), .int (nI pl), .int va, .long hs])), ((g 1), .inl (y 0, 4023, .inl S))] sz) := by
  refine Met.ofW (cc := cX5_speed) (maxL := 4) (ret := (some .double)) (by decide) rfl ?_
  intro p e s m args below meth c s₁ B hml hpre9
  obtain ⟨rfl, hsz, hP, hKN, hD0⟩ := hpre9
  have hK := hKN.1
  have hx := B.exec
  have hb := B.bytes
  have hr := B.returns
  have hts := atoms_spec (ws := (ws_ yX5_speed cX5_speed 4 (some .double))) B.pre
  have htg : ∀ w ∈ gT, w.before _ s = true := fun w h => hts w (List.mem_cons_of_mem _ h)
  have hown : s.vm.findClass RX5 = some m.cls := findClass_of_methodNamed B.named
  have hlocks := B.notSynchronized
  subst hsz
  have hD := hD0.self (sz := s.heap.size)
  clear hD0
  generalize hAe : va_A [((g 0), .inr (5, [.int th, .ref (g 1), .int (nI sv), .ref (g 2), .ref (g 3), .int (nI ln), .int (nI at9), .int (nI pl), .int va, .long hs])), ((g 1), .inl (y 0, 4023, .inl S))] s.heap.size = A at hD ⊢
  have hA : ∀ q : Nat, s.heap.size ≤ q → A q := fun q h => by rw [← hAe]; exact Or.inr h
  have hS : va_S A s.heap s.heap [] := va_S.rf
  have hP : va_P D vwCl [((g 0), .inr (5, [.int th, .ref (g 1), .int (nI sv), .ref (g 2), .ref (g 3), .int (nI ln), .int (nI at9), .int (nI pl), .int va, .long hs])), ((g 1), .inl (y 0, 4023, .inl S))] s.heap := hP
  have hl := lv_entry ([.ref (g 0), .int k1, .int k2, .int o]) (n := 4) (Nat.le_of_ble_eq_true rfl)
  rw [lg_entry_eq]
  generalize (lg_sl ([.ref (g 0), .int k1, .int k2, .int o]) ++ List.replicate (4 - (lg_sl ([.ref (g 0), .int k1, .int k2, .int o])).length) Slot.unset).toArray = ls at hl ⊢
  have hl : lv_has ls 4 [(0, .ref (g 0)), (1, .int k1), (2, .int k2), (3, .int o)] := hl
  refine lv_aload_n hx hb dX5_speed_0 rfl (lv_at hl 0 rfl) ?_
  refine lv_aload_n hx hb dX5_speed_1 rfl (lv_at hl 0 rfl) ?_
  refine lv_iload_n hx hb dX5_speed_2 rfl (lv_at hl 1 rfl) ?_
  refine lv_iload_n hx hb dX5_speed_3 rfl (lv_at hl 2 rfl) ?_
  refine lv_iload_n hx hb dX5_speed_4 rfl (lv_at hl 3 rfl) ?_
  refine zr_calli (va_runV (As := [.int k1, .int k2, .int o]) (rest := [.ref (g 0)]) ⟨hx, hb, hml, hown, hts⟩ (mX5_arePair l D y g S th sv ln at9 pl va hs k1 k2 o) (cwV 3 hts (zgV tw_522 tw_523 tw_524 tw_369 tw_519) rfl rfl rfl (by decide +kernel) ⟨Nat.le_of_ble_eq_true rfl, Nat.le_of_ble_eq_true rfl⟩) (zRO_preV hKN hP (ci := 5) (q0 := 0) rfl rfl [0, 1] rfl) rfl rfl hl.1 rfl (lv_room (Nat.le_of_ble_eq_true rfl)) dX5_speed_5 ⟨Nat.zero_le _, Nat.zero_le _⟩) hS (fun r_1 H locs hw_5 hT hS => ?_)
  replace hP := hT _ _ hP
  obtain rfl : r_1 = (if (¬ k1 < 0 ∧ ¬ (S 1 - 1) < k1) ∧ (¬ k2 < 0 ∧ ¬ (S 1 - 1) < k2) ∧ (¬ o < 0 ∧ ¬ 1 < o) then (1 : Int32) else 0) := hw_5
  refine lv_if_eq (tgt := 15) hx hb dX5_speed_8 (by decide) (fun _ => ?_) (fun c_8 => absurd (zb0.mpr hb1) c_8)
  refine lv_iconst (v := 1) hx hb dX5_speed_15 (by decide) ?_
  refine zw_calli (wr := [((g 1), .inl (y 0, 4023, .inl S))]) (w1 := (fun _ : Unit => [((g 0), .inr (5, [.int 1, .ref (g 1), .int (nI sv), .ref (g 2), .ref (g 3), .int (nI ln), .int (nI at9), .int (nI pl), .int va, .long hs]))])) hP hD hS hA [0] [1] rfl rfl (by decide +kernel) (by decide +kernel) (va_runV (As := [.int 1]) (rest := []) ⟨hx, hb, hml, hown, hts⟩ (mX5_holds l D y _ g th sv ln at9 pl va hs 1) (cwV 1 hts (zgV tw_431 tw_432 tw_433 tw_369 tw_365) rfl rfl rfl (by decide +kernel) ⟨Nat.le_of_ble_eq_true rfl, Nat.le_of_ble_eq_true rfl⟩) (zRW_preV hKN hP hD (ci := 5) (q0 := 0) rfl rfl [0] rfl (by decide)) rfl rfl hl.1 rfl (lv_room (Nat.le_of_ble_eq_true rfl)) dX5_speed_16 ⟨Nat.zero_le _, Nat.zero_le _⟩) (fun r_2 u_3 H locs hw_16 hP hD hS => ?_)
  have hP : va_P D vwCl [((g 1), .inl (y 0, 4023, .inl S)), ((g 0), .inr (5, [.int 1, .ref (g 1), .int (nI sv), .ref (g 2), .ref (g 3), .int (nI ln), .int (nI at9), .int (nI pl), .int va, .long hs]))] H := hP
  have hD : va_D A [((g 1), .inl (y 0, 4023, .inl S)), ((g 0), .inr (5, [.int 1, .ref (g 1), .int (nI sv), .ref (g 2), .ref (g 3), .int (nI ln), .int (nI at9), .int (nI pl), .int va, .long hs]))] := hD
  obtain rfl : r_2 = 0 := hw_16
  refine lv_if_eq (tgt := 32) hx hb dX5_speed_19 (by decide) (fun _ => ?_) (fun c_19 => absurd (by decide) c_19)
  refine lv_dconst0 hx hb dX5_speed_32 ?_
  have hP := hP.sub (ws' := [((g 0), .inr (5, [.int 1, .ref (g 1), .int (nI sv), .ref (g 2), .ref (g 3), .int (nI ln), .int (nI at9), .int (nI pl), .int va, .long hs])), ((g 1), .inl (y 0, 4023, .inl S))]) [1, 0] rfl
  have hD := hD.sub (ws' := [((g 0), .inr (5, [.int 1, .ref (g 1), .int (nI sv), .ref (g 2), .ref (g 3), .int (nI ln), .int (nI at9), .int (nI pl), .int va, .long hs])), ((g 1), .inl (y 0, 4023, .inl S))]) [1, 0] (by decide) rfl
  refine W.widen (k := 0) (n := 0) (by first | exact Nat.le_of_ble_eq_true rfl | omega) (by first | exact Nat.le_of_ble_eq_true rfl | omega) ?_
  exact W.dret (v := FP.dconst0) hx hb hr (fun t ht hW => ⟨⟨FP.dconst0, (), rfl, by first | rfl | trivial | simp_all, ⟨by rw [ht]; exact hP, hD⟩⟩, hS.F ht⟩) hS.2.2 dX5_speed_33

set_option maxHeartbeats 4000000 in
set_option maxRecDepth 100000 in
theorem mX5_firstMoved (l : Launch) (D : va_G) (y : Nat → ClassId) (sz : Nat) (g : Nat → Nat) (S : (Nat → Int32)) (th : Int32) (sv : Nat) (ln : Nat) (at9 : Nat) (pl : Nat) (va : Int32) (hs : Int64) (n : Nat) (k1 : Nat) (k2 : Nat) (o : Nat) (x : Int32) (hS1 : S 1 = nI n) (hn6 : n ≤ 6) (hk0 : k1 < n) (hk1 : k2 < n) (hq : o < 2) (hx1 : ¬ x < 1 ∧ ¬ 999 < x) (hTu : hTq S) : Met l yX5_firstMoved (ws_ yX5_firstMoved cX5_firstMoved 5 (some .int)) ({ frames := 8, cells := 0, slots := 0, locals := 201 }) (va_Pc [.ref (g 0), .int (nI k1), .int (nI k2), .int (nI o), .int x] (zRW D y [((g 0), .inr (5, [.int th, .ref (g 1), .int (nI sv), .ref (g 2), .ref (g 3), .int (nI ln), .int (nI at9), .int (nI pl), .int va, .long hs])), ((g 1), .inl (y 0, 4023, .inl S))] sz)) (va_Qi (fun (r : Int32) (_ : Unit) => r = qFm S k1 k2 o x 16 0) (fun (_ : Unit) t => zOut D (va_A [((g 0), .inr (5, [.int th, .ref (g 1), .int (nI sv), .ref (g 2), .ref (g 3), .int (nI ln), .int (nI at9), .int (nI pl), .int va, .long hs])), ((g 1), .inl (y 0, 4023, .inl S))] sz) [((g 0), .inr (5, [.int 0, .ref (g 1), .int (nI sv), .ref (g 2), .ref (g 3), .int (nI ln), .int (nI at9), .int (nI pl), .int va, .long hs])), ((g 1), .inl (y 0, 4023, .inl S))] t) (va_A [((g 0), .inr (5, [.int th, .ref (g 1), .int (nI sv), .ref (g 2), .ref (g 3), .int (nI ln), .int (nI at9), .int (nI pl), .int va, .long hs])), ((g 1), .inl (y 0, 4023, .inl S))] sz)) 0 0 (va_A [((g 0), .inr (5, [.int th, .ref (g 1), .int (nI sv), .ref (g 2), .ref (g 3), .int (nI ln), .int (nI at9), .int (nI pl), .int va, .long hs])), ((g 1), .inl (y 0, 4023, .inl S))] sz) := by
  refine Met.ofW (cc := cX5_firstMoved) (maxL := 5) (ret := (some .int)) (by decide) rfl ?_
  intro p e s m args below meth c s₁ B hml hpre9
  obtain ⟨rfl, hsz, hP, hKN, hD0⟩ := hpre9
  have hK := hKN.1
  have hx := B.exec
  have hb := B.bytes
  have hr := B.returns
  have hts := atoms_spec (ws := (ws_ yX5_firstMoved cX5_firstMoved 5 (some .int))) B.pre
  have htg : ∀ w ∈ gT, w.before _ s = true := fun w h => hts w (List.mem_cons_of_mem _ h)
  have hown : s.vm.findClass RX5 = some m.cls := findClass_of_methodNamed B.named
  have hlocks := B.notSynchronized
  subst hsz
  have hD := hD0.self (sz := s.heap.size)
  clear hD0
  generalize hAe : va_A [((g 0), .inr (5, [.int th, .ref (g 1), .int (nI sv), .ref (g 2), .ref (g 3), .int (nI ln), .int (nI at9), .int (nI pl), .int va, .long hs])), ((g 1), .inl (y 0, 4023, .inl S))] s.heap.size = A at hD ⊢
  have hA : ∀ q : Nat, s.heap.size ≤ q → A q := fun q h => by rw [← hAe]; exact Or.inr h
  have hS : va_S A s.heap s.heap [] := va_S.rf
  have hP : va_P D vwCl [((g 0), .inr (5, [.int th, .ref (g 1), .int (nI sv), .ref (g 2), .ref (g 3), .int (nI ln), .int (nI at9), .int (nI pl), .int va, .long hs])), ((g 1), .inl (y 0, 4023, .inl S))] s.heap := hP
  have hl := lv_entry ([.ref (g 0), .int (nI k1), .int (nI k2), .int (nI o), .int x]) (n := 5) (Nat.le_of_ble_eq_true rfl)
  rw [lg_entry_eq]
  generalize (lg_sl ([.ref (g 0), .int (nI k1), .int (nI k2), .int (nI o), .int x]) ++ List.replicate (5 - (lg_sl ([.ref (g 0), .int (nI k1), .int (nI k2), .int (nI o), .int x])).length) Slot.unset).toArray = ls at hl ⊢
  have hl : lv_has ls 5 [(0, .ref (g 0)), (1, .int (nI k1)), (2, .int (nI k2)), (3, .int (nI o)), (4, .int x)] := hl
  refine lv_aload_n hx hb dX5_firstMoved_0 rfl (lv_at hl 0 rfl) ?_
  refine lv_aload_n hx hb dX5_firstMoved_1 rfl (lv_at hl 0 rfl) ?_
  refine lv_iload_n hx hb dX5_firstMoved_2 rfl (lv_at hl 1 rfl) ?_
  refine lv_iload_n hx hb dX5_firstMoved_3 rfl (lv_at hl 2 rfl) ?_
  refine lv_iload_n hx hb dX5_firstMoved_4 rfl (lv_at hl 3 rfl) ?_
  refine zr_calli (va_runV (As := [.int (nI k1), .int (nI k2), .int (nI o)]) (rest := [.ref (g 0)]) ⟨hx, hb, hml, hown, hts⟩ (mX5_arePair l D y g S th sv ln at9 pl va hs (nI k1) (nI k2) (nI o)) (cwV 3 hts (zgV tw_522 tw_523 tw_524 tw_369 tw_519) rfl rfl rfl (by decide +kernel) ⟨Nat.le_of_ble_eq_true rfl, Nat.le_of_ble_eq_true rfl⟩) (zRO_preV hKN hP (ci := 5) (q0 := 0) rfl rfl [0, 1] rfl) rfl rfl hl.1 rfl (lv_room (Nat.le_of_ble_eq_true rfl)) dX5_firstMoved_5 ⟨Nat.zero_le _, Nat.zero_le _⟩) hS (fun r_1 H locs hw_5 hT hS => ?_)
  replace hP := hT _ _ hP
  obtain rfl : r_1 = (if (¬ (nI k1) < 0 ∧ ¬ (S 1 - 1) < (nI k1)) ∧ (¬ (nI k2) < 0 ∧ ¬ (S 1 - 1) < (nI k2)) ∧ (¬ (nI o) < 0 ∧ ¬ 1 < (nI o)) then (1 : Int32) else 0) := hw_5
  refine lv_if_ne (tgt := 15) hx hb dX5_firstMoved_8 (by decide) (fun _ => ?_) (fun c_8 => absurd c_8 (zb1.mpr ⟨⟨nI_pos (n := k1) (by omega), zsu hS1 (by omega) hn6⟩, ⟨nI_pos (n := k2) (by omega), zsu hS1 (by omega) hn6⟩, ⟨nI_pos (n := o) (by omega), nI_nlt (a := 1) (b := o) (by omega) (by omega)⟩⟩))
  refine lv_iload hx hb dX5_firstMoved_15 (lv_at hl 4 rfl) ?_
  refine lv_iconst (v := 1) hx hb dX5_firstMoved_17 (by decide) ?_
  refine lv_sipush (v := 999) hx hb dX5_firstMoved_18 (by decide) ?_
  refine zr_calli (va_runS (As := [.int x, .int 1, .int 999]) (rest := [.ref (g 0)]) ⟨hx, hb, hml, hown, hts⟩ (mX5_in l x 1 999) (va_cwS 3 hts (zgS tw_367 tw_368 tw_369 tw_364) rfl rfl rfl (by decide +kernel) ⟨Nat.le_of_ble_eq_true rfl, Nat.le_of_ble_eq_true rfl⟩) zP_pre rfl rfl hl.1 rfl (lv_room (Nat.le_of_ble_eq_true rfl)) dX5_firstMoved_21 ⟨Nat.zero_le _, Nat.zero_le _⟩) hS (fun r_2 H locs hw_21 hT hS => ?_)
  replace hP := hT _ _ hP
  obtain rfl : r_2 = (if ¬ x < 1 ∧ ¬ 999 < x then (1 : Int32) else 0) := hw_21
  refine lv_if_ne (tgt := 31) hx hb dX5_firstMoved_24 (by decide) (fun _ => ?_) (fun c_24 => absurd c_24 (zb1.mpr hx1))
  refine lv_iconst (v := 0) hx hb dX5_firstMoved_31 (by decide) ?_
  refine zw_calli (wr := [((g 1), .inl (y 0, 4023, .inl S))]) (w1 := (fun _ : Unit => [((g 0), .inr (5, [.int 0, .ref (g 1), .int (nI sv), .ref (g 2), .ref (g 3), .int (nI ln), .int (nI at9), .int (nI pl), .int va, .long hs]))])) hP hD hS hA [0] [1] rfl rfl (by decide +kernel) (by decide +kernel) (va_runV (As := [.int 0]) (rest := []) ⟨hx, hb, hml, hown, hts⟩ (mX5_holds l D y _ g th sv ln at9 pl va hs 0) (cwV 1 hts (zgV tw_431 tw_432 tw_433 tw_369 tw_365) rfl rfl rfl (by decide +kernel) ⟨Nat.le_of_ble_eq_true rfl, Nat.le_of_ble_eq_true rfl⟩) (zRW_preV hKN hP hD (ci := 5) (q0 := 0) rfl rfl [0] rfl (by decide)) rfl rfl hl.1 rfl (lv_room (Nat.le_of_ble_eq_true rfl)) dX5_firstMoved_32 ⟨Nat.zero_le _, Nat.zero_le _⟩) (fun r_3 u_4 H locs hw_32 hP hD hS => ?_)
  have hP : va_P D vwCl [((g 1), .inl (y 0, 4023, .inl S)), ((g 0), .inr (5, [.int 0, .ref (g 1), .int (nI sv), .ref (g 2), .ref (g 3), .int (nI ln), .int (nI at9), .int (nI pl), .int va, .long hs]))] H := hP
  have hD : va_D A [((g 1), .inl (y 0, 4023, .inl S)), ((g 0), .inr (5, [.int 0, .ref (g 1), .int (nI sv), .ref (g 2), .ref (g 3), .int (nI ln), .int (nI at9), .int (nI pl), .int va, .long hs]))] := hD
  obtain rfl : r_3 = 1 := hw_32
  refine lv_if_eq (tgt := 50) hx hb dX5_firstMoved_35 (by decide) (fun c_35 => absurd c_35 (by decide)) (fun _ => ?_)
  refine lv_aload_n hx hb dX5_firstMoved_38 rfl (lv_at hl 0 rfl) ?_
  refine lv_iload_n hx hb dX5_firstMoved_39 rfl (lv_at hl 1 rfl) ?_
  refine lv_iload_n hx hb dX5_firstMoved_40 rfl (lv_at hl 2 rfl) ?_
  refine lv_iload_n hx hb dX5_firstMoved_41 rfl (lv_at hl 3 rfl) ?_
  refine lv_iload hx hb dX5_firstMoved_42 (lv_at hl 4 rfl) ?_
  refine zr_calli (va_runV (As := [.int (nI k1), .int (nI k2), .int (nI o), .int x]) (rest := []) ⟨hx, hb, hml, hown, hts⟩ (mX5_firstFar l D y g S 0 sv ln at9 pl va hs k1 k2 o x (by first | assumption | rfl | omega | decide) (by first | assumption | rfl | omega | decide) (by first | assumption | rfl | omega | decide) (by first | assumption | rfl | omega | decide)) (cwV 4 hts (zgV tw_535 tw_536 tw_537 tw_369 tw_533) rfl rfl rfl (by decide +kernel) ⟨Nat.le_of_ble_eq_true rfl, Nat.le_of_ble_eq_true rfl⟩) (zRO_preV hKN hP (ci := 5) (q0 := 1) rfl rfl [1, 0] rfl) rfl rfl hl.1 rfl (lv_room (Nat.le_of_ble_eq_true rfl)) dX5_firstMoved_44 ⟨Nat.zero_le _, Nat.zero_le _⟩) hS (fun r_5 H locs hw_44 hT hS => ?_)
  replace hP := hT _ _ hP
  obtain rfl : r_5 = qFm S k1 k2 o x 16 0 := hw_44
  refine lv_goto (tgt := 51) hx hb dX5_firstMoved_47 (by decide) ?_
  have hP := hP.sub (ws' := [((g 0), .inr (5, [.int 0, .ref (g 1), .int (nI sv), .ref (g 2), .ref (g 3), .int (nI ln), .int (nI at9), .int (nI pl), .int va, .long hs])), ((g 1), .inl (y 0, 4023, .inl S))]) [1, 0] rfl
  have hD := hD.sub (ws' := [((g 0), .inr (5, [.int 0, .ref (g 1), .int (nI sv), .ref (g 2), .ref (g 3), .int (nI ln), .int (nI at9), .int (nI pl), .int va, .long hs])), ((g 1), .inl (y 0, 4023, .inl S))]) [1, 0] (by decide) rfl
  refine W.widen (k := 0) (n := 0) (by first | exact Nat.le_of_ble_eq_true rfl | omega) (by first | exact Nat.le_of_ble_eq_true rfl | omega) ?_
  exact W.iret (v := (qFm S k1 k2 o x 16 0)) hx hb hr (fun t ht hW => ⟨⟨qFm S k1 k2 o x 16 0, (), rfl, by first | rfl | trivial | simp_all, ⟨by rw [ht]; exact hP, hD⟩⟩, hS.F ht⟩) hS.2.2 dX5_firstMoved_51

set_option maxHeartbeats 4000000 in
set_option maxRecDepth 100000 in
theorem mX5_firstMoved_b1 (l : Launch) (D : va_G) (y : Nat → ClassId) (sz : Nat) (g : Nat → Nat) (S : (Nat → Int32)) (th : Int32) (sv : Nat) (ln : Nat) (at9 : Nat) (pl : Nat) (va : Int32) (hs : Int64) (k1 : Int32) (k2 : Int32) (o : Int32) (x : Int32) (hb1 : ¬ ((¬ k1 < 0 ∧ ¬ (S 1 - 1) < k1) ∧ (¬ k2 < 0 ∧ ¬ (S 1 - 1) < k2) ∧ (¬ o < 0 ∧ ¬ 1 < o))) : Met l yX5_firstMoved (ws_ yX5_firstMoved cX5_firstMoved 5 (some .int)) ({ frames := 3, cells := 0, slots := 0, locals := 66 }) (va_Pc [.ref (g 0), .int k1, .int k2, .int o, .int x] (zRW D y [((g 0), .inr (5, [.int th, .ref (g 1), .int (nI sv), .ref (g 2), .ref (g 3), .int (nI ln), .int (nI at9), .int (nI pl), .int va, .long hs])), ((g 1), .inl (y 0, 4023, .inl S))] sz)) (va_Qi (fun (r : Int32) (_ : Unit) => r = 0) (fun (_ : Unit) t => zOut D (va_A [((g 0), .inr (5, [.int th, .ref (g 1), .int (nI sv), .ref (g 2), .ref (g 3), .int (nI ln), .int (nI at9), .int (nI pl), .int va, .long hs])), ((g 1), .inl (y 0, 4023, .inl S))] sz) [((g 0), .inr (5, [.int 1, .ref (g 1), .int (nI sv), .ref (g 2), .ref (g 3), .int (nI ln), .int (nI at9), .int (nI pl), .int va, .long hs])), ((g 1), .inl (y 0, 4023, .inl S))] t) (va_A [((g 0), .inr (5, [.int th, .ref (g 1), .int (nI sv), .ref (g 2), .ref (g 3), .int (nI ln), .int (nI at9), .int (nI pl), .int va, .long hs])), ((g 1), .inl (y 0, 4023, .inl S))] sz)) 0 0 (va_A [((g 0), .inr (5, [.int th, .ref (g 1), .int (nI sv), .ref (g 2), .ref (g 3), .int (nI ln), .int (nI at9), .int (nI pl), .int va, .long hs])), ((g 1), .inl (y 0, 4023, .inl S))] sz) := by
  refine Met.ofW (cc := cX5_firstMoved) (maxL := 5) (ret := (some .int)) (by decide) rfl ?_
  intro p e s m args below meth c s₁ B hml hpre9
  obtain ⟨rfl, hsz, hP, hKN, hD0⟩ := hpre9
  have hK := hKN.1
  have hx := B.exec
  have hb := B.bytes
  have hr := B.returns
  have hts := atoms_spec (ws := (ws_ yX5_firstMoved cX5_firstMoved 5 (some .int))) B.pre
  have htg : ∀ w ∈ gT, w.before _ s = true := fun w h => hts w (List.mem_cons_of_mem _ h)
  have hown : s.vm.findClass RX5 = some m.cls := findClass_of_methodNamed B.named
  have hlocks := B.notSynchronized
  subst hsz
  have hD := hD0.self (sz := s.heap.size)
  clear hD0
  generalize hAe : va_A [((g 0), .inr (5, [.int th, .ref (g 1), .int (nI sv), .ref (g 2), .ref (g 3), .int (nI ln), .int (nI at9), .int (nI pl), .int va, .long hs])), ((g 1), .inl (y 0, 4023, .inl S))] s.heap.size = A at hD ⊢
  have hA : ∀ q : Nat, s.heap.size ≤ q → A q := fun q h => by rw [← hAe]; exact Or.inr h
  have hS : va_S A s.heap s.heap [] := va_S.rf
  have hP : va_P D vwCl [((g 0), .inr (5, [.int th, .ref (g 1), .int (nI sv), .ref (g 2), .ref (g 3), .int (nI ln), .int (nI at9), .int (nI pl), .int va, .long hs])), ((g 1), .inl (y 0, 4023, .inl S))] s.heap := hP
  have hl := lv_entry ([.ref (g 0), .int k1, .int k2, .int o, .int x]) (n := 5) (Nat.le_of_ble_eq_true rfl)
  rw [lg_entry_eq]
  generalize (lg_sl ([.ref (g 0), .int k1, .int k2, .int o, .int x]) ++ List.replicate (5 - (lg_sl ([.ref (g 0), .int k1, .int k2, .int o, .int x])).length) Slot.unset).toArray = ls at hl ⊢
  have hl : lv_has ls 5 [(0, .ref (g 0)), (1, .int k1), (2, .int k2), (3, .int o), (4, .int x)] := hl
  refine lv_aload_n hx hb dX5_firstMoved_0 rfl (lv_at hl 0 rfl) ?_
  refine lv_aload_n hx hb dX5_firstMoved_1 rfl (lv_at hl 0 rfl) ?_
  refine lv_iload_n hx hb dX5_firstMoved_2 rfl (lv_at hl 1 rfl) ?_
  refine lv_iload_n hx hb dX5_firstMoved_3 rfl (lv_at hl 2 rfl) ?_
  refine lv_iload_n hx hb dX5_firstMoved_4 rfl (lv_at hl 3 rfl) ?_
  refine zr_calli (va_runV (As := [.int k1, .int k2, .int o]) (rest := [.ref (g 0)]) ⟨hx, hb, hml, hown, hts⟩ (mX5_arePair l D y g S th sv ln at9 pl va hs k1 k2 o) (cwV 3 hts (zgV tw_522 tw_523 tw_524 tw_369 tw_519) rfl rfl rfl (by decide +kernel) ⟨Nat.le_of_ble_eq_true rfl, Nat.le_of_ble_eq_true rfl⟩) (zRO_preV hKN hP (ci := 5) (q0 := 0) rfl rfl [0, 1] rfl) rfl rfl hl.1 rfl (lv_room (Nat.le_of_ble_eq_true rfl)) dX5_firstMoved_5 ⟨Nat.zero_le _, Nat.zero_le _⟩) hS (fun r_1 H locs hw_5 hT hS => ?_)
  replace hP := hT _ _ hP
  obtain rfl : r_1 = (if (¬ k1 < 0 ∧ ¬ (S 1 - 1) < k1) ∧ (¬ k2 < 0 ∧ ¬ (S 1 - 1) < k2) ∧ (¬ o < 0 ∧ ¬ 1 < o) then (1 : Int32) else 0) := hw_5
  refine lv_if_ne (tgt := 15) hx hb dX5_firstMoved_8 (by decide) (fun c_8 => absurd (zb0.mpr hb1) c_8) (fun _ => ?_)
  refine lv_iconst (v := 1) hx hb dX5_firstMoved_11 (by decide) ?_
  refine lv_goto (tgt := 32) hx hb dX5_firstMoved_12 (by decide) ?_
  refine zw_calli (wr := [((g 1), .inl (y 0, 4023, .inl S))]) (w1 := (fun _ : Unit => [((g 0), .inr (5, [.int 1, .ref (g 1), .int (nI sv), .ref (g 2), .ref (g 3), .int (nI ln), .int (nI at9), .int (nI pl), .int va, .long hs]))])) hP hD hS hA [0] [1] rfl rfl (by decide +kernel) (by decide +kernel) (va_runV (As := [.int 1]) (rest := []) ⟨hx, hb, hml, hown, hts⟩ (mX5_holds l D y _ g th sv ln at9 pl va hs 1) (cwV 1 hts (zgV tw_431 tw_432 tw_433 tw_369 tw_365) rfl rfl rfl (by decide +kernel) ⟨Nat.le_of_ble_eq_true rfl, Nat.le_of_ble_eq_true rfl⟩) (zRW_preV hKN hP hD (ci := 5) (q0 := 0) rfl rfl [0] rfl (by decide)) rfl rfl hl.1 rfl (lv_room (Nat.le_of_ble_eq_true rfl)) dX5_firstMoved_32 ⟨Nat.zero_le _, Nat.zero_le _⟩) (fun r_2 u_3 H locs hw_32 hP hD hS => ?_)
  have hP : va_P D vwCl [((g 1), .inl (y 0, 4023, .inl S)), ((g 0), .inr (5, [.int 1, .ref (g 1), .int (nI sv), .ref (g 2), .ref (g 3), .int (nI ln), .int (nI at9), .int (nI pl), .int va, .long hs]))] H := hP
  have hD : va_D A [((g 1), .inl (y 0, 4023, .inl S)), ((g 0), .inr (5, [.int 1, .ref (g 1), .int (nI sv), .ref (g 2), .ref (g 3), .int (nI ln), .int (nI at9), .int (nI pl), .int va, .long hs]))] := hD
  obtain rfl : r_2 = 0 := hw_32
  refine lv_if_eq (tgt := 50) hx hb dX5_firstMoved_35 (by decide) (fun _ => ?_) (fun c_35 => absurd (by decide) c_35)
  refine lv_iconst (v := 0) hx hb dX5_firstMoved_50 (by decide) ?_
  have hP := hP.sub (ws' := [((g 0), .inr (5, [.int 1, .ref (g 1), .int (nI sv), .ref (g 2), .ref (g 3), .int (nI ln), .int (nI at9), .int (nI pl), .int va, .long hs])), ((g 1), .inl (y 0, 4023, .inl S))]) [1, 0] rfl
  have hD := hD.sub (ws' := [((g 0), .inr (5, [.int 1, .ref (g 1), .int (nI sv), .ref (g 2), .ref (g 3), .int (nI ln), .int (nI at9), .int (nI pl), .int va, .long hs])), ((g 1), .inl (y 0, 4023, .inl S))]) [1, 0] (by decide) rfl
  refine W.widen (k := 0) (n := 0) (by first | exact Nat.le_of_ble_eq_true rfl | omega) (by first | exact Nat.le_of_ble_eq_true rfl | omega) ?_
  exact W.iret (v := 0) hx hb hr (fun t ht hW => ⟨⟨0, (), rfl, by first | rfl | trivial | simp_all, ⟨by rw [ht]; exact hP, hD⟩⟩, hS.F ht⟩) hS.2.2 dX5_firstMoved_51

set_option maxHeartbeats 4000000 in
set_option maxRecDepth 100000 in
theorem mX5_firstMoved_b2 (l : Launch) (D : va_G) (y : Nat → ClassId) (sz : Nat) (g : Nat → Nat) (S : (Nat → Int32)) (th : Int32) (sv : Nat) (ln : Nat) (at9 : Nat) (pl : Nat) (va : Int32) (hs : Int64) (k1 : Int32) (k2 : Int32) (o : Int32) (x : Int32) (h1 : (¬ k1 < 0 ∧ ¬ (S 1 - 1) < k1) ∧ (¬ k2 < 0 ∧ ¬ (S 1 - 1) < k2) ∧ (¬ o < 0 ∧ ¬ 1 < o)) (hb1 : ¬ (¬ x < 1 ∧ ¬ 999 < x)) : Met l yX5_firstMoved (ws_ yX5_firstMoved cX5_firstMoved 5 (some .int)) ({ frames := 3, cells := 0, slots := 0, locals := 66 }) (va_Pc [.ref (g 0), .int k1, .int k2, .int o, .int x] (zRW D y [((g 0), .inr (5, [.int th, .ref (g 1), .int (nI sv), .ref (g 2), .ref (g 3), .int (nI ln), .int (nI at9), .int (nI pl), .int va, .long hs])), ((g 1), .inl (y 0, 4023, .inl S))] sz)) (va_Qi (fun (r : Int32) (_ : Unit) => r = 0) (fun (_ : Unit) t => zOut D (va_A [((g 0), .inr (5, [.int th, .ref (g 1), .int (nI sv), .ref (g 2), .ref (g 3), .int (nI ln), .int (nI at9), .int (nI pl), .int va, .long hs])), ((g 1), .inl (y 0, 4023, .inl S))] sz) [((g 0), .inr (5, [.int 2, .ref (g 1), .int (nI sv), .ref (g 2), .ref (g 3), .int (nI ln), .int (nI at9), .int (nI pl), .int va, .long hs])), ((g 1), .inl (y 0, 4023, .inl S))] t) (va_A [((g 0), .inr (5, [.int th, .ref (g 1), .int (nI sv), .ref (g 2), .ref (g 3), .int (nI ln), .int (nI at9), .int (nI pl), .int va, .long hs])), ((g 1), .inl (y 0, 4023, .inl S))] sz)) 0 0 (va_A [((g 0), .inr (5, [.int th, .ref (g 1), .int (nI sv), .ref (g 2), .ref (g 3), .int (nI ln), .int (nI at9), .int (nI pl), .int va, .long hs])), ((g 1), .inl (y 0, 4023, .inl S))] sz) := by
  refine Met.ofW (cc := cX5_firstMoved) (maxL := 5) (ret := (some .int)) (by decide) rfl ?_
  intro p e s m args below meth c s₁ B hml hpre9
  obtain ⟨rfl, hsz, hP, hKN, hD0⟩ := hpre9
  have hK := hKN.1
  have hx := B.exec
  have hb := B.bytes
  have hr := B.returns
  have hts := atoms_spec (ws := (ws_ yX5_firstMoved cX5_firstMoved 5 (some .int))) B.pre
  have htg : ∀ w ∈ gT, w.before _ s = true := fun w h => hts w (List.mem_cons_of_mem _ h)
  have hown : s.vm.findClass RX5 = some m.cls := findClass_of_methodNamed B.named
  have hlocks := B.notSynchronized
  subst hsz
  have hD := hD0.self (sz := s.heap.size)
  clear hD0
  generalize hAe : va_A [((g 0), .inr (5, [.int th, .ref (g 1), .int (nI sv), .ref (g 2), .ref (g 3), .int (nI ln), .int (nI at9), .int (nI pl), .int va, .long hs])), ((g 1), .inl (y 0, 4023, .inl S))] s.heap.size = A at hD ⊢
  have hA : ∀ q : Nat, s.heap.size ≤ q → A q := fun q h => by rw [← hAe]; exact Or.inr h
  have hS : va_S A s.heap s.heap [] := va_S.rf
  have hP : va_P D vwCl [((g 0), .inr (5, [.int th, .ref (g 1), .int (nI sv), .ref (g 2), .ref (g 3), .int (nI ln), .int (nI at9), .int (nI pl), .int va, .long hs])), ((g 1), .inl (y 0, 4023, .inl S))] s.heap := hP
  have hl := lv_entry ([.ref (g 0), .int k1, .int k2, .int o, .int x]) (n := 5) (Nat.le_of_ble_eq_true rfl)
  rw [lg_entry_eq]
  generalize (lg_sl ([.ref (g 0), .int k1, .int k2, .int o, .int x]) ++ List.replicate (5 - (lg_sl ([.ref (g 0), .int k1, .int k2, .int o, .int x])).length) Slot.unset).toArray = ls at hl ⊢
  have hl : lv_has ls 5 [(0, .ref (g 0)), (1, .int k1), (2, .int k2), (3, .int o), (4, .int x)] := hl
  refine lv_aload_n hx hb dX5_firstMoved_0 rfl (lv_at hl 0 rfl) ?_
  refine lv_aload_n hx hb dX5_firstMoved_1 rfl (lv_at hl 0 rfl) ?_
  refine lv_iload_n hx hb dX5_firstMoved_2 rfl (lv_at hl 1 rfl) ?_
  refine lv_iload_n hx hb dX5_firstMoved_3 rfl (lv_at hl 2 rfl) ?_
  refine lv_iload_n hx hb dX5_firstMoved_4 rfl (lv_at hl 3 rfl) ?_
  refine zr_calli (va_runV (As := [.int k1, .int k2, .int o]) (rest := [.ref (g 0)]) ⟨hx, hb, hml, hown, hts⟩ (mX5_arePair l D y g S th sv ln at9 pl va hs k1 k2 o) (cwV 3 hts (zgV tw_522 tw_523 tw_524 tw_369 tw_519) rfl rfl rfl (by decide +kernel) ⟨Nat.le_of_ble_eq_true rfl, Nat.le_of_ble_eq_true rfl⟩) (zRO_preV hKN hP (ci := 5) (q0 := 0) rfl rfl [0, 1] rfl) rfl rfl hl.1 rfl (lv_room (Nat.le_of_ble_eq_true rfl)) dX5_firstMoved_5 ⟨Nat.zero_le _, Nat.zero_le _⟩) hS (fun r_1 H locs hw_5 hT hS => ?_)
  replace hP := hT _ _ hP
  obtain rfl : r_1 = (if (¬ k1 < 0 ∧ ¬ (S 1 - 1) < k1) ∧ (¬ k2 < 0 ∧ ¬ (S 1 - 1) < k2) ∧ (¬ o < 0 ∧ ¬ 1 < o) then (1 : Int32) else 0) := hw_5
  refine lv_if_ne (tgt := 15) hx hb dX5_firstMoved_8 (by decide) (fun _ => ?_) (fun c_8 => absurd c_8 (zb1.mpr h1))
  refine lv_iload hx hb dX5_firstMoved_15 (lv_at hl 4 rfl) ?_
  refine lv_iconst (v := 1) hx hb dX5_firstMoved_17 (by decide) ?_
  refine lv_sipush (v := 999) hx hb dX5_firstMoved_18 (by decide) ?_
  refine zr_calli (va_runS (As := [.int x, .int 1, .int 999]) (rest := [.ref (g 0)]) ⟨hx, hb, hml, hown, hts⟩ (mX5_in l x 1 999) (va_cwS 3 hts (zgS tw_367 tw_368 tw_369 tw_364) rfl rfl rfl (by decide +kernel) ⟨Nat.le_of_ble_eq_true rfl, Nat.le_of_ble_eq_true rfl⟩) zP_pre rfl rfl hl.1 rfl (lv_room (Nat.le_of_ble_eq_true rfl)) dX5_firstMoved_21 ⟨Nat.zero_le _, Nat.zero_le _⟩) hS (fun r_2 H locs hw_21 hT hS => ?_)
  replace hP := hT _ _ hP
  obtain rfl : r_2 = (if ¬ x < 1 ∧ ¬ 999 < x then (1 : Int32) else 0) := hw_21
  refine lv_if_ne (tgt := 31) hx hb dX5_firstMoved_24 (by decide) (fun c_24 => absurd (zb0.mpr hb1) c_24) (fun _ => ?_)
  refine lv_iconst (v := 2) hx hb dX5_firstMoved_27 (by decide) ?_
  refine lv_goto (tgt := 32) hx hb dX5_firstMoved_28 (by decide) ?_
  refine zw_calli (wr := [((g 1), .inl (y 0, 4023, .inl S))]) (w1 := (fun _ : Unit => [((g 0), .inr (5, [.int 2, .ref (g 1), .int (nI sv), .ref (g 2), .ref (g 3), .int (nI ln), .int (nI at9), .int (nI pl), .int va, .long hs]))])) hP hD hS hA [0] [1] rfl rfl (by decide +kernel) (by decide +kernel) (va_runV (As := [.int 2]) (rest := []) ⟨hx, hb, hml, hown, hts⟩ (mX5_holds l D y _ g th sv ln at9 pl va hs 2) (cwV 1 hts (zgV tw_431 tw_432 tw_433 tw_369 tw_365) rfl rfl rfl (by decide +kernel) ⟨Nat.le_of_ble_eq_true rfl, Nat.le_of_ble_eq_true rfl⟩) (zRW_preV hKN hP hD (ci := 5) (q0 := 0) rfl rfl [0] rfl (by decide)) rfl rfl hl.1 rfl (lv_room (Nat.le_of_ble_eq_true rfl)) dX5_firstMoved_32 ⟨Nat.zero_le _, Nat.zero_le _⟩) (fun r_3 u_4 H locs hw_32 hP hD hS => ?_)
  have hP : va_P D vwCl [((g 1), .inl (y 0, 4023, .inl S)), ((g 0), .inr (5, [.int 2, .ref (g 1), .int (nI sv), .ref (g 2), .ref (g 3), .int (nI ln), .int (nI at9), .int (nI pl), .int va, .long hs]))] H := hP
  have hD : va_D A [((g 1), .inl (y 0, 4023, .inl S)), ((g 0), .inr (5, [.int 2, .ref (g 1), .int (nI sv), .ref (g 2), .ref (g 3), .int (nI ln), .int (nI at9), .int (nI pl), .int va, .long hs]))] := hD
  obtain rfl : r_3 = 0 := hw_32
  refine lv_if_eq (tgt := 50) hx hb dX5_firstMoved_35 (by decide) (fun _ => ?_) (fun c_35 => absurd (by decide) c_35)
  refine lv_iconst (v := 0) hx hb dX5_firstMoved_50 (by decide) ?_
  have hP := hP.sub (ws' := [((g 0), .inr (5, [.int 2, .ref (g 1), .int (nI sv), .ref (g 2), .ref (g 3), .int (nI ln), .int (nI at9), .int (nI pl), .int va, .long hs])), ((g 1), .inl (y 0, 4023, .inl S))]) [1, 0] rfl
  have hD := hD.sub (ws' := [((g 0), .inr (5, [.int 2, .ref (g 1), .int (nI sv), .ref (g 2), .ref (g 3), .int (nI ln), .int (nI at9), .int (nI pl), .int va, .long hs])), ((g 1), .inl (y 0, 4023, .inl S))]) [1, 0] (by decide) rfl
  refine W.widen (k := 0) (n := 0) (by first | exact Nat.le_of_ble_eq_true rfl | omega) (by first | exact Nat.le_of_ble_eq_true rfl | omega) ?_
  exact W.iret (v := 0) hx hb hr (fun t ht hW => ⟨⟨0, (), rfl, by first | rfl | trivial | simp_all, ⟨by rw [ht]; exact hP, hD⟩⟩, hS.F ht⟩) hS.2.2 dX5_firstMoved_51

set_option maxHeartbeats 4000000 in
set_option maxRecDepth 100000 in
theorem mX5_meanCheck (l : Launch) (D : va_G) (y : Nat → ClassId) (sz : Nat) (g : Nat → Nat) (S : (Nat → Int32)) (th : Int32) (sv : Nat) (ln : Nat) (at9 : Nat) (pl : Nat) (va : Int32) (hs : Int64) (n : Nat) (k : Nat) (o : Nat) (hS1 : S 1 = nI n) (hn6 : n ≤ 6) (hk0 : k < n) (hq : o < 2) : Met l yX5_meanCheck (ws_ yX5_meanCheck cX5_meanCheck 3 (some .float)) ({ frames := 5, cells := 0, slots := 0, locals := 117 }) (va_Pc [.ref (g 0), .int (nI k), .int (nI o)] (zRW D y [((g 0), .inr (5, [.int th, .ref (g 1), .int (nI sv), .ref (g 2), .ref (g 3), .int (nI ln), .int (nI at9), .int (nI pl), .int va, .long hs])), ((g 1), .inl (y 0, 4023, .inl S))] sz)) (va_Qf (fun (r : UInt32) (_ : Unit) => r = qMe S k o) (fun (_ : Unit) t => zOut D (va_A [((g 0), .inr (5, [.int th, .ref (g 1), .int (nI sv), .ref (g 2), .ref (g 3), .int (nI ln), .int (nI at9), .int (nI pl), .int va, .long hs])), ((g 1), .inl (y 0, 4023, .inl S))] sz) [((g 0), .inr (5, [.int 0, .ref (g 1), .int (nI sv), .ref (g 2), .ref (g 3), .int (nI ln), .int (nI at9), .int (nI pl), .int va, .long hs])), ((g 1), .inl (y 0, 4023, .inl S))] t) (va_A [((g 0), .inr (5, [.int th, .ref (g 1), .int (nI sv), .ref (g 2), .ref (g 3), .int (nI ln), .int (nI at9), .int (nI pl), .int va, .long hs])), ((g 1), .inl (y 0, 4023, .inl S))] sz)) 0 0 (va_A [((g 0), .inr (5, [.int th, .ref (g 1), .int (nI sv), .ref (g 2), .ref (g 3), .int (nI ln), .int (nI at9), .int (nI pl), .int va, .long hs])), ((g 1), .inl (y 0, 4023, .inl S))] sz) := by
  refine Met.ofW (cc := cX5_meanCheck) (maxL := 3) (ret := (some .float)) (by decide) rfl ?_
  intro p e s m args below meth c s₁ B hml hpre9
  obtain ⟨rfl, hsz, hP, hKN, hD0⟩ := hpre9
  have hK := hKN.1
  have hx := B.exec
  have hb := B.bytes
  have hr := B.returns
  have hts := atoms_spec (ws := (ws_ yX5_meanCheck cX5_meanCheck 3 (some .float))) B.pre
  have htg : ∀ w ∈ gT, w.before _ s = true := fun w h => hts w (List.mem_cons_of_mem _ h)
  have hown : s.vm.findClass RX5 = some m.cls := findClass_of_methodNamed B.named
  have hlocks := B.notSynchronized
  subst hsz
  have hD := hD0.self (sz := s.heap.size)
  clear hD0
  generalize hAe : va_A [((g 0), .inr (5, [.int th, .ref (g 1), .int (nI sv), .ref (g 2), .ref (g 3), .int (nI ln), .int (nI at9), .int (nI pl), .int va, .long hs])), ((g 1), .inl (y 0, 4023, .inl S))] s.heap.size = A at hD ⊢
  have hA : ∀ q : Nat, s.heap.size ≤ q → A q := fun q h => by rw [← hAe]; exact Or.inr h
  have hS : va_S A s.heap s.heap [] := va_S.rf
  have hP : va_P D vwCl [((g 0), .inr (5, [.int th, .ref (g 1), .int (nI sv), .ref (g 2), .ref (g 3), .int (nI ln), .int (nI at9), .int (nI pl), .int va, .long hs])), ((g 1), .inl (y 0, 4023, .inl S))] s.heap := hP
  have hl := lv_entry ([.ref (g 0), .int (nI k), .int (nI o)]) (n := 3) (Nat.le_of_ble_eq_true rfl)
  rw [lg_entry_eq]
  generalize (lg_sl ([.ref (g 0), .int (nI k), .int (nI o)]) ++ List.replicate (3 - (lg_sl ([.ref (g 0), .int (nI k), .int (nI o)])).length) Slot.unset).toArray = ls at hl ⊢
  have hl : lv_has ls 3 [(0, .ref (g 0)), (1, .int (nI k)), (2, .int (nI o))] := hl
  refine lv_aload_n hx hb dX5_meanCheck_0 rfl (lv_at hl 0 rfl) ?_
  refine lv_aload_n hx hb dX5_meanCheck_1 rfl (lv_at hl 0 rfl) ?_
  refine lv_iload_n hx hb dX5_meanCheck_2 rfl (lv_at hl 1 rfl) ?_
  refine zr_calli (va_runV (As := [.int (nI k)]) (rest := [.ref (g 0)]) ⟨hx, hb, hml, hown, hts⟩ (mX5_isSurvey l D y g S th sv ln at9 pl va hs (nI k)) (cwV 1 hts (zgV tw_486 tw_487 tw_488 tw_369 tw_371) rfl rfl rfl (by decide +kernel) ⟨Nat.le_of_ble_eq_true rfl, Nat.le_of_ble_eq_true rfl⟩) (zRO_preV hKN hP (ci := 5) (q0 := 0) rfl rfl [0, 1] rfl) rfl rfl hl.1 rfl (lv_room (Nat.le_of_ble_eq_true rfl)) dX5_meanCheck_3 ⟨Nat.zero_le _, Nat.zero_le _⟩) hS (fun r_1 H locs hw_3 hT hS => ?_)
  replace hP := hT _ _ hP
  obtain rfl : r_1 = (if ¬ (nI k) < 0 ∧ ¬ (S 1 - 1) < (nI k) then (1 : Int32) else 0) := hw_3
  refine lv_if_eq (tgt := 20) hx hb dX5_meanCheck_6 (by decide) (fun c_6 => absurd c_6 (zb1.mpr ⟨nI_pos (n := k) (by omega), zsu hS1 (by omega) hn6⟩)) (fun _ => ?_)
  refine lv_iload_n hx hb dX5_meanCheck_9 rfl (lv_at hl 2 rfl) ?_
  refine zr_calli (va_runS (As := [.int (nI o)]) (rest := [.ref (g 0)]) ⟨hx, hb, hml, hown, hts⟩ (mX5_isSide l (nI o)) (va_cwS 1 hts (zgS tw_429 tw_430 tw_369 tw_370) rfl rfl rfl (by decide +kernel) ⟨Nat.le_of_ble_eq_true rfl, Nat.le_of_ble_eq_true rfl⟩) zP_pre rfl rfl hl.1 rfl (lv_room (Nat.le_of_ble_eq_true rfl)) dX5_meanCheck_10 ⟨Nat.zero_le _, Nat.zero_le _⟩) hS (fun r_2 H locs hw_10 hT hS => ?_)
  replace hP := hT _ _ hP
  obtain rfl : r_2 = (if ¬ (nI o) < 0 ∧ ¬ 1 < (nI o) then (1 : Int32) else 0) := hw_10
  refine lv_if_eq (tgt := 20) hx hb dX5_meanCheck_13 (by decide) (fun c_13 => absurd c_13 (zb1.mpr ⟨nI_pos (n := o) (by omega), nI_nlt (a := 1) (b := o) (by omega) (by omega)⟩)) (fun _ => ?_)
  refine lv_iconst (v := 0) hx hb dX5_meanCheck_16 (by decide) ?_
  refine lv_goto (tgt := 21) hx hb dX5_meanCheck_17 (by decide) ?_
  refine zw_calli (wr := [((g 1), .inl (y 0, 4023, .inl S))]) (w1 := (fun _ : Unit => [((g 0), .inr (5, [.int 0, .ref (g 1), .int (nI sv), .ref (g 2), .ref (g 3), .int (nI ln), .int (nI at9), .int (nI pl), .int va, .long hs]))])) hP hD hS hA [0] [1] rfl rfl (by decide +kernel) (by decide +kernel) (va_runV (As := [.int 0]) (rest := []) ⟨hx, hb, hml, hown, hts⟩ (mX5_holds l D y _ g th sv ln at9 pl va hs 0) (cwV 1 hts (zgV tw_431 tw_432 tw_433 tw_369 tw_365) rfl rfl rfl (by decide +kernel) ⟨Nat.le_of_ble_eq_true rfl, Nat.le_of_ble_eq_true rfl⟩) (zRW_preV hKN hP hD (ci := 5) (q0 := 0) rfl rfl [0] rfl (by decide)) rfl rfl hl.1 rfl (lv_room (Nat.le_of_ble_eq_true rfl)) dX5_meanCheck_21 ⟨Nat.zero_le _, Nat.zero_le _⟩) (fun r_3 u_4 H locs hw_21 hP hD hS => ?_)
  have hP : va_P D vwCl [((g 1), .inl (y 0, 4023, .inl S)), ((g 0), .inr (5, [.int 0, .ref (g 1), .int (nI sv), .ref (g 2), .ref (g 3), .int (nI ln), .int (nI at9), .int (nI pl), .int va, .long hs]))] H := hP
  have hD : va_D A [((g 1), .inl (y 0, 4023, .inl S)), ((g 0), .inr (5, [.int 0, .ref (g 1), .int (nI sv), .ref (g 2), .ref (g 3), .int (nI ln), .int (nI at9), .int (nI pl), .int va, .long hs]))] := hD
  obtain rfl : r_3 = 1 := hw_21
  refine lv_if_eq (tgt := 36) hx hb dX5_meanCheck_24 (by decide) (fun c_24 => absurd c_24 (by decide)) (fun _ => ?_)
  refine lv_aload_n hx hb dX5_meanCheck_27 rfl (lv_at hl 0 rfl) ?_
  refine lv_iload_n hx hb dX5_meanCheck_28 rfl (lv_at hl 1 rfl) ?_
  refine lv_iload_n hx hb dX5_meanCheck_29 rfl (lv_at hl 2 rfl) ?_
  refine zr_callf (va_runV (As := [.int (nI k), .int (nI o)]) (rest := []) ⟨hx, hb, hml, hown, hts⟩ (mX5_mean l D y g S 0 sv ln at9 pl va hs k o (by first | assumption | rfl | omega | decide) (by first | assumption | rfl | omega | decide)) (cwV 2 hts (zgV tw_550 tw_551 tw_552 tw_369 tw_544) rfl rfl rfl (by decide +kernel) ⟨Nat.le_of_ble_eq_true rfl, Nat.le_of_ble_eq_true rfl⟩) (zRO_preV hKN hP (ci := 5) (q0 := 1) rfl rfl [1, 0] rfl) rfl rfl hl.1 rfl (lv_room (Nat.le_of_ble_eq_true rfl)) dX5_meanCheck_30 ⟨Nat.zero_le _, Nat.zero_le _⟩) hS (fun r_5 H locs hw_30 hT hS => ?_)
  replace hP := hT _ _ hP
  obtain rfl : r_5 = qMe S k o := hw_30
  refine lv_goto (tgt := 37) hx hb dX5_meanCheck_33 (by decide) ?_
  have hP := hP.sub (ws' := [((g 0), .inr (5, [.int 0, .ref (g 1), .int (nI sv), .ref (g 2), .ref (g 3), .int (nI ln), .int (nI at9), .int (nI pl), .int va, .long hs])), ((g 1), .inl (y 0, 4023, .inl S))]) [1, 0] rfl
  have hD := hD.sub (ws' := [((g 0), .inr (5, [.int 0, .ref (g 1), .int (nI sv), .ref (g 2), .ref (g 3), .int (nI ln), .int (nI at9), .int (nI pl), .int va, .long hs])), ((g 1), .inl (y 0, 4023, .inl S))]) [1, 0] (by decide) rfl
  refine W.widen (k := 0) (n := 0) (by first | exact Nat.le_of_ble_eq_true rfl | omega) (by first | exact Nat.le_of_ble_eq_true rfl | omega) ?_
  exact W.fret (v := (qMe S k o)) hx hb hr (fun t ht hW => ⟨⟨qMe S k o, (), rfl, by first | rfl | trivial | simp_all, ⟨by rw [ht]; exact hP, hD⟩⟩, hS.F ht⟩) hS.2.2 dX5_meanCheck_37

set_option maxHeartbeats 4000000 in
set_option maxRecDepth 100000 in
theorem mX5_spread (l : Launch) (D : va_G) (y : Nat → ClassId) (sz : Nat) (g : Nat → Nat) (S : (Nat → Int32)) (th : Int32) (sv : Nat) (ln : Nat) (at9 : Nat) (pl : Nat) (va : Int32) (hs : Int64) (n : Nat) (k : Nat) (o : Nat) (hS1 : S 1 = nI n) (hn6 : n ≤ 6) (hk0 : k < n) (hq : o < 2) (hB : ∀ v : Nat, v < 16 → -1800 ≤ (qCk S k v o).toInt ∧ (qCk S k v o).toInt ≤ 1800) : Met l yX5_spread (ws_ yX5_spread cX5_spread 3 (some .double)) ({ frames := 5, cells := 0, slots := 0, locals := 121 }) (va_Pc [.ref (g 0), .int (nI k), .int (nI o)] (zRW D y [((g 0), .inr (5, [.int th, .ref (g 1), .int (nI sv), .ref (g 2), .ref (g 3), .int (nI ln), .int (nI at9), .int (nI pl), .int va, .long hs])), ((g 1), .inl (y 0, 4023, .inl S))] sz)) (va_Qd (fun (r : UInt64) (_ : Unit) => r = qSd S k o) (fun (_ : Unit) t => zOut D (va_A [((g 0), .inr (5, [.int th, .ref (g 1), .int (nI sv), .ref (g 2), .ref (g 3), .int (nI ln), .int (nI at9), .int (nI pl), .int va, .long hs])), ((g 1), .inl (y 0, 4023, .inl S))] sz) [((g 0), .inr (5, [.int 0, .ref (g 1), .int (nI sv), .ref (g 2), .ref (g 3), .int (nI ln), .int (nI at9), .int (nI pl), .int va, .long hs])), ((g 1), .inl (y 0, 4023, .inl S))] t) (va_A [((g 0), .inr (5, [.int th, .ref (g 1), .int (nI sv), .ref (g 2), .ref (g 3), .int (nI ln), .int (nI at9), .int (nI pl), .int va, .long hs])), ((g 1), .inl (y 0, 4023, .inl S))] sz)) 0 0 (va_A [((g 0), .inr (5, [.int th, .ref (g 1), .int (nI sv), .ref (g 2), .ref (g 3), .int (nI ln), .int (nI at9), .int (nI pl), .int va, .long hs])), ((g 1), .inl (y 0, 4023, .inl S))] sz) := by
  refine Met.ofW (cc := cX5_spread) (maxL := 3) (ret := (some .double)) (by decide) rfl ?_
  intro p e s m args below meth c s₁ B hml hpre9
  obtain ⟨rfl, hsz, hP, hKN, hD0⟩ := hpre9
  have hK := hKN.1
  have hx := B.exec
  have hb := B.bytes
  have hr := B.returns
  have hts := atoms_spec (ws := (ws_ yX5_spread cX5_spread 3 (some .double))) B.pre
  have htg : ∀ w ∈ gT, w.before _ s = true := fun w h => hts w (List.mem_cons_of_mem _ h)
  have hown : s.vm.findClass RX5 = some m.cls := findClass_of_methodNamed B.named
  have hlocks := B.notSynchronized
  subst hsz
  have hD := hD0.self (sz := s.heap.size)
  clear hD0
  generalize hAe : va_A [((g 0), .inr (5, [.int th, .ref (g 1), .int (nI sv), .ref (g 2), .ref (g 3), .int (nI ln), .int (nI at9), .int (nI pl), .int va, .long hs])), ((g 1), .inl (y 0, 4023, .inl S))] s.heap.size = A at hD ⊢
  have hA : ∀ q : Nat, s.heap.size ≤ q → A q := fun q h => by rw [← hAe]; exact Or.inr h
  have hS : va_S A s.heap s.heap [] := va_S.rf
  have hP : va_P D vwCl [((g 0), .inr (5, [.int th, .ref (g 1), .int (nI sv), .ref (g 2), .ref (g 3), .int (nI ln), .int (nI at9), .int (nI pl), .int va, .long hs])), ((g 1), .inl (y 0, 4023, .inl S))] s.heap := hP
  have hl := lv_entry ([.ref (g 0), .int (nI k), .int (nI o)]) (n := 3) (Nat.le_of_ble_eq_true rfl)
  rw [lg_entry_eq]
  generalize (lg_sl ([.ref (g 0), .int (nI k), .int (nI o)]) ++ List.replicate (3 - (lg_sl ([.ref (g 0), .int (nI k), .int (nI o)])).length) Slot.unset).toArray = ls at hl ⊢
  have hl : lv_has ls 3 [(0, .ref (g 0)), (1, .int (nI k)), (2, .int (nI o))] := hl
  refine lv_aload_n hx hb dX5_spread_0 rfl (lv_at hl 0 rfl) ?_
  refine lv_aload_n hx hb dX5_spread_1 rfl (lv_at hl 0 rfl) ?_
  refine lv_iload_n hx hb dX5_spread_2 rfl (lv_at hl 1 rfl) ?_
  refine zr_calli (va_runV (As := [.int (nI k)]) (rest := [.ref (g 0)]) ⟨hx, hb, hml, hown, hts⟩ (mX5_isSurvey l D y g S th sv ln at9 pl va hs (nI k)) (cwV 1 hts (zgV tw_486 tw_487 tw_488 tw_369 tw_371) rfl rfl rfl (by decide +kernel) ⟨Nat.le_of_ble_eq_true rfl, Nat.le_of_ble_eq_true rfl⟩) (zRO_preV hKN hP (ci := 5) (q0 := 0) rfl rfl [0, 1] rfl) rfl rfl hl.1 rfl (lv_room (Nat.le_of_ble_eq_true rfl)) dX5_spread_3 ⟨Nat.zero_le _, Nat.zero_le _⟩) hS (fun r_1 H locs hw_3 hT hS => ?_)
  replace hP := hT _ _ hP
  obtain rfl : r_1 = (if ¬ (nI k) < 0 ∧ ¬ (S 1 - 1) < (nI k) then (1 : Int32) else 0) := hw_3
  refine lv_if_eq (tgt := 20) hx hb dX5_spread_6 (by decide) (fun c_6 => absurd c_6 (zb1.mpr ⟨nI_pos (n := k) (by omega), zsu hS1 (by omega) hn6⟩)) (fun _ => ?_)
  refine lv_iload_n hx hb dX5_spread_9 rfl (lv_at hl 2 rfl) ?_
  refine zr_calli (va_runS (As := [.int (nI o)]) (rest := [.ref (g 0)]) ⟨hx, hb, hml, hown, hts⟩ (mX5_isSide l (nI o)) (va_cwS 1 hts (zgS tw_429 tw_430 tw_369 tw_370) rfl rfl rfl (by decide +kernel) ⟨Nat.le_of_ble_eq_true rfl, Nat.le_of_ble_eq_true rfl⟩) zP_pre rfl rfl hl.1 rfl (lv_room (Nat.le_of_ble_eq_true rfl)) dX5_spread_10 ⟨Nat.zero_le _, Nat.zero_le _⟩) hS (fun r_2 H locs hw_10 hT hS => ?_)
  replace hP := hT _ _ hP
  obtain rfl : r_2 = (if ¬ (nI o) < 0 ∧ ¬ 1 < (nI o) then (1 : Int32) else 0) := hw_10
  refine lv_if_eq (tgt := 20) hx hb dX5_spread_13 (by decide) (fun c_13 => absurd c_13 (zb1.mpr ⟨nI_pos (n := o) (by omega), nI_nlt (a := 1) (b := o) (by omega) (by omega)⟩)) (fun _ => ?_)
  refine lv_iconst (v := 0) hx hb dX5_spread_16 (by decide) ?_
  refine lv_goto (tgt := 21) hx hb dX5_spread_17 (by decide) ?_
  refine zw_calli (wr := [((g 1), .inl (y 0, 4023, .inl S))]) (w1 := (fun _ : Unit => [((g 0), .inr (5, [.int 0, .ref (g 1), .int (nI sv), .ref (g 2), .ref (g 3), .int (nI ln), .int (nI at9), .int (nI pl), .int va, .long hs]))])) hP hD hS hA [0] [1] rfl rfl (by decide +kernel) (by decide +kernel) (va_runV (As := [.int 0]) (rest := []) ⟨hx, hb, hml, hown, hts⟩ (mX5_holds l D y _ g th sv ln at9 pl va hs 0) (cwV 1 hts (zgV tw_431 tw_432 tw_433 tw_369 tw_365) rfl rfl rfl (by decide +kernel) ⟨Nat.le_of_ble_eq_true rfl, Nat.le_of_ble_eq_true rfl⟩) (zRW_preV hKN hP hD (ci := 5) (q0 := 0) rfl rfl [0] rfl (by decide)) rfl rfl hl.1 rfl (lv_room (Nat.le_of_ble_eq_true rfl)) dX5_spread_21 ⟨Nat.zero_le _, Nat.zero_le _⟩) (fun r_3 u_4 H locs hw_21 hP hD hS => ?_)
  have hP : va_P D vwCl [((g 1), .inl (y 0, 4023, .inl S)), ((g 0), .inr (5, [.int 0, .ref (g 1), .int (nI sv), .ref (g 2), .ref (g 3), .int (nI ln), .int (nI at9), .int (nI pl), .int va, .long hs]))] H := hP
  have hD : va_D A [((g 1), .inl (y 0, 4023, .inl S)), ((g 0), .inr (5, [.int 0, .ref (g 1), .int (nI sv), .ref (g 2), .ref (g 3), .int (nI ln), .int (nI at9), .int (nI pl), .int va, .long hs]))] := hD
  obtain rfl : r_3 = 1 := hw_21
  refine lv_if_eq (tgt := 36) hx hb dX5_spread_24 (by decide) (fun c_24 => absurd c_24 (by decide)) (fun _ => ?_)
  refine lv_aload_n hx hb dX5_spread_27 rfl (lv_at hl 0 rfl) ?_
  refine lv_iload_n hx hb dX5_spread_28 rfl (lv_at hl 1 rfl) ?_
  refine lv_iload_n hx hb dX5_spread_29 rfl (lv_at hl 2 rfl) ?_
  refine zr_calld (va_runV (As := [.int (nI k), .int (nI o)]) (rest := []) ⟨hx, hb, hml, hown, hts⟩ (mX5_spreadOf l D y g S 0 sv ln at9 pl va hs k o (by first | assumption | rfl | omega | decide) (by first | assumption | rfl | omega | decide) (by first | assumption | rfl | omega | decide)) (cwV 2 hts (zgV tw_557 tw_558 tw_559 tw_369 tw_553) rfl rfl rfl (by decide +kernel) ⟨Nat.le_of_ble_eq_true rfl, Nat.le_of_ble_eq_true rfl⟩) (zRO_preV hKN hP (ci := 5) (q0 := 1) rfl rfl [1, 0] rfl) rfl rfl hl.1 rfl (lv_room (Nat.le_of_ble_eq_true rfl)) dX5_spread_30 ⟨Nat.zero_le _, Nat.zero_le _⟩) hS (fun r_5 H locs hw_30 hT hS => ?_)
  replace hP := hT _ _ hP
  obtain rfl : r_5 = qSd S k o := hw_30
  refine lv_goto (tgt := 37) hx hb dX5_spread_33 (by decide) ?_
  have hP := hP.sub (ws' := [((g 0), .inr (5, [.int 0, .ref (g 1), .int (nI sv), .ref (g 2), .ref (g 3), .int (nI ln), .int (nI at9), .int (nI pl), .int va, .long hs])), ((g 1), .inl (y 0, 4023, .inl S))]) [1, 0] rfl
  have hD := hD.sub (ws' := [((g 0), .inr (5, [.int 0, .ref (g 1), .int (nI sv), .ref (g 2), .ref (g 3), .int (nI ln), .int (nI at9), .int (nI pl), .int va, .long hs])), ((g 1), .inl (y 0, 4023, .inl S))]) [1, 0] (by decide) rfl
  refine W.widen (k := 0) (n := 0) (by first | exact Nat.le_of_ble_eq_true rfl | omega) (by first | exact Nat.le_of_ble_eq_true rfl | omega) ?_
  exact W.dret (v := (qSd S k o)) hx hb hr (fun t ht hW => ⟨⟨qSd S k o, (), rfl, by first | rfl | trivial | simp_all, ⟨by rw [ht]; exact hP, hD⟩⟩, hS.F ht⟩) hS.2.2 dX5_spread_37

set_option maxHeartbeats 4000000 in
set_option maxRecDepth 100000 in
theorem mX5_meanCheck_b1 (l : Launch) (D : va_G) (y : Nat → ClassId) (sz : Nat) (g : Nat → Nat) (S : (Nat → Int32)) (th : Int32) (sv : Nat) (ln : Nat) (at9 : Nat) (pl : Nat) (va : Int32) (hs : Int64) (k : Int32) (o : Int32) (hb1 : ¬ ((¬ k < 0 ∧ ¬ (S 1 - 1) < k) ∧ (¬ o < 0 ∧ ¬ 1 < o))) : Met l yX5_meanCheck (ws_ yX5_meanCheck cX5_meanCheck 3 (some .float)) ({ frames := 2, cells := 0, slots := 0, locals := 43 }) (va_Pc [.ref (g 0), .int k, .int o] (zRW D y [((g 0), .inr (5, [.int th, .ref (g 1), .int (nI sv), .ref (g 2), .ref (g 3), .int (nI ln), .int (nI at9), .int (nI pl), .int va, .long hs])), ((g 1), .inl (y 0, 4023, .inl S))] sz)) (va_Qf (fun (r : UInt32) (_ : Unit) => r = FP.fconst0) (fun (_ : Unit) t => zOut D (va_A [((g 0), .inr (5, [.int th, .ref (g 1), .int (nI sv), .ref (g 2), .ref (g 3), .int (nI ln), .int (nI at9), .int (nI pl), .int va, .long hs])), ((g 1), .inl (y 0, 4023, .inl S))] sz) [((g 0), .inr (5, [.int 1, .ref (g 1), .int (nI sv), .ref (g 2), .ref (g 3), .int (nI ln), .int (nI at9), .int (nI pl), .int va, .long hs])), ((g 1), .inl (y 0, 4023, .inl S))] t) (va_A [((g 0), .inr (5, [.int th, .ref (g 1), .int (nI sv), .ref (g 2), .ref (g 3), .int (nI ln), .int (nI at9), .int (nI pl), .int va, .long hs])), ((g 1), .inl (y 0, 4023, .inl S))] sz)) 0 0 (va_A [((g 0), .inr (5, [.int th, .ref (g 1), .int (nI sv), .ref (g 2), .ref (g 3), .int (nI ln), .int (nI at9), .int (nI pl), .int va, .long hs])), ((g 1), .inl (y 0, 4023, .inl S))] sz) := by
  refine Met.ofW (cc := cX5_meanCheck) (maxL := 3) (ret := (some .float)) (by decide) rfl ?_
  intro p e s m args below meth c s₁ B hml hpre9
  obtain ⟨rfl, hsz, hP, hKN, hD0⟩ := hpre9
  have hK := hKN.1
  have hx := B.exec
  have hb := B.bytes
  have hr := B.returns
  have hts := atoms_spec (ws := (ws_ yX5_meanCheck cX5_meanCheck 3 (some .float))) B.pre
  have htg : ∀ w ∈ gT, w.before _ s = true := fun w h => hts w (List.mem_cons_of_mem _ h)
  have hown : s.vm.findClass RX5 = some m.cls := findClass_of_methodNamed B.named
  have hlocks := B.notSynchronized
  subst hsz
  have hD := hD0.self (sz := s.heap.size)
  clear hD0
  generalize hAe : va_A [((g 0), .inr (5, [.int th, .ref (g 1), .int (nI sv), .ref (g 2), .ref (g 3), .int (nI ln), .int (nI at9), .int (nI pl), .int va, .long hs])), ((g 1), .inl (y 0, 4023, .inl S))] s.heap.size = A at hD ⊢
  have hA : ∀ q : Nat, s.heap.size ≤ q → A q := fun q h => by rw [← hAe]; exact Or.inr h
  have hS : va_S A s.heap s.heap [] := va_S.rf
  have hP : va_P D vwCl [((g 0), .inr (5, [.int th, .ref (g 1), .int (nI sv), .ref (g 2), .ref (g 3), .int (nI ln), .int (nI at9), .int (nI pl), .int va, .long hs])), ((g 1), .inl (y 0, 4023, .inl S))] s.heap := hP
  have hl := lv_entry ([.ref (g 0), .int k, .int o]) (n := 3) (Nat.le_of_ble_eq_true rfl)
  rw [lg_entry_eq]
  generalize (lg_sl ([.ref (g 0), .int k, .int o]) ++ List.replicate (3 - (lg_sl ([.ref (g 0), .int k, .int o])).length) Slot.unset).toArray = ls at hl ⊢
  have hl : lv_has ls 3 [(0, .ref (g 0)), (1, .int k), (2, .int o)] := hl
  refine lv_aload_n hx hb dX5_meanCheck_0 rfl (lv_at hl 0 rfl) ?_
  refine lv_aload_n hx hb dX5_meanCheck_1 rfl (lv_at hl 0 rfl) ?_
  refine lv_iload_n hx hb dX5_meanCheck_2 rfl (lv_at hl 1 rfl) ?_
  refine zr_calli (va_runV (As := [.int k]) (rest := [.ref (g 0)]) ⟨hx, hb, hml, hown, hts⟩ (mX5_isSurvey l D y g S th sv ln at9 pl va hs k) (cwV 1 hts (zgV tw_486 tw_487 tw_488 tw_369 tw_371) rfl rfl rfl (by decide +kernel) ⟨Nat.le_of_ble_eq_true rfl, Nat.le_of_ble_eq_true rfl⟩) (zRO_preV hKN hP (ci := 5) (q0 := 0) rfl rfl [0, 1] rfl) rfl rfl hl.1 rfl (lv_room (Nat.le_of_ble_eq_true rfl)) dX5_meanCheck_3 ⟨Nat.zero_le _, Nat.zero_le _⟩) hS (fun r_1 H locs hw_3 hT hS => ?_)
  replace hP := hT _ _ hP
  obtain rfl : r_1 = (if ¬ k < 0 ∧ ¬ (S 1 - 1) < k then (1 : Int32) else 0) := hw_3
  refine lv_if_eq (tgt := 20) hx hb dX5_meanCheck_6 (by decide) (fun c_6 => ?_) (fun c_6 => ?_)
  · replace c_6 := zb0.mp c_6
    refine lv_iconst (v := 1) hx hb dX5_meanCheck_20 (by decide) ?_
    refine zw_calli (wr := [((g 1), .inl (y 0, 4023, .inl S))]) (w1 := (fun _ : Unit => [((g 0), .inr (5, [.int 1, .ref (g 1), .int (nI sv), .ref (g 2), .ref (g 3), .int (nI ln), .int (nI at9), .int (nI pl), .int va, .long hs]))])) hP hD hS hA [0] [1] rfl rfl (by decide +kernel) (by decide +kernel) (va_runV (As := [.int 1]) (rest := []) ⟨hx, hb, hml, hown, hts⟩ (mX5_holds l D y _ g th sv ln at9 pl va hs 1) (cwV 1 hts (zgV tw_431 tw_432 tw_433 tw_369 tw_365) rfl rfl rfl (by decide +kernel) ⟨Nat.le_of_ble_eq_true rfl, Nat.le_of_ble_eq_true rfl⟩) (zRW_preV hKN hP hD (ci := 5) (q0 := 0) rfl rfl [0] rfl (by decide)) rfl rfl hl.1 rfl (lv_room (Nat.le_of_ble_eq_true rfl)) dX5_meanCheck_21 ⟨Nat.zero_le _, Nat.zero_le _⟩) (fun r_2 u_3 H locs hw_21 hP hD hS => ?_)
    have hP : va_P D vwCl [((g 1), .inl (y 0, 4023, .inl S)), ((g 0), .inr (5, [.int 1, .ref (g 1), .int (nI sv), .ref (g 2), .ref (g 3), .int (nI ln), .int (nI at9), .int (nI pl), .int va, .long hs]))] H := hP
    have hD : va_D A [((g 1), .inl (y 0, 4023, .inl S)), ((g 0), .inr (5, [.int 1, .ref (g 1), .int (nI sv), .ref (g 2), .ref (g 3), .int (nI ln), .int (nI at9), .int (nI pl), .int va, .long hs]))] := hD
    obtain rfl : r_2 = 0 := hw_21
    refine lv_if_eq (tgt := 36) hx hb dX5_meanCheck_24 (by decide) (fun _ => ?_) (fun c_24 => absurd (by decide) c_24)
    refine lv_fconst0 hx hb dX5_meanCheck_36 ?_
    have hP := hP.sub (ws' := [((g 0), .inr (5, [.int 1, .ref (g 1), .int (nI sv), .ref (g 2), .ref (g 3), .int (nI ln), .int (nI at9), .int (nI pl), .int va, .long hs])), ((g 1), .inl (y 0, 4023, .inl S))]) [1, 0] rfl
    have hD := hD.sub (ws' := [((g 0), .inr (5, [.int 1, .ref (g 1), .int (nI sv), .ref (g 2), .ref (g 3), .int (nI ln), .int (nI at9), .int (nI pl), .int va, .long hs])), ((g 1), .inl (y 0, 4023, .inl S))]) [1, 0] (by decide) rfl
    refine W.widen (k := 0) (n := 0) (by first | exact Nat.le_of_ble_eq_true rfl | omega) (by first | exact Nat.le_of_ble_eq_true rfl | omega) ?_
    exact W.fret (v := FP.fconst0) hx hb hr (fun t ht hW => ⟨⟨FP.fconst0, (), rfl, by first | rfl | trivial | simp_all, ⟨by rw [ht]; exact hP, hD⟩⟩, hS.F ht⟩) hS.2.2 dX5_meanCheck_37
  · replace c_6 := zb1.mp c_6
    refine lv_iload_n hx hb dX5_meanCheck_9 rfl (lv_at hl 2 rfl) ?_
    refine zr_calli (va_runS (As := [.int o]) (rest := [.ref (g 0)]) ⟨hx, hb, hml, hown, hts⟩ (mX5_isSide l o) (va_cwS 1 hts (zgS tw_429 tw_430 tw_369 tw_370) rfl rfl rfl (by decide +kernel) ⟨Nat.le_of_ble_eq_true rfl, Nat.le_of_ble_eq_true rfl⟩) zP_pre rfl rfl hl.1 rfl (lv_room (Nat.le_of_ble_eq_true rfl)) dX5_meanCheck_10 ⟨Nat.zero_le _, Nat.zero_le _⟩) hS (fun r_4 H locs hw_10 hT hS => ?_)
    replace hP := hT _ _ hP
    obtain rfl : r_4 = (if ¬ o < 0 ∧ ¬ 1 < o then (1 : Int32) else 0) := hw_10
    refine lv_if_eq (tgt := 20) hx hb dX5_meanCheck_13 (by decide) (fun c_13 => ?_) (fun c_13 => ?_)
    · replace c_13 := zb0.mp c_13
      refine lv_iconst (v := 1) hx hb dX5_meanCheck_20 (by decide) ?_
      refine zw_calli (wr := [((g 1), .inl (y 0, 4023, .inl S))]) (w1 := (fun _ : Unit => [((g 0), .inr (5, [.int 1, .ref (g 1), .int (nI sv), .ref (g 2), .ref (g 3), .int (nI ln), .int (nI at9), .int (nI pl), .int va, .long hs]))])) hP hD hS hA [0] [1] rfl rfl (by decide +kernel) (by decide +kernel) (va_runV (As := [.int 1]) (rest := []) ⟨hx, hb, hml, hown, hts⟩ (mX5_holds l D y _ g th sv ln at9 pl va hs 1) (cwV 1 hts (zgV tw_431 tw_432 tw_433 tw_369 tw_365) rfl rfl rfl (by decide +kernel) ⟨Nat.le_of_ble_eq_true rfl, Nat.le_of_ble_eq_true rfl⟩) (zRW_preV hKN hP hD (ci := 5) (q0 := 0) rfl rfl [0] rfl (by decide)) rfl rfl hl.1 rfl (lv_room (Nat.le_of_ble_eq_true rfl)) dX5_meanCheck_21 ⟨Nat.zero_le _, Nat.zero_le _⟩) (fun r_5 u_6 H locs hw_21 hP hD hS => ?_)
      have hP : va_P D vwCl [((g 1), .inl (y 0, 4023, .inl S)), ((g 0), .inr (5, [.int 1, .ref (g 1), .int (nI sv), .ref (g 2), .ref (g 3), .int (nI ln), .int (nI at9), .int (nI pl), .int va, .long hs]))] H := hP
      have hD : va_D A [((g 1), .inl (y 0, 4023, .inl S)), ((g 0), .inr (5, [.int 1, .ref (g 1), .int (nI sv), .ref (g 2), .ref (g 3), .int (nI ln), .int (nI at9), .int (nI pl), .int va, .long hs]))] := hD
      obtain rfl : r_5 = 0 := hw_21
      refine lv_if_eq (tgt := 36) hx hb dX5_meanCheck_24 (by decide) (fun _ => ?_) (fun c_24 => absurd (by decide) c_24)
      refine lv_fconst0 hx hb dX5_meanCheck_36 ?_
      have hP := hP.sub (ws' := [((g 0), .inr (5, [.int 1, .ref (g 1), .int (nI sv), .ref (g 2), .ref (g 3), .int (nI ln), .int (nI at9), .int (nI pl), .int va, .long hs])), ((g 1), .inl (y 0, 4023, .inl S))]) [1, 0] rfl
      have hD := hD.sub (ws' := [((g 0), .inr (5, [.int 1, .ref (g 1), .int (nI sv), .ref (g 2), .ref (g 3), .int (nI ln), .int (nI at9), .int (nI pl), .int va, .long hs])), ((g 1), .inl (y 0, 4023, .inl S))]) [1, 0] (by decide) rfl
      refine W.widen (k := 0) (n := 0) (by first | exact Nat.le_of_ble_eq_true rfl | omega) (by first | exact Nat.le_of_ble_eq_true rfl | omega) ?_
      exact W.fret (v := FP.fconst0) hx hb hr (fun t ht hW => ⟨⟨FP.fconst0, (), rfl, by first | rfl | trivial | simp_all, ⟨by rw [ht]; exact hP, hD⟩⟩, hS.F ht⟩) hS.2.2 dX5_meanCheck_37
    · replace c_13 := zb1.mp c_13
      exact absurd ⟨c_6, c_13⟩ hb1

set_option maxHeartbeats 4000000 in
set_option maxRecDepth 100000 in
theorem mX5_spread_b1 (l : Launch) (D : va_G) (y : Nat → ClassId) (sz : Nat) (g : Nat → Nat) (S : (Nat → Int32)) (th : Int32) (sv : Nat) (ln : Nat) (at9 : Nat) (pl : Nat) (va : Int32) (hs : Int64) (k : Int32) (o : Int32) (hb1 : ¬ ((¬ k < 0 ∧ ¬ (S 1 - 1) < k) ∧ (¬ o < 0 ∧ ¬ 1 < o))) : Met l yX5_spread (ws_ yX5_spread cX5_spread 3 (some .double)) ({ frames := 2, cells := 0, slots := 0, locals := 43 }) (va_Pc [.ref (g 0), .int k, .int o] (zRW D y [((g 0), .inr (5, [.int th, .ref (g 1), .int (nI sv), .ref (g 2), .ref (g 3), .int (nI ln), .int (nI at9), .int (nI pl), .int va, .long hs])), ((g 1), .inl (y 0, 4023, .inl S))] sz)) (va_Qd (fun (r : UInt64) (_ : Unit) => r = FP.dconst0) (fun (_ : Unit) t => zOut D (va_A [((g 0), .inr (5, [.int th, .ref (g 1), .int (nI sv), .ref (g 2), .ref (g 3), .int (nI ln), .int (nI at9), .int (nI pl), .int va, .long hs])), ((g 1), .inl (y 0, 4023, .inl S))] sz) [((g 0), .inr (5, [.int 1, .ref (g 1), .int (nI sv), .ref (g 2), .ref (g 3), .int (nI ln), .int (nI at9), .int (nI pl), .int va, .long hs])), ((g 1), .inl (y 0, 4023, .inl S))] t) (va_A [((g 0), .inr (5, [.int th, .ref (g 1), .int (nI sv), .ref (g 2), .ref (g 3), .int (nI ln), .int (nI at9), .int (nI pl), .int va, .long hs])), ((g 1), .inl (y 0, 4023, .inl S))] sz)) 0 0 (va_A [((g 0), .inr (5, [.int th, .ref (g 1), .int (nI sv), .ref (g 2), .ref (g 3), .int (nI ln), .int (nI at9), .int (nI pl), .int va, .long hs])), ((g 1), .inl (y 0, 4023, .inl S))] sz) := by
  refine Met.ofW (cc := cX5_spread) (maxL := 3) (ret := (some .double)) (by decide) rfl ?_
  intro p e s m args below meth c s₁ B hml hpre9
  obtain ⟨rfl, hsz, hP, hKN, hD0⟩ := hpre9
  have hK := hKN.1
  have hx := B.exec
  have hb := B.bytes
  have hr := B.returns
  have hts := atoms_spec (ws := (ws_ yX5_spread cX5_spread 3 (some .double))) B.pre
  have htg : ∀ w ∈ gT, w.before _ s = true := fun w h => hts w (List.mem_cons_of_mem _ h)
  have hown : s.vm.findClass RX5 = some m.cls := findClass_of_methodNamed B.named
  have hlocks := B.notSynchronized
  subst hsz
  have hD := hD0.self (sz := s.heap.size)
  clear hD0
  generalize hAe : va_A [((g 0), .inr (5, [.int th, .ref (g 1), .int (nI sv), .ref (g 2), .ref (g 3), .int (nI ln), .int (nI at9), .int (nI pl), .int va, .long hs])), ((g 1), .inl (y 0, 4023, .inl S))] s.heap.size = A at hD ⊢
  have hA : ∀ q : Nat, s.heap.size ≤ q → A q := fun q h => by rw [← hAe]; exact Or.inr h
  have hS : va_S A s.heap s.heap [] := va_S.rf
  have hP : va_P D vwCl [((g 0), .inr (5, [.int th, .ref (g 1), .int (nI sv), .ref (g 2), .ref (g 3), .int (nI ln), .int (nI at9), .int (nI pl), .int va, .long hs])), ((g 1), .inl (y 0, 4023, .inl S))] s.heap := hP
  have hl := lv_entry ([.ref (g 0), .int k, .int o]) (n := 3) (Nat.le_of_ble_eq_true rfl)
  rw [lg_entry_eq]
  generalize (lg_sl ([.ref (g 0), .int k, .int o]) ++ List.replicate (3 - (lg_sl ([.ref (g 0), .int k, .int o])).length) Slot.unset).toArray = ls at hl ⊢
  have hl : lv_has ls 3 [(0, .ref (g 0)), (1, .int k), (2, .int o)] := hl
  refine lv_aload_n hx hb dX5_spread_0 rfl (lv_at hl 0 rfl) ?_
  refine lv_aload_n hx hb dX5_spread_1 rfl (lv_at hl 0 rfl) ?_
  refine lv_iload_n hx hb dX5_spread_2 rfl (lv_at hl 1 rfl) ?_
  refine zr_calli (va_runV (As := [.int k]) (rest := [.ref (g 0)]) ⟨hx, hb, hml, hown, hts⟩ (mX5_isSurvey l D y g S th sv ln at9 pl va hs k) (cwV 1 hts (zgV tw_486 tw_487 tw_488 tw_369 tw_371) rfl rfl rfl (by decide +kernel) ⟨Nat.le_of_ble_eq_true rfl, Nat.le_of_ble_eq_true rfl⟩) (zRO_preV hKN hP (ci := 5) (q0 := 0) rfl rfl [0, 1] rfl) rfl rfl hl.1 rfl (lv_room (Nat.le_of_ble_eq_true rfl)) dX5_spread_3 ⟨Nat.zero_le _, Nat.zero_le _⟩) hS (fun r_1 H locs hw_3 hT hS => ?_)
  replace hP := hT _ _ hP
  obtain rfl : r_1 = (if ¬ k < 0 ∧ ¬ (S 1 - 1) < k then (1 : Int32) else 0) := hw_3
  refine lv_if_eq (tgt := 20) hx hb dX5_spread_6 (by decide) (fun c_6 => ?_) (fun c_6 => ?_)
  · replace c_6 := zb0.mp c_6
    refine lv_iconst (v := 1) hx hb dX5_spread_20 (by decide) ?_
    refine zw_calli (wr := [((g 1), .inl (y 0, 4023, .inl S))]) (w1 := (fun _ : Unit => [((g 0), .inr (5, [.int 1, .ref (g 1), .int (nI sv), .ref (g 2), .ref (g 3), .int (nI ln), .int (nI at9), .int (nI pl), .int va, .long hs]))])) hP hD hS hA [0] [1] rfl rfl (by decide +kernel) (by decide +kernel) (va_runV (As := [.int 1]) (rest := []) ⟨hx, hb, hml, hown, hts⟩ (mX5_holds l D y _ g th sv ln at9 pl va hs 1) (cwV 1 hts (zgV tw_431 tw_432 tw_433 tw_369 tw_365) rfl rfl rfl (by decide +kernel) ⟨Nat.le_of_ble_eq_true rfl, Nat.le_of_ble_eq_true rfl⟩) (zRW_preV hKN hP hD (ci := 5) (q0 := 0) rfl rfl [0] rfl (by decide)) rfl rfl hl.1 rfl (lv_room (Nat.le_of_ble_eq_true rfl)) dX5_spread_21 ⟨Nat.zero_le _, Nat.zero_le _⟩) (fun r_2 u_3 H locs hw_21 hP hD hS => ?_)
    have hP : va_P D vwCl [((g 1), .inl (y 0, 4023, .inl S)), ((g 0), .inr (5, [.int 1, .ref (g 1), .int (nI sv), .ref (g 2), .ref (g 3), .int (nI ln), .int (nI at9), .int (nI pl), .int va, .long hs]))] H := hP
    have hD : va_D A [((g 1), .inl (y 0, 4023, .inl S)), ((g 0), .inr (5, [.int 1, .ref (g 1), .int (nI sv), .ref (g 2), .ref (g 3), .int (nI ln), .int (nI at9), .int (nI pl), .int va, .long hs]))] := hD
    obtain rfl : r_2 = 0 := hw_21
    refine lv_if_eq (tgt := 36) hx hb dX5_spread_24 (by decide) (fun _ => ?_) (fun c_24 => absurd (by decide) c_24)
    refine lv_dconst0 hx hb dX5_spread_36 ?_
    have hP := hP.sub (ws' := [((g 0), .inr (5, [.int 1, .ref (g 1), .int (nI sv), .ref (g 2), .ref (g 3), .int (nI ln), .int (nI at9), .int (nI pl), .int va, .long hs])), ((g 1), .inl (y 0, 4023, .inl S))]) [1, 0] rfl
    have hD := hD.sub (ws' := [((g 0), .inr (5, [.int 1, .ref (g 1), .int (nI sv), .ref (g 2), .ref (g 3), .int (nI ln), .int (nI at9), .int (nI pl), .int va, .long hs])), ((g 1), .inl (y 0, 4023, .inl S))]) [1, 0] (by decide) rfl
    refine W.widen (k := 0) (n := 0) (by first | exact Nat.le_of_ble_eq_true rfl | omega) (by first | exact Nat.le_of_ble_eq_true rfl | omega) ?_
    exact W.dret (v := FP.dconst0) hx hb hr (fun t ht hW => ⟨⟨FP.dconst0, (), rfl, by first | rfl | trivial | simp_all, ⟨by rw [ht]; exact hP, hD⟩⟩, hS.F ht⟩) hS.2.2 dX5_spread_37
  · replace c_6 := zb1.mp c_6
    refine lv_iload_n hx hb dX5_spread_9 rfl (lv_at hl 2 rfl) ?_
    refine zr_calli (va_runS (As := [.int o]) (rest := [.ref (g 0)]) ⟨hx, hb, hml, hown, hts⟩ (mX5_isSide l o) (va_cwS 1 hts (zgS tw_429 tw_430 tw_369 tw_370) rfl rfl rfl (by decide +kernel) ⟨Nat.le_of_ble_eq_true rfl, Nat.le_of_ble_eq_true rfl⟩) zP_pre rfl rfl hl.1 rfl (lv_room (Nat.le_of_ble_eq_true rfl)) dX5_spread_10 ⟨Nat.zero_le _, Nat.zero_le _⟩) hS (fun r_4 H locs hw_10 hT hS => ?_)
    replace hP := hT _ _ hP
    obtain rfl : r_4 = (if ¬ o < 0 ∧ ¬ 1 < o then (1 : Int32) else 0) := hw_10
    refine lv_if_eq (tgt := 20) hx hb dX5_spread_13 (by decide) (fun c_13 => ?_) (fun c_13 => ?_)
    · replace c_13 := zb0.mp c_13
      refine lv_iconst (v := 1) hx hb dX5_spread_20 (by decide) ?_
      refine zw_calli (wr := [((g 1), .inl (y 0, 4023, .inl S))]) (w1 := (fun _ : Unit => [((g 0), .inr (5, [.int 1, .ref (g 1), .int (nI sv), .ref (g 2), .ref (g 3), .int (nI ln), .int (nI at9), .int (nI pl), .int va, .long hs]))])) hP hD hS hA [0] [1] rfl rfl (by decide +kernel) (by decide +kernel) (va_runV (As := [.int 1]) (rest := []) ⟨hx, hb, hml, hown, hts⟩ (mX5_holds l D y _ g th sv ln at9 pl va hs 1) (cwV 1 hts (zgV tw_431 tw_432 tw_433 tw_369 tw_365) rfl rfl rfl (by decide +kernel) ⟨Nat.le_of_ble_eq_true rfl, Nat.le_of_ble_eq_true rfl⟩) (zRW_preV hKN hP hD (ci := 5) (q0 := 0) rfl rfl [0] rfl (by decide)) rfl rfl hl.1 rfl (lv_room (Nat.le_of_ble_eq_true rfl)) dX5_spread_21 ⟨Nat.zero_le _, Nat.zero_le _⟩) (fun r_5 u_6 H locs hw_21 hP hD hS => ?_)
      have hP : va_P D vwCl [((g 1), .inl (y 0, 4023, .inl S)), ((g 0), .inr (5, [.int 1, .ref (g 1), .int (nI sv), .ref (g 2), .ref (g 3), .int (nI ln), .int (nI at9), .int (nI pl), .int va, .long hs]))] H := hP
      have hD : va_D A [((g 1), .inl (y 0, 4023, .inl S)), ((g 0), .inr (5, [.int 1, .ref (g 1), .int (nI sv), .ref (g 2), .ref (g 3), .int (nI ln), .int (nI at9), .int (nI pl), .int va, .long hs]))] := hD
      obtain rfl : r_5 = 0 := hw_21
      refine lv_if_eq (tgt := 36) hx hb dX5_spread_24 (by decide) (fun _ => ?_) (fun c_24 => absurd (by decide) c_24)
      refine lv_dconst0 hx hb dX5_spread_36 ?_
      have hP := hP.sub (ws' := [((g 0), .inr (5, [.int 1, .ref (g 1), .int (nI sv), .ref (g 2), .ref (g 3), .int (nI ln), .int (nI at9), .int (nI pl), .int va, .long hs])), ((g 1), .inl (y 0, 4023, .inl S))]) [1, 0] rfl
      have hD := hD.sub (ws' := [((g 0), .inr (5, [.int 1, .ref (g 1), .int (nI sv), .ref (g 2), .ref (g 3), .int (nI ln), .int (nI at9), .int (nI pl), .int va, .long hs])), ((g 1), .inl (y 0, 4023, .inl S))]) [1, 0] (by decide) rfl
      refine W.widen (k := 0) (n := 0) (by first | exact Nat.le_of_ble_eq_true rfl | omega) (by first | exact Nat.le_of_ble_eq_true rfl | omega) ?_
      exact W.dret (v := FP.dconst0) hx hb hr (fun t ht hW => ⟨⟨FP.dconst0, (), rfl, by first | rfl | trivial | simp_all, ⟨by rw [ht]; exact hP, hD⟩⟩, hS.F ht⟩) hS.2.2 dX5_spread_37
    · replace c_13 := zb1.mp c_13
      exact absurd ⟨c_6, c_13⟩ hb1
