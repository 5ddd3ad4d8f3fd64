set_option maxHeartbeats 4000000 in
set_option maxRecDepth 100000 in
theorem mX5_ofLevel (l : Launch) (D : va_G) (y : Nat → ClassId) (g : Nat → Nat) (S : (Nat → Int32)) (th : Int32) (sv : Nat) (ln : Nat) (at9 : Nat) (pl : Nat) (va : Int32) (hs : Int64) (v : Nat) (w9 : Nat) (hl9 : v < 16) (hw9 : w9 < 7) (hTu : hTq S) : Met l yX5_ofLevel (ws_ yX5_ofLevel cX5_ofLevel 3 (some .int)) ({ frames := 3, cells := 0, slots := 0, locals := 69 }) (va_Pc [.ref (g 0), .int (nI v), .int (nI w9)] (zRO D y [((g 0), .inr (5, [.int th, .ref (g 1), .int (nI sv), .ref (g 2), .ref (g 3), .int (nI ln), .int (nI at9), .int (nI pl), .int va, .long hs])), ((g 1), .inl (y 0, 4023, .inl S))])) (va_Qi (fun (r : Int32) (_ : Unit) => r = qOfL S v w9) (fun _ _ => True) (fun _ => False)) 0 0 (fun _ => False) := by
  refine Met.ofW (cc := cX5_ofLevel) (maxL := 3) (ret := (some .int)) (by decide) rfl ?_
  intro p e s m args below meth c s₁ B hml hpre9
  obtain ⟨rfl, hP, hKN⟩ := hpre9
  have hK := hKN.1
  have hx := B.exec
  have hb := B.bytes
  have hr := B.returns
  have hts := atoms_spec (ws := (ws_ yX5_ofLevel cX5_ofLevel 3 (some .int))) B.pre
  have htg : ∀ w ∈ gT, w.before _ s = true := fun w h => hts w (List.mem_cons_of_mem _ h)
  have hown : s.vm.findClass RX5 = some m.cls := findClass_of_methodNamed B.named
  have hlocks := B.notSynchronized
  have hS : va_S (fun _ => False) s.heap s.heap [] := va_S.rf
  have hP : va_P D vwCl [((g 0), .inr (5, [.int th, .ref (g 1), .int (nI sv), .ref (g 2), .ref (g 3), .int (nI ln), .int (nI at9), .int (nI pl), .int va, .long hs])), ((g 1), .inl (y 0, 4023, .inl S))] s.heap := hP
  have hl := lv_entry ([.ref (g 0), .int (nI v), .int (nI w9)]) (n := 3) (Nat.le_of_ble_eq_true rfl)
  rw [lg_entry_eq]
  generalize (lg_sl ([.ref (g 0), .int (nI v), .int (nI w9)]) ++ List.replicate (3 - (lg_sl ([.ref (g 0), .int (nI v), .int (nI w9)])).length) Slot.unset).toArray = ls at hl ⊢
  have hl : lv_has ls 3 [(0, .ref (g 0)), (1, .int (nI v)), (2, .int (nI w9))] := hl
  refine lv_iload_n hx hb dX5_ofLevel_0 rfl (lv_at hl 2 rfl) ?_
  refine lv_iconst (v := 3) hx hb dX5_ofLevel_1 (by decide) ?_
  refine lv_icmp_ge (tgt := 21) hx hb dX5_ofLevel_2 (by decide) (fun c_2 => ?_) (fun c_2 => ?_)
  · replace c_2 : 3 ≤ w9 := (nI_leI (a := 3) (b := w9) (by omega) (by omega)).mp c_2
    refine lv_aload_n hx hb dX5_ofLevel_21 rfl (lv_at hl 0 rfl) ?_
    refine lv_iload_n hx hb dX5_ofLevel_22 rfl (lv_at hl 1 rfl) ?_
    refine lv_iload_n hx hb dX5_ofLevel_23 rfl (lv_at hl 2 rfl) ?_
    refine lv_iconst (v := 3) hx hb dX5_ofLevel_24 (by decide) ?_
    refine lv_isub hx hb dX5_ofLevel_25 ?_
    refine zz_top (y := nI (w9 - 3)) (pk_sub (a := w9) (b := 3) (by omega)) ?_
    refine lv_iconst (v := 2) hx hb dX5_ofLevel_26 (by decide) ?_
    refine lv_idiv hx hb dX5_ofLevel_27 (by decide) ?_
    refine zz_top (y := nI ((w9 - 3) / 2)) (pk_div (by omega) (by decide) (by decide)) ?_
    refine lv_iload_n hx hb dX5_ofLevel_28 rfl (lv_at hl 2 rfl) ?_
    refine lv_iconst (v := 3) hx hb dX5_ofLevel_29 (by decide) ?_
    refine lv_isub hx hb dX5_ofLevel_30 ?_
    refine zz_top (y := nI (w9 - 3)) (pk_sub (a := w9) (b := 3) (by omega)) ?_
    refine lv_iconst (v := 2) hx hb dX5_ofLevel_31 (by decide) ?_
    refine lv_irem hx hb dX5_ofLevel_32 (by decide) ?_
    refine zz_top (y := nI ((w9 - 3) % 2)) (pk_rem (by omega) (by decide) (by decide)) ?_
    refine zr_calli (va_runV (As := [.int (nI v), .int (nI ((w9 - 3) / 2)), .int (nI ((w9 - 3) % 2))]) (rest := []) ⟨hx, hb, hml, hown, hts⟩ (mX5_wouldRead l D y g S th sv ln at9 pl va hs v ((w9 - 3) / 2) ((w9 - 3) % 2) (by first | assumption | rfl | omega | decide) (by first | assumption | rfl | omega | decide) (by first | assumption | rfl | omega | decide) (by first | assumption | rfl | omega | decide)) (cwV 3 hts (zgV tw_443 tw_444 tw_445 tw_369 tw_382) rfl rfl rfl (by decide +kernel) ⟨Nat.le_of_ble_eq_true rfl, Nat.le_of_ble_eq_true rfl⟩) (zRO_preV hKN hP (ci := 5) (q0 := 0) rfl rfl [0, 1] rfl) rfl rfl hl.1 rfl (lv_room (Nat.le_of_ble_eq_true rfl)) dX5_ofLevel_33 ⟨Nat.zero_le _, Nat.zero_le _⟩) hS (fun r_1 H locs hw_33 hT hS => ?_)
    replace hP := hT _ _ hP
    obtain rfl : r_1 = qPr S v ((w9 - 3) / 2) ((w9 - 3) % 2) := hw_33
    exact W.iret (v := (qPr S v ((w9 - 3) / 2) ((w9 - 3) % 2))) hx hb hr (fun t ht hW => ⟨⟨qPr S v ((w9 - 3) / 2) ((w9 - 3) % 2), (), rfl, zOfL_hi (by omega) hw9, trivial⟩, hS.F ht⟩) hS.2.2 dX5_ofLevel_36
  · replace c_2 : ¬ 3 ≤ w9 := fun h => c_2 ((nI_leI (a := 3) (b := w9) (by omega) (by omega)).mpr h)
    refine lv_aload_n hx hb dX5_ofLevel_5 rfl (lv_at hl 0 rfl) ?_
    refine va_get (D := D) (ci := 5) (v := .ref (g 1)) (C := RX5) (T := TX5) (N := 10) hx hb htg iX5 hown hK hP 0 rfl rfl 1 (by decide) (htg _ tw_359) (fun _ h9 => h9) rfl dX5_ofLevel_6 ?_
    refine lv_bipush (v := 9) hx hb dX5_ofLevel_9 (by decide) ?_
    refine lv_iconst (v := 3) hx hb dX5_ofLevel_11 (by decide) ?_
    refine lv_iload_n hx hb dX5_ofLevel_12 rfl (lv_at hl 1 rfl) ?_
    refine lv_imul hx hb dX5_ofLevel_13 ?_
    refine zz_top (y := nI (3 * v)) (pk_mul 3 v) ?_
    refine lv_iadd hx hb dX5_ofLevel_14 ?_
    refine zz_top (y := nI (9 + (3 * v))) (nI_add 9 (3 * v)) ?_
    refine lv_iload_n hx hb dX5_ofLevel_15 rfl (lv_at hl 2 rfl) ?_
    refine lv_iadd hx hb dX5_ofLevel_16 ?_
    refine zz_top (y := nI ((9 + (3 * v)) + w9)) (nI_add (9 + (3 * v)) w9) ?_
    refine va_iald hx hb hK hP 1 0 rfl rfl (vp_in_nI (by omega) (by decide)) dX5_ofLevel_17 ?_
    refine zz_top (y := S ((9 + (3 * v)) + w9)) (congrArg S (nI_clamp (by omega))) ?_
    refine lv_goto (tgt := 36) hx hb dX5_ofLevel_18 (by decide) ?_
    exact W.iret (v := (S ((9 + (3 * v)) + w9))) hx hb hr (fun t ht hW => ⟨⟨S ((9 + (3 * v)) + w9), (), rfl, zOfL_lo (by omega), trivial⟩, hS.F ht⟩) hS.2.2 dX5_ofLevel_36

set_option maxHeartbeats 4000000 in
set_option maxRecDepth 100000 in
theorem mX5_ofReading (l : Launch) (D : va_G) (y : Nat → ClassId) (g : Nat → Nat) (S : (Nat → Int32)) (th : Int32) (sv : Nat) (ln : Nat) (at9 : Nat) (pl : Nat) (va : Int32) (hs : Int64) (k : Nat) (v : Nat) (o : Nat) (w9 : Nat) (hk : k < 6) (hl9 : v < 16) (hq : o < 2) (hw9 : w9 < 6) (hTu : hTq S) : Met l yX5_ofReading (ws_ yX5_ofReading cX5_ofReading 5 (some .int)) ({ frames := 7, cells := 0, slots := 0, locals := 175 }) (va_Pc [.ref (g 0), .int (nI k), .int (nI v), .int (nI o), .int (nI w9)] (zRO D y [((g 0), .inr (5, [.int th, .ref (g 1), .int (nI sv), .ref (g 2), .ref (g 3), .int (nI ln), .int (nI at9), .int (nI pl), .int va, .long hs])), ((g 1), .inl (y 0, 4023, .inl S))])) (va_Qi (fun (r : Int32) (_ : Unit) => r = qOfR S k v o w9) (fun _ _ => True) (fun _ => False)) 0 0 (fun _ => False) := by
  refine Met.ofW (cc := cX5_ofReading) (maxL := 5) (ret := (some .int)) (by decide) rfl ?_
  intro p e s m args below meth c s₁ B hml hpre9
  obtain ⟨rfl, hP, hKN⟩ := hpre9
  have hK := hKN.1
  have hx := B.exec
  have hb := B.bytes
  have hr := B.returns
  have hts := atoms_spec (ws := (ws_ yX5_ofReading cX5_ofReading 5 (some .int))) B.pre
  have htg : ∀ w ∈ gT, w.before _ s = true := fun w h => hts w (List.mem_cons_of_mem _ h)
  have hown : s.vm.findClass RX5 = some m.cls := findClass_of_methodNamed B.named
  have hlocks := B.notSynchronized
  have hS : va_S (fun _ => False) s.heap s.heap [] := va_S.rf
  have hP : va_P D vwCl [((g 0), .inr (5, [.int th, .ref (g 1), .int (nI sv), .ref (g 2), .ref (g 3), .int (nI ln), .int (nI at9), .int (nI pl), .int va, .long hs])), ((g 1), .inl (y 0, 4023, .inl S))] s.heap := hP
  have hl := lv_entry ([.ref (g 0), .int (nI k), .int (nI v), .int (nI o), .int (nI w9)]) (n := 5) (Nat.le_of_ble_eq_true rfl)
  rw [lg_entry_eq]
  generalize (lg_sl ([.ref (g 0), .int (nI k), .int (nI v), .int (nI o), .int (nI w9)]) ++ List.replicate (5 - (lg_sl ([.ref (g 0), .int (nI k), .int (nI v), .int (nI o), .int (nI w9)])).length) Slot.unset).toArray = ls at hl ⊢
  have hl : lv_has ls 5 [(0, .ref (g 0)), (1, .int (nI k)), (2, .int (nI v)), (3, .int (nI o)), (4, .int (nI w9))] := hl
  refine lv_iload hx hb dX5_ofReading_0 (lv_at hl 4 rfl) ?_
  rcases (show w9 = 0 ∨ w9 = 1 ∨ w9 = 2 ∨ w9 = 3 ∨ w9 = 4 ∨ w9 = 5 by omega) with rfl | rfl | rfl | rfl | rfl | rfl
  · refine lv_tableIn (tgt := 36) (off := 34) hx hb dX5_ofReading_2 (by decide) (by decide) rfl (by decide) ?_
    refine lv_aload_n hx hb dX5_ofReading_36 rfl (lv_at hl 0 rfl) ?_
    refine lv_iload_n hx hb dX5_ofReading_37 rfl (lv_at hl 1 rfl) ?_
    refine lv_iload_n hx hb dX5_ofReading_38 rfl (lv_at hl 2 rfl) ?_
    refine lv_iload_n hx hb dX5_ofReading_39 rfl (lv_at hl 3 rfl) ?_
    refine lv_iload hx hb dX5_ofReading_40 (lv_at hl 4 rfl) ?_
    refine zr_calli (va_runV (As := [.int (nI k), .int (nI v), .int (nI o), .int (nI 0)]) (rest := []) ⟨hx, hb, hml, hown, hts⟩ (mX5_read l D y g S th sv ln at9 pl va hs k v o 0 (by first | assumption | rfl | omega | decide) (by first | assumption | rfl | omega | decide) (by first | assumption | rfl | omega | decide) (by first | assumption | rfl | omega | decide)) (cwV 4 hts (zgV tw_391 tw_392 tw_393 tw_369 tw_387) rfl rfl rfl (by decide +kernel) ⟨Nat.le_of_ble_eq_true rfl, Nat.le_of_ble_eq_true rfl⟩) (zRO_preV hKN hP (ci := 5) (q0 := 0) rfl rfl [0, 1] rfl) rfl rfl hl.1 rfl (lv_room (Nat.le_of_ble_eq_true rfl)) dX5_ofReading_42 ⟨Nat.zero_le _, Nat.zero_le _⟩) hS (fun r_1 H locs hw_42 hT hS => ?_)
    replace hP := hT _ _ hP
    obtain rfl : r_1 = qRd S k v o 0 := hw_42
    exact W.iret (v := (qRd S k v o 0)) hx hb hr (fun t ht hW => ⟨⟨qRd S k v o 0, (), rfl, by first | rfl | trivial | simp_all, trivial⟩, hS.F ht⟩) hS.2.2 dX5_ofReading_45
  · refine lv_tableIn (tgt := 36) (off := 34) hx hb dX5_ofReading_2 (by decide) (by decide) rfl (by decide) ?_
    refine lv_aload_n hx hb dX5_ofReading_36 rfl (lv_at hl 0 rfl) ?_
    refine lv_iload_n hx hb dX5_ofReading_37 rfl (lv_at hl 1 rfl) ?_
    refine lv_iload_n hx hb dX5_ofReading_38 rfl (lv_at hl 2 rfl) ?_
    refine lv_iload_n hx hb dX5_ofReading_39 rfl (lv_at hl 3 rfl) ?_
    refine lv_iload hx hb dX5_ofReading_40 (lv_at hl 4 rfl) ?_
    refine zr_calli (va_runV (As := [.int (nI k), .int (nI v), .int (nI o), .int (nI 1)]) (rest := []) ⟨hx, hb, hml, hown, hts⟩ (mX5_read l D y g S th sv ln at9 pl va hs k v o 1 (by first | assumption | rfl | omega | decide) (by first | assumption | rfl | omega | decide) (by first | assumption | rfl | omega | decide) (by first | assumption | rfl | omega | decide)) (cwV 4 hts (zgV tw_391 tw_392 tw_393 tw_369 tw_387) rfl rfl rfl (by decide +kernel) ⟨Nat.le_of_ble_eq_true rfl, Nat.le_of_ble_eq_true rfl⟩) (zRO_preV hKN hP (ci := 5) (q0 := 0) rfl rfl [0, 1] rfl) rfl rfl hl.1 rfl (lv_room (Nat.le_of_ble_eq_true rfl)) dX5_ofReading_42 ⟨Nat.zero_le _, Nat.zero_le _⟩) hS (fun r_2 H locs hw_42 hT hS => ?_)
    replace hP := hT _ _ hP
    obtain rfl : r_2 = qRd S k v o 1 := hw_42
    exact W.iret (v := (qRd S k v o 1)) hx hb hr (fun t ht hW => ⟨⟨qRd S k v o 1, (), rfl, by first | rfl | trivial | simp_all, trivial⟩, hS.F ht⟩) hS.2.2 dX5_ofReading_45
  · refine lv_tableIn (tgt := 46) (off := 44) hx hb dX5_ofReading_2 (by decide) (by decide) rfl (by decide) ?_
    refine lv_aload_n hx hb dX5_ofReading_46 rfl (lv_at hl 0 rfl) ?_
    refine lv_iload_n hx hb dX5_ofReading_47 rfl (lv_at hl 1 rfl) ?_
    refine lv_iload_n hx hb dX5_ofReading_48 rfl (lv_at hl 2 rfl) ?_
    refine lv_iload_n hx hb dX5_ofReading_49 rfl (lv_at hl 3 rfl) ?_
    refine zr_calli (va_runV (As := [.int (nI k), .int (nI v), .int (nI o)]) (rest := []) ⟨hx, hb, hml, hown, hts⟩ (mX5_check l D y g S th sv ln at9 pl va hs k v o (by first | assumption | rfl | omega | decide) (by first | assumption | rfl | omega | decide) (by first | assumption | rfl | omega | decide)) (cwV 3 hts (zgV tw_395 tw_396 tw_397 tw_369 tw_390) rfl rfl rfl (by decide +kernel) ⟨Nat.le_of_ble_eq_true rfl, Nat.le_of_ble_eq_true rfl⟩) (zRO_preV hKN hP (ci := 5) (q0 := 0) rfl rfl [0, 1] rfl) rfl rfl hl.1 rfl (lv_room (Nat.le_of_ble_eq_true rfl)) dX5_ofReading_50 ⟨Nat.zero_le _, Nat.zero_le _⟩) hS (fun r_3 H locs hw_50 hT hS => ?_)
    replace hP := hT _ _ hP
    obtain rfl : r_3 = qCk S k v o := hw_50
    exact W.iret (v := (qCk S k v o)) hx hb hr (fun t ht hW => ⟨⟨qCk S k v o, (), rfl, by first | rfl | trivial | simp_all, trivial⟩, hS.F ht⟩) hS.2.2 dX5_ofReading_53
  · refine lv_tableIn (tgt := 54) (off := 52) hx hb dX5_ofReading_2 (by decide) (by decide) rfl (by decide) ?_
    refine lv_aload_n hx hb dX5_ofReading_54 rfl (lv_at hl 0 rfl) ?_
    refine lv_iload_n hx hb dX5_ofReading_55 rfl (lv_at hl 1 rfl) ?_
    refine lv_iload_n hx hb dX5_ofReading_56 rfl (lv_at hl 2 rfl) ?_
    refine lv_iload_n hx hb dX5_ofReading_57 rfl (lv_at hl 3 rfl) ?_
    refine zr_calli (va_runV (As := [.int (nI k), .int (nI v), .int (nI o)]) (rest := []) ⟨hx, hb, hml, hown, hts⟩ (mX5_isSuspicious l D y g S th sv ln at9 pl va hs k v o (by first | assumption | rfl | omega | decide) (by first | assumption | rfl | omega | decide) (by first | assumption | rfl | omega | decide)) (cwV 3 hts (zgV tw_405 tw_406 tw_407 tw_369 tw_398) rfl rfl rfl (by decide +kernel) ⟨Nat.le_of_ble_eq_true rfl, Nat.le_of_ble_eq_true rfl⟩) (zRO_preV hKN hP (ci := 5) (q0 := 0) rfl rfl [0, 1] rfl) rfl rfl hl.1 rfl (lv_room (Nat.le_of_ble_eq_true rfl)) dX5_ofReading_58 ⟨Nat.zero_le _, Nat.zero_le _⟩) hS (fun r_4 H locs hw_58 hT hS => ?_)
    replace hP := hT _ _ hP
    obtain rfl : r_4 = (if S 6 < qOff S k v o then (1 : Int32) else 0) := hw_58
    refine lv_if_eq (tgt := 68) hx hb dX5_ofReading_61 (by decide) (fun c_61 => ?_) (fun c_61 => ?_)
    · replace c_61 := zb0.mp c_61
      refine lv_iconst (v := 0) hx hb dX5_ofReading_68 (by decide) ?_
      exact W.iret (v := 0) hx hb hr (fun t ht hW => ⟨⟨0, (), rfl, (if_neg c_61).symm, trivial⟩, hS.F ht⟩) hS.2.2 dX5_ofReading_69
    · replace c_61 := zb1.mp c_61
      refine lv_iconst (v := 1) hx hb dX5_ofReading_64 (by decide) ?_
      refine lv_goto (tgt := 69) hx hb dX5_ofReading_65 (by decide) ?_
      exact W.iret (v := 1) hx hb hr (fun t ht hW => ⟨⟨1, (), rfl, (if_pos c_61).symm, trivial⟩, hS.F ht⟩) hS.2.2 dX5_ofReading_69
  · refine lv_tableIn (tgt := 70) (off := 68) hx hb dX5_ofReading_2 (by decide) (by decide) rfl (by decide) ?_
    refine lv_aload_n hx hb dX5_ofReading_70 rfl (lv_at hl 0 rfl) ?_
    refine lv_iload_n hx hb dX5_ofReading_71 rfl (lv_at hl 1 rfl) ?_
    refine lv_iload_n hx hb dX5_ofReading_72 rfl (lv_at hl 2 rfl) ?_
    refine lv_iload_n hx hb dX5_ofReading_73 rfl (lv_at hl 3 rfl) ?_
    refine zr_calli (va_runV (As := [.int (nI k), .int (nI v), .int (nI o)]) (rest := []) ⟨hx, hb, hml, hown, hts⟩ (mX5_tiltRead l D y g S th sv ln at9 pl va hs k v o (by first | assumption | rfl | omega | decide) (by first | assumption | rfl | omega | decide) (by first | assumption | rfl | omega | decide)) (cwV 3 hts (zgV tw_409 tw_410 tw_411 tw_369 tw_404) rfl rfl rfl (by decide +kernel) ⟨Nat.le_of_ble_eq_true rfl, Nat.le_of_ble_eq_true rfl⟩) (zRO_preV hKN hP (ci := 5) (q0 := 0) rfl rfl [0, 1] rfl) rfl rfl hl.1 rfl (lv_room (Nat.le_of_ble_eq_true rfl)) dX5_ofReading_74 ⟨Nat.zero_le _, Nat.zero_le _⟩) hS (fun r_5 H locs hw_74 hT hS => ?_)
    replace hP := hT _ _ hP
    obtain rfl : r_5 = qTr S k v o := hw_74
    exact W.iret (v := (qTr S k v o)) hx hb hr (fun t ht hW => ⟨⟨qTr S k v o, (), rfl, by first | rfl | trivial | simp_all, trivial⟩, hS.F ht⟩) hS.2.2 dX5_ofReading_77
  · refine lv_tableOut (tgt := 78) hx hb dX5_ofReading_2 (by decide) (by decide) ?_
    refine lv_aload_n hx hb dX5_ofReading_78 rfl (lv_at hl 0 rfl) ?_
    refine lv_iload_n hx hb dX5_ofReading_79 rfl (lv_at hl 1 rfl) ?_
    refine lv_iload_n hx hb dX5_ofReading_80 rfl (lv_at hl 2 rfl) ?_
    refine lv_iload_n hx hb dX5_ofReading_81 rfl (lv_at hl 3 rfl) ?_
    refine zr_calli (va_runV (As := [.int (nI k), .int (nI v), .int (nI o)]) (rest := []) ⟨hx, hb, hml, hown, hts⟩ (mX5_tiltTold l D y g S th sv ln at9 pl va hs k v o (by first | assumption | rfl | omega | decide) (by first | assumption | rfl | omega | decide) (by first | assumption | rfl | omega | decide) (by first | assumption | rfl | omega | decide)) (cwV 3 hts (zgV tw_413 tw_414 tw_415 tw_369 tw_408) rfl rfl rfl (by decide +kernel) ⟨Nat.le_of_ble_eq_true rfl, Nat.le_of_ble_eq_true rfl⟩) (zRO_preV hKN hP (ci := 5) (q0 := 0) rfl rfl [0, 1] rfl) rfl rfl hl.1 rfl (lv_room (Nat.le_of_ble_eq_true rfl)) dX5_ofReading_82 ⟨Nat.zero_le _, Nat.zero_le _⟩) hS (fun r_6 H locs hw_82 hT hS => ?_)
    replace hP := hT _ _ hP
    obtain rfl : r_6 = qTt S k v o := hw_82
    exact W.iret (v := (qTt S k v o)) hx hb hr (fun t ht hW => ⟨⟨qTt S k v o, (), rfl, by first | rfl | trivial | simp_all, trivial⟩, hS.F ht⟩) hS.2.2 dX5_ofReading_85

set_option maxHeartbeats 4000000 in
set_option maxRecDepth 100000 in
theorem mX5_suspicious (l : Launch) (D : va_G) (y : Nat → ClassId) (g : Nat → Nat) (S : (Nat → Int32)) (th : Int32) (sv : Nat) (ln : Nat) (at9 : Nat) (pl : Nat) (va : Int32) (hs : Int64) (k : Nat) (hk : k < 6) : Met l yX5_suspicious (ws_ yX5_suspicious cX5_suspicious 4 (some .int)) ({ frames := 5, cells := 0, slots := 0, locals := 120 }) (va_Pc [.ref (g 0), .int (nI k)] (zRO D y [((g 0), .inr (5, [.int th, .ref (g 1), .int (nI sv), .ref (g 2), .ref (g 3), .int (nI ln), .int (nI at9), .int (nI pl), .int va, .long hs])), ((g 1), .inl (y 0, 4023, .inl S))])) (va_Qi (fun (r : Int32) (_ : Unit) => r = qSn S k 32) (fun _ _ => True) (fun _ => False)) 0 0 (fun _ => False) := by
  refine Met.ofW (cc := cX5_suspicious) (maxL := 4) (ret := (some .int)) (by decide) rfl ?_
  intro p e s m args below meth c s₁ B hml hpre9
  obtain ⟨rfl, hP, hKN⟩ := hpre9
  have hK := hKN.1
  have hx := B.exec
  have hb := B.bytes
  have hr := B.returns
  have hts := atoms_spec (ws := (ws_ yX5_suspicious cX5_suspicious 4 (some .int))) B.pre
  have htg : ∀ w ∈ gT, w.before _ s = true := fun w h => hts w (List.mem_cons_of_mem _ h)
  have hown : s.vm.findClass RX5 = some m.cls := findClass_of_methodNamed B.named
  have hlocks := B.notSynchronized
  have hS : va_S (fun _ => False) s.heap s.heap [] := va_S.rf
  have hP : va_P D vwCl [((g 0), .inr (5, [.int th, .ref (g 1), .int (nI sv), .ref (g 2), .ref (g 3), .int (nI ln), .int (nI at9), .int (nI pl), .int va, .long hs])), ((g 1), .inl (y 0, 4023, .inl S))] s.heap := hP
  have hl := lv_entry ([.ref (g 0), .int (nI k)]) (n := 4) (Nat.le_of_ble_eq_true rfl)
  rw [lg_entry_eq]
  generalize (lg_sl ([.ref (g 0), .int (nI k)]) ++ List.replicate (4 - (lg_sl ([.ref (g 0), .int (nI k)])).length) Slot.unset).toArray = ls at hl ⊢
  have hl : lv_has ls 4 [(0, .ref (g 0)), (1, .int (nI k))] := hl
  refine lv_iconst (v := 0) hx hb dX5_suspicious_0 (by decide) ?_
  refine lv_istore_n (lv' := [(2, .int 0), (0, .ref (g 0)), (1, .int (nI k))]) hx hb dX5_suspicious_1 rfl hl (by decide) rfl (fun ls hl => ?_)
  refine lv_iconst (v := 0) hx hb dX5_suspicious_2 (by decide) ?_
  refine lv_istore_n (lv' := [(3, .int 0), (2, .int 0), (0, .ref (g 0)), (1, .int (nI k))]) hx hb dX5_suspicious_3 rfl hl (by decide) rfl (fun ls hl => ?_)
  refine zloop (fun j : Nat => 32 - j) (fun j H locs ls => j ≤ 32 ∧ va_P D vwCl [((g 0), .inr (5, [.int th, .ref (g 1), .int (nI sv), .ref (g 2), .ref (g 3), .int (nI ln), .int (nI at9), .int (nI pl), .int va, .long hs])), ((g 1), .inl (y 0, 4023, .inl S))] H ∧ va_S (fun _ => False) s.heap H locs ∧ lv_has ls 4 [(0, .ref (g 0)), (1, .int (nI k)), (2, .int (qSn S k j)), (3, .int (nI j))]) 4 (fun _ => 0) (fun _ => 0) ?_ (0) ⟨by omega, hP, hS, lv_sub hl [2, 3, 1, 0] rfl⟩
  clear hl hS hP
  rintro j H locs ls ⟨hj, hP, hS, hl⟩ ih4
  refine lv_iload_n hx hb dX5_suspicious_4 rfl (lv_at hl 3 rfl) ?_
  refine lv_bipush (v := 32) hx hb dX5_suspicious_5 (by decide) ?_
  refine lv_icmp_ge (tgt := 38) hx hb dX5_suspicious_7 (by decide) (fun c_7 => ?_) (fun c_7 => ?_)
  · replace c_7 : 32 ≤ j := (nI_leI (a := 32) (b := j) (by omega) (by omega)).mp c_7
    have e8 : j = 32 := by omega
    refine lv_iload_n hx hb dX5_suspicious_38 rfl (lv_at hl 2 rfl) ?_
    exact W.iret (v := (qSn S k j)) hx hb hr (fun t ht hW => ⟨⟨qSn S k j, (), rfl, congrArg (qSn S k) e8, trivial⟩, hS.F ht⟩) hS.2.2 dX5_suspicious_39
  · replace c_7 : ¬ 32 ≤ j := fun h => c_7 ((nI_leI (a := 32) (b := j) (by omega) (by omega)).mpr h)
    refine lv_iload_n hx hb dX5_suspicious_10 rfl (lv_at hl 2 rfl) ?_
    refine lv_aload_n hx hb dX5_suspicious_11 rfl (lv_at hl 0 rfl) ?_
    refine lv_iload_n hx hb dX5_suspicious_12 rfl (lv_at hl 1 rfl) ?_
    refine lv_iload_n hx hb dX5_suspicious_13 rfl (lv_at hl 3 rfl) ?_
    refine lv_iconst (v := 2) hx hb dX5_suspicious_14 (by decide) ?_
    refine lv_idiv hx hb dX5_suspicious_15 (by decide) ?_
    refine zz_top (y := nI (j / 2)) (pk_div (by omega) (by decide) (by decide)) ?_
    refine lv_iload_n hx hb dX5_suspicious_16 rfl (lv_at hl 3 rfl) ?_
    refine lv_iconst (v := 2) hx hb dX5_suspicious_17 (by decide) ?_
    refine lv_irem hx hb dX5_suspicious_18 (by decide) ?_
    refine zz_top (y := nI (j % 2)) (pk_rem (by omega) (by decide) (by decide)) ?_
    refine zr_calli (va_runV (As := [.int (nI k), .int (nI (j / 2)), .int (nI (j % 2))]) (rest := [.int (qSn S k j)]) ⟨hx, hb, hml, hown, hts⟩ (mX5_isSuspicious l D y g S th sv ln at9 pl va hs k (j / 2) (j % 2) (by first | assumption | rfl | omega | decide) (by first | assumption | rfl | omega | decide) (by first | assumption | rfl | omega | decide)) (cwV 3 hts (zgV tw_405 tw_406 tw_407 tw_369 tw_398) rfl rfl rfl (by decide +kernel) ⟨Nat.le_of_ble_eq_true rfl, Nat.le_of_ble_eq_true rfl⟩) (zRO_preV hKN hP (ci := 5) (q0 := 0) rfl rfl [0, 1] rfl) rfl rfl hl.1 rfl (lv_room (Nat.le_of_ble_eq_true rfl)) dX5_suspicious_19 ⟨Nat.zero_le _, Nat.zero_le _⟩) hS (fun r_1 H locs hw_19 hT hS => ?_)
    replace hP := hT _ _ hP
    obtain rfl : r_1 = (if S 6 < qOff S k (j / 2) (j % 2) then (1 : Int32) else 0) := hw_19
    refine lv_if_eq (tgt := 29) hx hb dX5_suspicious_22 (by decide) (fun c_22 => ?_) (fun c_22 => ?_)
    · replace c_22 := zb0.mp c_22
      refine lv_iconst (v := 0) hx hb dX5_suspicious_29 (by decide) ?_
      refine lv_iadd hx hb dX5_suspicious_30 ?_
      refine zz_top (y := qSn S k (j + 1)) (congrArg (qSn S k j + ·) (if_neg c_22).symm) ?_
      refine lv_istore_n (lv' := [(2, .int (qSn S k (j + 1))), (0, .ref (g 0)), (1, .int (nI k)), (3, .int (nI j))]) hx hb dX5_suspicious_31 rfl hl (by decide) rfl (fun ls hl => ?_)
      refine lv_iinc (v := nI (j + 1)) (lv' := [(3, .int (nI (j + 1))), (2, .int (qSn S k (j + 1))), (0, .ref (g 0)), (1, .int (nI k))]) hx hb dX5_suspicious_32 hl (k := 3) rfl (nI_1 j) (by decide) rfl (fun ls hl => ?_)
      refine lv_goto (tgt := 4) hx hb dX5_suspicious_35 (by decide) ?_
      exact ih4 (j + 1) _ _ _ (by omega) ⟨by omega, hP, hS, lv_sub hl [2, 3, 1, 0] rfl⟩
    · replace c_22 := zb1.mp c_22
      refine lv_iconst (v := 1) hx hb dX5_suspicious_25 (by decide) ?_
      refine lv_goto (tgt := 30) hx hb dX5_suspicious_26 (by decide) ?_
      refine lv_iadd hx hb dX5_suspicious_30 ?_
      refine zz_top (y := qSn S k (j + 1)) (congrArg (qSn S k j + ·) (if_pos c_22).symm) ?_
      refine lv_istore_n (lv' := [(2, .int (qSn S k (j + 1))), (0, .ref (g 0)), (1, .int (nI k)), (3, .int (nI j))]) hx hb dX5_suspicious_31 rfl hl (by decide) rfl (fun ls hl => ?_)
      refine lv_iinc (v := nI (j + 1)) (lv' := [(3, .int (nI (j + 1))), (2, .int (qSn S k (j + 1))), (0, .ref (g 0)), (1, .int (nI k))]) hx hb dX5_suspicious_32 hl (k := 3) rfl (nI_1 j) (by decide) rfl (fun ls hl => ?_)
      refine lv_goto (tgt := 4) hx hb dX5_suspicious_35 (by decide) ?_
      exact ih4 (j + 1) _ _ _ (by omega) ⟨by omega, hP, hS, lv_sub hl [2, 3, 1, 0] rfl⟩

set_option maxHeartbeats 4000000 in
set_option maxRecDepth 100000 in
theorem mX5_worstLevel (l : Launch) (D : va_G) (y : Nat → ClassId) (g : Nat → Nat) (S : (Nat → Int32)) (th : Int32) (sv : Nat) (ln : Nat) (at9 : Nat) (pl : Nat) (va : Int32) (hs : Int64) (k : Nat) (hk : k < 6) : Met l yX5_worstLevel (ws_ yX5_worstLevel cX5_worstLevel 6 (some .int)) ({ frames := 4, cells := 0, slots := 0, locals := 97 }) (va_Pc [.ref (g 0), .int (nI k)] (zRO D y [((g 0), .inr (5, [.int th, .ref (g 1), .int (nI sv), .ref (g 2), .ref (g 3), .int (nI ln), .int (nI at9), .int (nI pl), .int va, .long hs])), ((g 1), .inl (y 0, 4023, .inl S))])) (va_Qi (fun (r : Int32) (_ : Unit) => r = (qWl S k 32).1) (fun _ _ => True) (fun _ => False)) 0 0 (fun _ => False) := by
  refine Met.ofW (cc := cX5_worstLevel) (maxL := 6) (ret := (some .int)) (by decide) rfl ?_
  intro p e s m args below meth c s₁ B hml hpre9
  obtain ⟨rfl, hP, hKN⟩ := hpre9
  have hK := hKN.1
  have hx := B.exec
  have hb := B.bytes
  have hr := B.returns
  have hts := atoms_spec (ws := (ws_ yX5_worstLevel cX5_worstLevel 6 (some .int))) B.pre
  have htg : ∀ w ∈ gT, w.before _ s = true := fun w h => hts w (List.mem_cons_of_mem _ h)
  have hown : s.vm.findClass RX5 = some m.cls := findClass_of_methodNamed B.named
  have hlocks := B.notSynchronized
  have hS : va_S (fun _ => False) s.heap s.heap [] := va_S.rf
  have hP : va_P D vwCl [((g 0), .inr (5, [.int th, .ref (g 1), .int (nI sv), .ref (g 2), .ref (g 3), .int (nI ln), .int (nI at9), .int (nI pl), .int va, .long hs])), ((g 1), .inl (y 0, 4023, .inl S))] s.heap := hP
  have hl := lv_entry ([.ref (g 0), .int (nI k)]) (n := 6) (Nat.le_of_ble_eq_true rfl)
  rw [lg_entry_eq]
  generalize (lg_sl ([.ref (g 0), .int (nI k)]) ++ List.replicate (6 - (lg_sl ([.ref (g 0), .int (nI k)])).length) Slot.unset).toArray = ls at hl ⊢
  have hl : lv_has ls 6 [(0, .ref (g 0)), (1, .int (nI k))] := hl
  refine lv_iconst (v := 0) hx hb dX5_worstLevel_0 (by decide) ?_
  refine lv_istore_n (lv' := [(2, .int 0), (0, .ref (g 0)), (1, .int (nI k))]) hx hb dX5_worstLevel_1 rfl hl (by decide) rfl (fun ls hl => ?_)
  refine lv_iconst (v := 0) hx hb dX5_worstLevel_2 (by decide) ?_
  refine lv_istore_n (lv' := [(3, .int 0), (2, .int 0), (0, .ref (g 0)), (1, .int (nI k))]) hx hb dX5_worstLevel_3 rfl hl (by decide) rfl (fun ls hl => ?_)
  refine lv_iconst (v := 0) hx hb dX5_worstLevel_4 (by decide) ?_
  refine lv_istore (lv' := [(4, .int 0), (3, .int 0), (2, .int 0), (0, .ref (g 0)), (1, .int (nI k))]) hx hb dX5_worstLevel_5 hl (by decide) rfl (fun ls hl => ?_)
  refine zloop (fun j : Nat => 32 - j) (fun j H locs ls => j ≤ 32 ∧ va_P D vwCl [((g 0), .inr (5, [.int th, .ref (g 1), .int (nI sv), .ref (g 2), .ref (g 3), .int (nI ln), .int (nI at9), .int (nI pl), .int va, .long hs])), ((g 1), .inl (y 0, 4023, .inl S))] H ∧ va_S (fun _ => False) s.heap H locs ∧ lv_has ls 6 [(0, .ref (g 0)), (1, .int (nI k)), (2, .int ((qWl S k j).1)), (3, .int ((qWl S k j).2)), (4, .int (nI j))]) 7 (fun _ => 0) (fun _ => 0) ?_ (0) ⟨by omega, hP, hS, lv_sub hl [3, 4, 2, 1, 0] rfl⟩
  clear hl hS hP
  rintro j H locs ls ⟨hj, hP, hS, hl⟩ ih7
  refine lv_iload hx hb dX5_worstLevel_7 (lv_at hl 4 rfl) ?_
  refine lv_bipush (v := 32) hx hb dX5_worstLevel_9 (by decide) ?_
  refine lv_icmp_ge (tgt := 76) hx hb dX5_worstLevel_11 (by decide) (fun c_11 => ?_) (fun c_11 => ?_)
  · replace c_11 : 32 ≤ j := (nI_leI (a := 32) (b := j) (by omega) (by omega)).mp c_11
    have e8 : j = 32 := by omega
    refine lv_iload_n hx hb dX5_worstLevel_76 rfl (lv_at hl 2 rfl) ?_
    exact W.iret (v := ((qWl S k j).1)) hx hb hr (fun t ht hW => ⟨⟨(qWl S k j).1, (), rfl, congrArg (fun j => (qWl S k j).1) e8, trivial⟩, hS.F ht⟩) hS.2.2 dX5_worstLevel_77
  · replace c_11 : ¬ 32 ≤ j := fun h => c_11 ((nI_leI (a := 32) (b := j) (by omega) (by omega)).mpr h)
    refine lv_aload_n hx hb dX5_worstLevel_14 rfl (lv_at hl 0 rfl) ?_
    refine lv_iload_n hx hb dX5_worstLevel_15 rfl (lv_at hl 1 rfl) ?_
    refine lv_iload hx hb dX5_worstLevel_16 (lv_at hl 4 rfl) ?_
    refine lv_iconst (v := 2) hx hb dX5_worstLevel_18 (by decide) ?_
    refine lv_idiv hx hb dX5_worstLevel_19 (by decide) ?_
    refine zz_top (y := nI (j / 2)) (pk_div (by omega) (by decide) (by decide)) ?_
    refine lv_iload hx hb dX5_worstLevel_20 (lv_at hl 4 rfl) ?_
    refine lv_iconst (v := 2) hx hb dX5_worstLevel_22 (by decide) ?_
    refine lv_irem hx hb dX5_worstLevel_23 (by decide) ?_
    refine zz_top (y := nI (j % 2)) (pk_rem (by omega) (by decide) (by decide)) ?_
    refine zr_calli (va_runV (As := [.int (nI k), .int (nI (j / 2)), .int (nI (j % 2))]) (rest := []) ⟨hx, hb, hml, hown, hts⟩ (mX5_check l D y g S th sv ln at9 pl va hs k (j / 2) (j % 2) (by first | assumption | rfl | omega | decide) (by first | assumption | rfl | omega | decide) (by first | assumption | rfl | omega | decide)) (cwV 3 hts (zgV tw_395 tw_396 tw_397 tw_369 tw_390) rfl rfl rfl (by decide +kernel) ⟨Nat.le_of_ble_eq_true rfl, Nat.le_of_ble_eq_true rfl⟩) (zRO_preV hKN hP (ci := 5) (q0 := 0) rfl rfl [0, 1] rfl) rfl rfl hl.1 rfl (lv_room (Nat.le_of_ble_eq_true rfl)) dX5_worstLevel_24 ⟨Nat.zero_le _, Nat.zero_le _⟩) hS (fun r_1 H locs hw_24 hT hS => ?_)
    replace hP := hT _ _ hP
    obtain rfl : r_1 = qCk S k (j / 2) (j % 2) := hw_24
    refine lv_aload_n hx hb dX5_worstLevel_27 rfl (lv_at hl 0 rfl) ?_
    refine lv_iload_n hx hb dX5_worstLevel_28 rfl (lv_at hl 1 rfl) ?_
    refine lv_iload hx hb dX5_worstLevel_29 (lv_at hl 4 rfl) ?_
    refine lv_iconst (v := 2) hx hb dX5_worstLevel_31 (by decide) ?_
    refine lv_irem hx hb dX5_worstLevel_32 (by decide) ?_
    refine zz_top (y := nI (j % 2)) (pk_rem (by omega) (by decide) (by decide)) ?_
    refine zr_calli (va_runV (As := [.int (nI k), .int (nI (j % 2))]) (rest := [.int (qCk S k (j / 2) (j % 2))]) ⟨hx, hb, hml, hown, hts⟩ (mX5_common l D y g S th sv ln at9 pl va hs k (j % 2) (by first | assumption | rfl | omega | decide) (by first | assumption | rfl | omega | decide)) (cwV 2 hts (zgV tw_399 tw_400 tw_401 tw_369 tw_394) rfl rfl rfl (by decide +kernel) ⟨Nat.le_of_ble_eq_true rfl, Nat.le_of_ble_eq_true rfl⟩) (zRO_preV hKN hP (ci := 5) (q0 := 0) rfl rfl [0, 1] rfl) rfl rfl hl.1 rfl (lv_room (Nat.le_of_ble_eq_true rfl)) dX5_worstLevel_33 ⟨Nat.zero_le _, Nat.zero_le _⟩) hS (fun r_2 H locs hw_33 hT hS => ?_)
    replace hP := hT _ _ hP
    obtain rfl : r_2 = qCm S k (j % 2) := hw_33
    refine lv_isub hx hb dX5_worstLevel_36 ?_
    refine zr_calli (va_runS (As := [.int ((qCk S k (j / 2) (j % 2)) - (qCm S k (j % 2)))]) (rest := []) ⟨hx, hb, hml, hown, hts⟩ (mX5_size l ((qCk S k (j / 2) (j % 2)) - (qCm S k (j % 2)))) (va_cwS 1 hts (zgS tw_402 tw_403 tw_369 tw_372) rfl rfl rfl (by decide +kernel) ⟨Nat.le_of_ble_eq_true rfl, Nat.le_of_ble_eq_true rfl⟩) zP_pre rfl rfl hl.1 rfl (lv_room (Nat.le_of_ble_eq_true rfl)) dX5_worstLevel_37 ⟨Nat.zero_le _, Nat.zero_le _⟩) hS (fun r_3 H locs hw_37 hT hS => ?_)
    replace hP := hT _ _ hP
    obtain rfl : r_3 = qAbs ((qCk S k (j / 2) (j % 2)) - (qCm S k (j % 2))) := hw_37
    refine zz_top (y := qOff S k (j / 2) (j % 2)) (rfl) ?_
    refine lv_istore (lv' := [(5, .int (qOff S k (j / 2) (j % 2))), (0, .ref (g 0)), (1, .int (nI k)), (2, .int ((qWl S k j).1)), (3, .int ((qWl S k j).2)), (4, .int (nI j))]) hx hb dX5_worstLevel_40 hl (by decide) rfl (fun ls hl => ?_)
    refine lv_iload hx hb dX5_worstLevel_42 (lv_at hl 0 rfl) ?_
    refine lv_iload_n hx hb dX5_worstLevel_44 rfl (lv_at hl 4 rfl) ?_
    refine lv_icmp_le (tgt := 55) hx hb dX5_worstLevel_45 (by decide) (fun c_45 => ?_) (fun c_45 => ?_)
    · refine lv_iload_n hx hb dX5_worstLevel_55 rfl (lv_at hl 3 rfl) ?_
      refine lv_istore_n (lv' := [(2, .int ((qWl S k j).1)), (5, .int (qOff S k (j / 2) (j % 2))), (0, .ref (g 0)), (1, .int (nI k)), (3, .int ((qWl S k j).2)), (4, .int (nI j))]) hx hb dX5_worstLevel_56 rfl hl (by decide) rfl (fun ls hl => ?_)
      refine lv_iload hx hb dX5_worstLevel_57 (lv_at hl 1 rfl) ?_
      refine lv_iload_n hx hb dX5_worstLevel_59 rfl (lv_at hl 4 rfl) ?_
      refine lv_icmp_le (tgt := 68) hx hb dX5_worstLevel_60 (by decide) (fun _ => ?_) (fun c_60 => absurd (c_45) c_60)
      refine lv_iload_n hx hb dX5_worstLevel_68 rfl (lv_at hl 4 rfl) ?_
      refine lv_istore_n (lv' := [(3, .int ((qWl S k j).2)), (2, .int ((qWl S k j).1)), (5, .int (qOff S k (j / 2) (j % 2))), (0, .ref (g 0)), (1, .int (nI k)), (4, .int (nI j))]) hx hb dX5_worstLevel_69 rfl hl (by decide) rfl (fun ls hl => ?_)
      have hl : lv_has ls 6 [(3, .int ((qWl S k j).2)), (2, .int ((qWl S k (j + 1)).1)), (5, .int (qOff S k (j / 2) (j % 2))), (0, .ref (g 0)), (1, .int (nI k)), (4, .int (nI j))] := by rw [show ((qWl S k (j + 1)).1 : Int32) = (qWl S k j).1 from (by rw [(show qWl S k (j + 1) = qWl S k j from qWl_no rfl rfl (zz_le c_45))] : ((qWl S k j).1 : Int32) = (qWl S k (j + 1)).1).symm]; exact hl
      have hl : lv_has ls 6 [(3, .int ((qWl S k (j + 1)).2)), (2, .int ((qWl S k (j + 1)).1)), (5, .int (qOff S k (j / 2) (j % 2))), (0, .ref (g 0)), (1, .int (nI k)), (4, .int (nI j))] := by rw [show ((qWl S k (j + 1)).2 : Int32) = (qWl S k j).2 from (by rw [(show qWl S k (j + 1) = qWl S k j from qWl_no rfl rfl (zz_le c_45))] : ((qWl S k j).2 : Int32) = (qWl S k (j + 1)).2).symm]; exact hl
      refine lv_iinc (v := nI (j + 1)) (lv' := [(4, .int (nI (j + 1))), (3, .int ((qWl S k (j + 1)).2)), (2, .int ((qWl S k (j + 1)).1)), (5, .int (qOff S k (j / 2) (j % 2))), (0, .ref (g 0)), (1, .int (nI k))]) hx hb dX5_worstLevel_70 hl (k := 5) rfl (nI_1 j) (by decide) rfl (fun ls hl => ?_)
      refine lv_goto (tgt := 7) hx hb dX5_worstLevel_73 (by decide) ?_
      exact ih7 (j + 1) _ _ _ (by omega) ⟨by omega, hP, hS, lv_sub hl [4, 5, 2, 1, 0] rfl⟩
    · refine lv_iload hx hb dX5_worstLevel_48 (lv_at hl 5 rfl) ?_
      refine lv_iconst (v := 2) hx hb dX5_worstLevel_50 (by decide) ?_
      refine lv_idiv hx hb dX5_worstLevel_51 (by decide) ?_
      refine zz_top (y := nI (j / 2)) (pk_div (by omega) (by decide) (by decide)) ?_
      refine lv_goto (tgt := 56) hx hb dX5_worstLevel_52 (by decide) ?_
      refine lv_istore_n (lv' := [(2, .int (nI (j / 2))), (5, .int (qOff S k (j / 2) (j % 2))), (0, .ref (g 0)), (1, .int (nI k)), (3, .int ((qWl S k j).2)), (4, .int (nI j))]) hx hb dX5_worstLevel_56 rfl hl (by decide) rfl (fun ls hl => ?_)
      refine lv_iload hx hb dX5_worstLevel_57 (lv_at hl 1 rfl) ?_
      refine lv_iload_n hx hb dX5_worstLevel_59 rfl (lv_at hl 4 rfl) ?_
      refine lv_icmp_le (tgt := 68) hx hb dX5_worstLevel_60 (by decide) (fun c_60 => absurd c_60 (c_45)) (fun _ => ?_)
      refine lv_iload hx hb dX5_worstLevel_63 (lv_at hl 1 rfl) ?_
      refine lv_goto (tgt := 69) hx hb dX5_worstLevel_65 (by decide) ?_
      refine lv_istore_n (lv' := [(3, .int (qOff S k (j / 2) (j % 2))), (2, .int (nI (j / 2))), (5, .int (qOff S k (j / 2) (j % 2))), (0, .ref (g 0)), (1, .int (nI k)), (4, .int (nI j))]) hx hb dX5_worstLevel_69 rfl hl (by decide) rfl (fun ls hl => ?_)
      have hl : lv_has ls 6 [(3, .int (qOff S k (j / 2) (j % 2))), (2, .int ((qWl S k (j + 1)).1)), (5, .int (qOff S k (j / 2) (j % 2))), (0, .ref (g 0)), (1, .int (nI k)), (4, .int (nI j))] := by rw [show ((qWl S k (j + 1)).1 : Int32) = nI (j / 2) from (by rw [(show qWl S k (j + 1) = (nI (j / 2), qOff S k (j / 2) (j % 2)) from qWl_yes rfl rfl (zz_lt c_45))] : (nI (j / 2) : Int32) = (qWl S k (j + 1)).1).symm]; exact hl
      have hl : lv_has ls 6 [(3, .int ((qWl S k (j + 1)).2)), (2, .int ((qWl S k (j + 1)).1)), (5, .int (qOff S k (j / 2) (j % 2))), (0, .ref (g 0)), (1, .int (nI k)), (4, .int (nI j))] := by rw [show ((qWl S k (j + 1)).2 : Int32) = qOff S k (j / 2) (j % 2) from (by rw [(show qWl S k (j + 1) = (nI (j / 2), qOff S k (j / 2) (j % 2)) from qWl_yes rfl rfl (zz_lt c_45))] : (qOff S k (j / 2) (j % 2) : Int32) = (qWl S k (j + 1)).2).symm]; exact hl
      refine lv_iinc (v := nI (j + 1)) (lv' := [(4, .int (nI (j + 1))), (3, .int ((qWl S k (j + 1)).2)), (2, .int ((qWl S k (j + 1)).1)), (5, .int (qOff S k (j / 2) (j % 2))), (0, .ref (g 0)), (1, .int (nI k))]) hx hb dX5_worstLevel_70 hl (k := 5) rfl (nI_1 j) (by decide) rfl (fun ls hl => ?_)
      refine lv_goto (tgt := 7) hx hb dX5_worstLevel_73 (by decide) ?_
      exact ih7 (j + 1) _ _ _ (by omega) ⟨by omega, hP, hS, lv_sub hl [4, 5, 2, 1, 0] rfl⟩

set_option maxHeartbeats 4000000 in
set_option maxRecDepth 100000 in
theorem mX5_ofSurvey (l : Launch) (D : va_G) (y : Nat → ClassId) (g : Nat → Nat) (S : (Nat → Int32)) (th : Int32) (sv : Nat) (ln : Nat) (at9 : Nat) (pl : Nat) (va : Int32) (hs : Int64) (k : Nat) (w9 : Nat) (hk : k < 6) (hw9 : w9 < 5) : Met l yX5_ofSurvey (ws_ yX5_ofSurvey cX5_ofSurvey 3 (some .int)) ({ frames := 6, cells := 0, slots := 0, locals := 143 }) (va_Pc [.ref (g 0), .int (nI k), .int (nI w9)] (zRO D y [((g 0), .inr (5, [.int th, .ref (g 1), .int (nI sv), .ref (g 2), .ref (g 3), .int (nI ln), .int (nI at9), .int (nI pl), .int va, .long hs])), ((g 1), .inl (y 0, 4023, .inl S))])) (va_Qi (fun (r : Int32) (_ : Unit) => r = qOfS S k w9) (fun _ _ => True) (fun _ => False)) 0 0 (fun _ => False) := by
  refine Met.ofW (cc := cX5_ofSurvey) (maxL := 3) (ret := (some .int)) (by decide) rfl ?_
  intro p e s m args below meth c s₁ B hml hpre9
  obtain ⟨rfl, hP, hKN⟩ := hpre9
  have hK := hKN.1
  have hx := B.exec
  have hb := B.bytes
  have hr := B.returns
  have hts := atoms_spec (ws := (ws_ yX5_ofSurvey cX5_ofSurvey 3 (some .int))) B.pre
  have htg : ∀ w ∈ gT, w.before _ s = true := fun w h => hts w (List.mem_cons_of_mem _ h)
  have hown : s.vm.findClass RX5 = some m.cls := findClass_of_methodNamed B.named
  have hlocks := B.notSynchronized
  have hS : va_S (fun _ => False) s.heap s.heap [] := va_S.rf
  have hP : va_P D vwCl [((g 0), .inr (5, [.int th, .ref (g 1), .int (nI sv), .ref (g 2), .ref (g 3), .int (nI ln), .int (nI at9), .int (nI pl), .int va, .long hs])), ((g 1), .inl (y 0, 4023, .inl S))] s.heap := hP
  have hl := lv_entry ([.ref (g 0), .int (nI k), .int (nI w9)]) (n := 3) (Nat.le_of_ble_eq_true rfl)
  rw [lg_entry_eq]
  generalize (lg_sl ([.ref (g 0), .int (nI k), .int (nI w9)]) ++ List.replicate (3 - (lg_sl ([.ref (g 0), .int (nI k), .int (nI w9)])).length) Slot.unset).toArray = ls at hl ⊢
  have hl : lv_has ls 3 [(0, .ref (g 0)), (1, .int (nI k)), (2, .int (nI w9))] := hl
  refine lv_iload_n hx hb dX5_ofSurvey_0 rfl (lv_at hl 2 rfl) ?_
  rcases (show w9 = 0 ∨ w9 = 1 ∨ w9 = 2 ∨ w9 = 3 ∨ w9 = 4 by omega) with rfl | rfl | rfl | rfl | rfl
  · refine lv_tableIn (tgt := 32) (off := 31) hx hb dX5_ofSurvey_1 (by decide) (by decide) rfl (by decide) ?_
    refine lv_aload_n hx hb dX5_ofSurvey_32 rfl (lv_at hl 0 rfl) ?_
    refine va_get (D := D) (ci := 5) (v := .ref (g 1)) (C := RX5) (T := TX5) (N := 10) hx hb htg iX5 hown hK hP 0 rfl rfl 1 (by decide) (htg _ tw_359) (fun _ h9 => h9) rfl dX5_ofSurvey_33 ?_
    refine lv_bipush (v := 57) hx hb dX5_ofSurvey_36 (by decide) ?_
    refine lv_bipush (v := 65) hx hb dX5_ofSurvey_38 (by decide) ?_
    refine lv_iload_n hx hb dX5_ofSurvey_40 rfl (lv_at hl 1 rfl) ?_
    refine lv_imul hx hb dX5_ofSurvey_41 ?_
    refine zz_top (y := nI (65 * k)) (pk_mul 65 k) ?_
    refine lv_iadd hx hb dX5_ofSurvey_42 ?_
    refine zz_top (y := nI (57 + (65 * k))) (nI_add 57 (65 * k)) ?_
    refine va_iald hx hb hK hP 1 0 rfl rfl (vp_in_nI (by omega) (by decide)) dX5_ofSurvey_43 ?_
    refine zz_top (y := S (57 + (65 * k))) (congrArg S (nI_clamp (by omega))) ?_
    exact W.iret (v := (S (57 + (65 * k)))) hx hb hr (fun t ht hW => ⟨⟨S (57 + (65 * k)), (), rfl, by simp [qOfS], trivial⟩, hS.F ht⟩) hS.2.2 dX5_ofSurvey_44
  · refine lv_tableIn (tgt := 45) (off := 44) hx hb dX5_ofSurvey_1 (by decide) (by decide) rfl (by decide) ?_
    refine lv_aload_n hx hb dX5_ofSurvey_45 rfl (lv_at hl 0 rfl) ?_
    refine lv_iload_n hx hb dX5_ofSurvey_46 rfl (lv_at hl 1 rfl) ?_
    refine lv_iload_n hx hb dX5_ofSurvey_47 rfl (lv_at hl 2 rfl) ?_
    refine lv_iconst (v := 1) hx hb dX5_ofSurvey_48 (by decide) ?_
    refine lv_isub hx hb dX5_ofSurvey_49 ?_
    refine zz_top (y := nI 0) (by decide) ?_
    refine zr_calli (va_runV (As := [.int (nI k), .int (nI 0)]) (rest := []) ⟨hx, hb, hml, hown, hts⟩ (mX5_common l D y g S th sv ln at9 pl va hs k 0 (by first | assumption | rfl | omega | decide) (by first | assumption | rfl | omega | decide)) (cwV 2 hts (zgV tw_399 tw_400 tw_401 tw_369 tw_394) rfl rfl rfl (by decide +kernel) ⟨Nat.le_of_ble_eq_true rfl, Nat.le_of_ble_eq_true rfl⟩) (zRO_preV hKN hP (ci := 5) (q0 := 0) rfl rfl [0, 1] rfl) rfl rfl hl.1 rfl (lv_room (Nat.le_of_ble_eq_true rfl)) dX5_ofSurvey_50 ⟨Nat.zero_le _, Nat.zero_le _⟩) hS (fun r_1 H locs hw_50 hT hS => ?_)
    replace hP := hT _ _ hP
    obtain rfl : r_1 = qCm S k 0 := hw_50
    exact W.iret (v := (qCm S k 0)) hx hb hr (fun t ht hW => ⟨⟨qCm S k 0, (), rfl, by simp [qOfS], trivial⟩, hS.F ht⟩) hS.2.2 dX5_ofSurvey_53
  · refine lv_tableIn (tgt := 45) (off := 44) hx hb dX5_ofSurvey_1 (by decide) (by decide) rfl (by decide) ?_
    refine lv_aload_n hx hb dX5_ofSurvey_45 rfl (lv_at hl 0 rfl) ?_
    refine lv_iload_n hx hb dX5_ofSurvey_46 rfl (lv_at hl 1 rfl) ?_
    refine lv_iload_n hx hb dX5_ofSurvey_47 rfl (lv_at hl 2 rfl) ?_
    refine lv_iconst (v := 1) hx hb dX5_ofSurvey_48 (by decide) ?_
    refine lv_isub hx hb dX5_ofSurvey_49 ?_
    refine zz_top (y := nI 1) (by decide) ?_
    refine zr_calli (va_runV (As := [.int (nI k), .int (nI 1)]) (rest := []) ⟨hx, hb, hml, hown, hts⟩ (mX5_common l D y g S th sv ln at9 pl va hs k 1 (by first | assumption | rfl | omega | decide) (by first | assumption | rfl | omega | decide)) (cwV 2 hts (zgV tw_399 tw_400 tw_401 tw_369 tw_394) rfl rfl rfl (by decide +kernel) ⟨Nat.le_of_ble_eq_true rfl, Nat.le_of_ble_eq_true rfl⟩) (zRO_preV hKN hP (ci := 5) (q0 := 0) rfl rfl [0, 1] rfl) rfl rfl hl.1 rfl (lv_room (Nat.le_of_ble_eq_true rfl)) dX5_ofSurvey_50 ⟨Nat.zero_le _, Nat.zero_le _⟩) hS (fun r_2 H locs hw_50 hT hS => ?_)
    replace hP := hT _ _ hP
    obtain rfl : r_2 = qCm S k 1 := hw_50
    exact W.iret (v := (qCm S k 1)) hx hb hr (fun t ht hW => ⟨⟨qCm S k 1, (), rfl, by simp [qOfS], trivial⟩, hS.F ht⟩) hS.2.2 dX5_ofSurvey_53
  · refine lv_tableIn (tgt := 54) (off := 53) hx hb dX5_ofSurvey_1 (by decide) (by decide) rfl (by decide) ?_
    refine lv_aload_n hx hb dX5_ofSurvey_54 rfl (lv_at hl 0 rfl) ?_
    refine lv_iload_n hx hb dX5_ofSurvey_55 rfl (lv_at hl 1 rfl) ?_
    refine zr_calli (va_runV (As := [.int (nI k)]) (rest := []) ⟨hx, hb, hml, hown, hts⟩ (mX5_suspicious l D y g S th sv ln at9 pl va hs k (by first | assumption | rfl | omega | decide)) (cwV 1 hts (zgV tw_495 tw_496 tw_497 tw_369 tw_492) rfl rfl rfl (by decide +kernel) ⟨Nat.le_of_ble_eq_true rfl, Nat.le_of_ble_eq_true rfl⟩) (zRO_preV hKN hP (ci := 5) (q0 := 0) rfl rfl [0, 1] rfl) rfl rfl hl.1 rfl (lv_room (Nat.le_of_ble_eq_true rfl)) dX5_ofSurvey_56 ⟨Nat.zero_le _, Nat.zero_le _⟩) hS (fun r_3 H locs hw_56 hT hS => ?_)
    replace hP := hT _ _ hP
    obtain rfl : r_3 = qSn S k 32 := hw_56
    exact W.iret (v := (qSn S k 32)) hx hb hr (fun t ht hW => ⟨⟨qSn S k 32, (), rfl, by simp [qOfS], trivial⟩, hS.F ht⟩) hS.2.2 dX5_ofSurvey_59
  · refine lv_tableOut (tgt := 60) hx hb dX5_ofSurvey_1 (by decide) (by decide) ?_
    refine lv_aload_n hx hb dX5_ofSurvey_60 rfl (lv_at hl 0 rfl) ?_
    refine lv_iload_n hx hb dX5_ofSurvey_61 rfl (lv_at hl 1 rfl) ?_
    refine zr_calli (va_runV (As := [.int (nI k)]) (rest := []) ⟨hx, hb, hml, hown, hts⟩ (mX5_worstLevel l D y g S th sv ln at9 pl va hs k (by first | assumption | rfl | omega | decide)) (cwV 1 hts (zgV tw_498 tw_499 tw_500 tw_369 tw_493) rfl rfl rfl (by decide +kernel) ⟨Nat.le_of_ble_eq_true rfl, Nat.le_of_ble_eq_true rfl⟩) (zRO_preV hKN hP (ci := 5) (q0 := 0) rfl rfl [0, 1] rfl) rfl rfl hl.1 rfl (lv_room (Nat.le_of_ble_eq_true rfl)) dX5_ofSurvey_62 ⟨Nat.zero_le _, Nat.zero_le _⟩) hS (fun r_4 H locs hw_62 hT hS => ?_)
    replace hP := hT _ _ hP
    obtain rfl : r_4 = (qWl S k 32).1 := hw_62
    exact W.iret (v := ((qWl S k 32).1)) hx hb hr (fun t ht hW => ⟨⟨(qWl S k 32).1, (), rfl, by simp [qOfS], trivial⟩, hS.F ht⟩) hS.2.2 dX5_ofSurvey_65

set_option maxHeartbeats 4000000 in
set_option maxRecDepth 100000 in
theorem mX5_turned (l : Launch) (D : va_G) (y : Nat → ClassId) (g : Nat → Nat) (S : (Nat → Int32)) (th : Int32) (sv : Nat) (ln : Nat) (at9 : Nat) (pl : Nat) (va : Int32) (hs : Int64) : Met l yX5_turned (ws_ yX5_turned cX5_turned 3 (some .int)) ({ frames := 1, cells := 0, slots := 0, locals := 21 }) (va_Pc [.ref (g 0)] (zRO D y [((g 0), .inr (5, [.int th, .ref (g 1), .int (nI sv), .ref (g 2), .ref (g 3), .int (nI ln), .int (nI at9), .int (nI pl), .int va, .long hs])), ((g 1), .inl (y 0, 4023, .inl S))])) (va_Qi (fun (r : Int32) (_ : Unit) => r = qTn S 16) (fun _ _ => True) (fun _ => False)) 0 0 (fun _ => False) := by
  refine Met.ofW (cc := cX5_turned) (maxL := 3) (ret := (some .int)) (by decide) rfl ?_
  intro p e s m args below meth c s₁ B hml hpre9
  obtain ⟨rfl, hP, hKN⟩ := hpre9
  have hK := hKN.1
  have hx := B.exec
  have hb := B.bytes
  have hr := B.returns
  have hts := atoms_spec (ws := (ws_ yX5_turned cX5_turned 3 (some .int))) B.pre
  have htg : ∀ w ∈ gT, w.before _ s = true := fun w h => hts w (List.mem_cons_of_mem _ h)
  have hown : s.vm.findClass RX5 = some m.cls := findClass_of_methodNamed B.named
  have hlocks := B.notSynchronized
  have hS : va_S (fun _ => False) s.heap s.heap [] := va_S.rf
  have hP : va_P D vwCl [((g 0), .inr (5, [.int th, .ref (g 1), .int (nI sv), .ref (g 2), .ref (g 3), .int (nI ln), .int (nI at9), .int (nI pl), .int va, .long hs])), ((g 1), .inl (y 0, 4023, .inl S))] s.heap := hP
  have hl := lv_entry ([.ref (g 0)]) (n := 3) (Nat.le_of_ble_eq_true rfl)
  rw [lg_entry_eq]
  generalize (lg_sl ([.ref (g 0)]) ++ List.replicate (3 - (lg_sl ([.ref (g 0)])).length) Slot.unset).toArray = ls at hl ⊢
  have hl : lv_has ls 3 [(0, .ref (g 0))] := hl
  refine lv_iconst (v := 0) hx hb dX5_turned_0 (by decide) ?_
  refine lv_istore_n (lv' := [(1, .int 0), (0, .ref (g 0))]) hx hb dX5_turned_1 rfl hl (by decide) rfl (fun ls hl => ?_)
  refine lv_iconst (v := 0) hx hb dX5_turned_2 (by decide) ?_
  refine lv_istore_n (lv' := [(2, .int 0), (1, .int 0), (0, .ref (g 0))]) hx hb dX5_turned_3 rfl hl (by decide) rfl (fun ls hl => ?_)
  refine zloop (fun i : Nat => 16 - i) (fun i H locs ls => i ≤ 16 ∧ va_P D vwCl [((g 0), .inr (5, [.int th, .ref (g 1), .int (nI sv), .ref (g 2), .ref (g 3), .int (nI ln), .int (nI at9), .int (nI pl), .int va, .long hs])), ((g 1), .inl (y 0, 4023, .inl S))] H ∧ va_S (fun _ => False) s.heap H locs ∧ lv_has ls 3 [(0, .ref (g 0)), (1, .int (qTn S i)), (2, .int (nI i))]) 4 (fun _ => 0) (fun _ => 0) ?_ (0) ⟨by omega, hP, hS, lv_sub hl [2, 1, 0] rfl⟩
  clear hl hS hP
  rintro i H locs ls ⟨hi, hP, hS, hl⟩ ih4
  refine lv_iload_n hx hb dX5_turned_4 rfl (lv_at hl 2 rfl) ?_
  refine lv_bipush (v := 16) hx hb dX5_turned_5 (by decide) ?_
  refine lv_icmp_ge (tgt := 32) hx hb dX5_turned_7 (by decide) (fun c_7 => ?_) (fun c_7 => ?_)
  · replace c_7 : 16 ≤ i := (nI_leI (a := 16) (b := i) (by omega) (by omega)).mp c_7
    have e8 : i = 16 := by omega
    refine lv_iload_n hx hb dX5_turned_32 rfl (lv_at hl 1 rfl) ?_
    exact W.iret (v := (qTn S i)) hx hb hr (fun t ht hW => ⟨⟨qTn S i, (), rfl, congrArg (qTn S) e8, trivial⟩, hS.F ht⟩) hS.2.2 dX5_turned_33
  · replace c_7 : ¬ 16 ≤ i := fun h => c_7 ((nI_leI (a := 16) (b := i) (by omega) (by omega)).mpr h)
    refine lv_iload_n hx hb dX5_turned_10 rfl (lv_at hl 1 rfl) ?_
    refine lv_aload_n hx hb dX5_turned_11 rfl (lv_at hl 0 rfl) ?_
    refine lv_iload_n hx hb dX5_turned_12 rfl (lv_at hl 2 rfl) ?_
    refine zr_calli (va_runV (As := [.int (nI i)]) (rest := [.int (qTn S i)]) ⟨hx, hb, hml, hown, hts⟩ (mX5_turnOf l D y g S th sv ln at9 pl va hs i (by first | assumption | rfl | omega | decide)) (cwV 1 hts (zgV tw_376 tw_377 tw_378 tw_369 tw_374) rfl rfl rfl (by decide +kernel) ⟨Nat.le_of_ble_eq_true rfl, Nat.le_of_ble_eq_true rfl⟩) (zRO_preV hKN hP (ci := 5) (q0 := 0) rfl rfl [0, 1] rfl) rfl rfl hl.1 rfl (lv_room (Nat.le_of_ble_eq_true rfl)) dX5_turned_13 ⟨Nat.zero_le _, Nat.zero_le _⟩) hS (fun r_1 H locs hw_13 hT hS => ?_)
    replace hP := hT _ _ hP
    obtain rfl : r_1 = S (11 + 3 * i) := hw_13
    refine lv_if_ne (tgt := 23) hx hb dX5_turned_16 (by decide) (fun c_16 => ?_) (fun c_16 => ?_)
    · refine lv_iconst (v := 1) hx hb dX5_turned_23 (by decide) ?_
      refine lv_iadd hx hb dX5_turned_24 ?_
      refine zz_top (y := qTn S (i + 1)) ((if_neg c_16).symm) ?_
      refine lv_istore_n (lv' := [(1, .int (qTn S (i + 1))), (0, .ref (g 0)), (2, .int (nI i))]) hx hb dX5_turned_25 rfl hl (by decide) rfl (fun ls hl => ?_)
      refine lv_iinc (v := nI (i + 1)) (lv' := [(2, .int (nI (i + 1))), (1, .int (qTn S (i + 1))), (0, .ref (g 0))]) hx hb dX5_turned_26 hl (k := 2) rfl (nI_1 i) (by decide) rfl (fun ls hl => ?_)
      refine lv_goto (tgt := 4) hx hb dX5_turned_29 (by decide) ?_
      exact ih4 (i + 1) _ _ _ (by omega) ⟨by omega, hP, hS, lv_sub hl [2, 1, 0] rfl⟩
    · refine lv_iconst (v := 0) hx hb dX5_turned_19 (by decide) ?_
      refine lv_goto (tgt := 24) hx hb dX5_turned_20 (by decide) ?_
      refine lv_iadd hx hb dX5_turned_24 ?_
      refine zz_top (y := qTn S (i + 1)) ((Int32.add_zero _).trans (if_pos c_16).symm) ?_
      refine lv_istore_n (lv' := [(1, .int (qTn S (i + 1))), (0, .ref (g 0)), (2, .int (nI i))]) hx hb dX5_turned_25 rfl hl (by decide) rfl (fun ls hl => ?_)
      refine lv_iinc (v := nI (i + 1)) (lv' := [(2, .int (nI (i + 1))), (1, .int (qTn S (i + 1))), (0, .ref (g 0))]) hx hb dX5_turned_26 hl (k := 2) rfl (nI_1 i) (by decide) rfl (fun ls hl => ?_)
      refine lv_goto (tgt := 4) hx hb dX5_turned_29 (by decide) ?_
      exact ih4 (i + 1) _ _ _ (by omega) ⟨by omega, hP, hS, lv_sub hl [2, 1, 0] rfl⟩

set_option maxHeartbeats 4000000 in
set_option maxRecDepth 100000 in
theorem mX5_counted (l : Launch) (D : va_G) (y : Nat → ClassId) (g : Nat → Nat) (S : (Nat → Int32)) (th : Int32) (sv : Nat) (ln : Nat) (at9 : Nat) (pl : Nat) (va : Int32) (hs : Int64) (w9 : Nat) (hw9 : w9 < 8) : Met l yX5_counted (ws_ yX5_counted cX5_counted 2 (some .int)) ({ frames := 2, cells := 0, slots := 0, locals := 43 }) (va_Pc [.ref (g 0), .int (nI w9)] (zRO D y [((g 0), .inr (5, [.int th, .ref (g 1), .int (nI sv), .ref (g 2), .ref (g 3), .int (nI ln), .int (nI at9), .int (nI pl), .int va, .long hs])), ((g 1), .inl (y 0, 4023, .inl S))])) (va_Qi (fun (r : Int32) (_ : Unit) => r = qCt S (nI sv) w9) (fun _ _ => True) (fun _ => False)) 0 0 (fun _ => False) := by
  refine Met.ofW (cc := cX5_counted) (maxL := 2) (ret := (some .int)) (by decide) rfl ?_
  intro p e s m args below meth c s₁ B hml hpre9
  obtain ⟨rfl, hP, hKN⟩ := hpre9
  have hK := hKN.1
  have hx := B.exec
  have hb := B.bytes
  have hr := B.returns
  have hts := atoms_spec (ws := (ws_ yX5_counted cX5_counted 2 (some .int))) B.pre
  have htg : ∀ w ∈ gT, w.before _ s = true := fun w h => hts w (List.mem_cons_of_mem _ h)
  have hown : s.vm.findClass RX5 = some m.cls := findClass_of_methodNamed B.named
  have hlocks := B.notSynchronized
  have hS : va_S (fun _ => False) s.heap s.heap [] := va_S.rf
  have hP : va_P D vwCl [((g 0), .inr (5, [.int th, .ref (g 1), .int (nI sv), .ref (g 2), .ref (g 3), .int (nI ln), .int (nI at9), .int (nI pl), .int va, .long hs])), ((g 1), .inl (y 0, 4023, .inl S))] s.heap := hP
  have hl := lv_entry ([.ref (g 0), .int (nI w9)]) (n := 2) (Nat.le_of_ble_eq_true rfl)
  rw [lg_entry_eq]
  generalize (lg_sl ([.ref (g 0), .int (nI w9)]) ++ List.replicate (2 - (lg_sl ([.ref (g 0), .int (nI w9)])).length) Slot.unset).toArray = ls at hl ⊢
  have hl : lv_has ls 2 [(0, .ref (g 0)), (1, .int (nI w9))] := hl
  refine lv_iload_n hx hb dX5_counted_0 rfl (lv_at hl 1 rfl) ?_
  refine lv_bipush (v := 6) hx hb dX5_counted_1 (by decide) ?_
  refine lv_icmp_ge (tgt := 15) hx hb dX5_counted_3 (by decide) (fun c_3 => ?_) (fun c_3 => ?_)
  · replace c_3 : 6 ≤ w9 := (nI_leI (a := 6) (b := w9) (by omega) (by omega)).mp c_3
    refine lv_iload_n hx hb dX5_counted_15 rfl (lv_at hl 1 rfl) ?_
    refine lv_bipush (v := 6) hx hb dX5_counted_16 (by decide) ?_
    refine lv_icmp_ne (tgt := 28) hx hb dX5_counted_18 (by decide) (fun c_18 => ?_) (fun c_18 => ?_)
    · replace c_18 : ¬ w9 = 6 := fun h => c_18 ((nI_eq (a := w9) (b := 6) (by omega) (by omega)).mpr h)
      refine lv_aload_n hx hb dX5_counted_28 rfl (lv_at hl 0 rfl) ?_
      refine va_get (D := D) (ci := 5) (v := .int (nI sv)) (C := RX5) (T := TX5) (N := 10) hx hb htg iX5 hown hK hP 0 rfl rfl 2 (by decide) (htg _ tw_418) (fun _ h9 => h9) rfl dX5_counted_29 ?_
      exact W.iret (v := (nI sv)) hx hb hr (fun t ht hW => ⟨⟨nI sv, (), rfl, by rw [qCt, if_neg c_18, if_pos (by omega)], trivial⟩, hS.F ht⟩) hS.2.2 dX5_counted_32
    · replace c_18 : w9 = 6 := (nI_eq (a := w9) (b := 6) (by omega) (by omega)).mp c_18
      refine lv_aload_n hx hb dX5_counted_21 rfl (lv_at hl 0 rfl) ?_
      refine zr_calli (va_runV (As := []) (rest := []) ⟨hx, hb, hml, hown, hts⟩ (mX5_turned l D y g S th sv ln at9 pl va hs) (cwV 0 hts (zgV tw_511 tw_512 tw_513 tw_369 tw_509) rfl rfl rfl (by decide +kernel) ⟨Nat.le_of_ble_eq_true rfl, Nat.le_of_ble_eq_true rfl⟩) (zRO_preV hKN hP (ci := 5) (q0 := 0) rfl rfl [0, 1] rfl) rfl rfl hl.1 rfl (lv_room (Nat.le_of_ble_eq_true rfl)) dX5_counted_22 ⟨Nat.zero_le _, Nat.zero_le _⟩) hS (fun r_1 H locs hw_22 hT hS => ?_)
      replace hP := hT _ _ hP
      obtain rfl : r_1 = qTn S 16 := hw_22
      refine lv_goto (tgt := 32) hx hb dX5_counted_25 (by decide) ?_
      exact W.iret (v := (qTn S 16)) hx hb hr (fun t ht hW => ⟨⟨qTn S 16, (), rfl, by rw [qCt, if_pos c_18], trivial⟩, hS.F ht⟩) hS.2.2 dX5_counted_32
  · replace c_3 : ¬ 6 ≤ w9 := fun h => c_3 ((nI_leI (a := 6) (b := w9) (by omega) (by omega)).mpr h)
    refine lv_aload_n hx hb dX5_counted_6 rfl (lv_at hl 0 rfl) ?_
    refine va_get (D := D) (ci := 5) (v := .ref (g 1)) (C := RX5) (T := TX5) (N := 10) hx hb htg iX5 hown hK hP 0 rfl rfl 1 (by decide) (htg _ tw_359) (fun _ h9 => h9) rfl dX5_counted_7 ?_
    refine lv_iload_n hx hb dX5_counted_10 rfl (lv_at hl 1 rfl) ?_
    refine va_iald hx hb hK hP 1 0 rfl rfl (vp_in_nI (by omega) (by decide)) dX5_counted_11 ?_
    refine zz_top (y := S w9) (congrArg S (nI_clamp (by omega))) ?_
    refine lv_goto (tgt := 32) hx hb dX5_counted_12 (by decide) ?_
    exact W.iret (v := (S w9)) hx hb hr (fun t ht hW => ⟨⟨S w9, (), rfl, by rw [qCt, if_neg (by omega), if_neg (by omega)], trivial⟩, hS.F ht⟩) hS.2.2 dX5_counted_32

set_option maxHeartbeats 4000000 in
set_option maxRecDepth 100000 in
theorem mX5_movedBy (l : Launch) (D : va_G) (y : Nat → ClassId) (g : Nat → Nat) (S : (Nat → Int32)) (th : Int32) (sv : Nat) (ln : Nat) (at9 : Nat) (pl : Nat) (va : Int32) (hs : Int64) (k1 : Nat) (k2 : Nat) (v : Nat) (o : Nat) (hk1 : k1 < 6) (hk2 : k2 < 6) (hl9 : v < 16) (hq : o < 2) (hTu : hTq S) : Met l yX5_movedBy (ws_ yX5_movedBy cX5_movedBy 5 (some .int)) ({ frames := 8, cells := 0, slots := 0, locals := 200 }) (va_Pc [.ref (g 0), .int (nI k1), .int (nI k2), .int (nI v), .int (nI o)] (zRO D y [((g 0), .inr (5, [.int th, .ref (g 1), .int (nI sv), .ref (g 2), .ref (g 3), .int (nI ln), .int (nI at9), .int (nI pl), .int va, .long hs])), ((g 1), .inl (y 0, 4023, .inl S))])) (va_Qi (fun (r : Int32) (_ : Unit) => r = qPl S k2 o (v + 1) - qPl S k1 o (v + 1)) (fun _ _ => True) (fun _ => False)) 0 0 (fun _ => False) := by
  refine Met.ofW (cc := cX5_movedBy) (maxL := 5) (ret := (some .int)) (by decide) rfl ?_
  intro p e s m args below meth c s₁ B hml hpre9
  obtain ⟨rfl, hP, hKN⟩ := hpre9
  have hK := hKN.1
  have hx := B.exec
  have hb := B.bytes
  have hr := B.returns
  have hts := atoms_spec (ws := (ws_ yX5_movedBy cX5_movedBy 5 (some .int))) B.pre
  have htg : ∀ w ∈ gT, w.before _ s = true := fun w h => hts w (List.mem_cons_of_mem _ h)
  have hown : s.vm.findClass RX5 = some m.cls := findClass_of_methodNamed B.named
  have hlocks := B.notSynchronized
  have hS : va_S (fun _ => False) s.heap s.heap [] := va_S.rf
  have hP : va_P D vwCl [((g 0), .inr (5, [.int th, .ref (g 1), .int (nI sv), .ref (g 2), .ref (g 3), .int (nI ln), .int (nI at9), .int (nI pl), .int va, .long hs])), ((g 1), .inl (y 0, 4023, .inl S))] s.heap := hP
  have hl := lv_entry ([.ref (g 0), .int (nI k1), .int (nI k2), .int (nI v), .int (nI o)]) (n := 5) (Nat.le_of_ble_eq_true rfl)
  rw [lg_entry_eq]
  generalize (lg_sl ([.ref (g 0), .int (nI k1), .int (nI k2), .int (nI v), .int (nI o)]) ++ List.replicate (5 - (lg_sl ([.ref (g 0), .int (nI k1), .int (nI k2), .int (nI v), .int (nI o)])).length) Slot.unset).toArray = ls at hl ⊢
  have hl : lv_has ls 5 [(0, .ref (g 0)), (1, .int (nI k1)), (2, .int (nI k2)), (3, .int (nI v)), (4, .int (nI o))] := hl
  refine lv_aload_n hx hb dX5_movedBy_0 rfl (lv_at hl 0 rfl) ?_
  refine lv_iload_n hx hb dX5_movedBy_1 rfl (lv_at hl 2 rfl) ?_
  refine lv_iload_n hx hb dX5_movedBy_2 rfl (lv_at hl 3 rfl) ?_
  refine lv_iload hx hb dX5_movedBy_3 (lv_at hl 4 rfl) ?_
  refine zr_calli (va_runV (As := [.int (nI k2), .int (nI v), .int (nI o)]) (rest := []) ⟨hx, hb, hml, hown, hts⟩ (mX5_placeAt l D y g S th sv ln at9 pl va hs k2 v o (by first | assumption | rfl | omega | decide) (by first | assumption | rfl | omega | decide) (by first | assumption | rfl | omega | decide) (by first | assumption | rfl | omega | decide)) (cwV 3 hts (zgV tw_506 tw_507 tw_508 tw_369 tw_412) rfl rfl rfl (by decide +kernel) ⟨Nat.le_of_ble_eq_true rfl, Nat.le_of_ble_eq_true rfl⟩) (zRO_preV hKN hP (ci := 5) (q0 := 0) rfl rfl [0, 1] rfl) rfl rfl hl.1 rfl (lv_room (Nat.le_of_ble_eq_true rfl)) dX5_movedBy_5 ⟨Nat.zero_le _, Nat.zero_le _⟩) hS (fun r_1 H locs hw_5 hT hS => ?_)
  replace hP := hT _ _ hP
  obtain rfl : r_1 = qPl S k2 o (v + 1) := hw_5
  refine lv_aload_n hx hb dX5_movedBy_8 rfl (lv_at hl 0 rfl) ?_
  refine lv_iload_n hx hb dX5_movedBy_9 rfl (lv_at hl 1 rfl) ?_
  refine lv_iload_n hx hb dX5_movedBy_10 rfl (lv_at hl 3 rfl) ?_
  refine lv_iload hx hb dX5_movedBy_11 (lv_at hl 4 rfl) ?_
  refine zr_calli (va_runV (As := [.int (nI k1), .int (nI v), .int (nI o)]) (rest := [.int (qPl S k2 o (v + 1))]) ⟨hx, hb, hml, hown, hts⟩ (mX5_placeAt l D y g S th sv ln at9 pl va hs k1 v o (by first | assumption | rfl | omega | decide) (by first | assumption | rfl | omega | decide) (by first | assumption | rfl | omega | decide) (by first | assumption | rfl | omega | decide)) (cwV 3 hts (zgV tw_506 tw_507 tw_508 tw_369 tw_412) rfl rfl rfl (by decide +kernel) ⟨Nat.le_of_ble_eq_true rfl, Nat.le_of_ble_eq_true rfl⟩) (zRO_preV hKN hP (ci := 5) (q0 := 0) rfl rfl [0, 1] rfl) rfl rfl hl.1 rfl (lv_room (Nat.le_of_ble_eq_true rfl)) dX5_movedBy_13 ⟨Nat.zero_le _, Nat.zero_le _⟩) hS (fun r_2 H locs hw_13 hT hS => ?_)
  replace hP := hT _ _ hP
  obtain rfl : r_2 = qPl S k1 o (v + 1) := hw_13
  refine lv_isub hx hb dX5_movedBy_16 ?_
  exact W.iret (v := ((qPl S k2 o (v + 1)) - (qPl S k1 o (v + 1)))) hx hb hr (fun t ht hW => ⟨⟨(qPl S k2 o (v + 1)) - (qPl S k1 o (v + 1)), (), rfl, by first | rfl | trivial | simp_all, trivial⟩, hS.F ht⟩) hS.2.2 dX5_movedBy_17

set_option maxHeartbeats 4000000 in
set_option maxRecDepth 100000 in
theorem mX5_sliding (l : Launch) (D : va_G) (y : Nat → ClassId) (g : Nat → Nat) (S : (Nat → Int32)) (th : Int32) (sv : Nat) (ln : Nat) (at9 : Nat) (pl : Nat) (va : Int32) (hs : Int64) (k1 : Nat) (k2 : Nat) (o : Nat) (hk1 : k1 < 6) (hk2 : k2 < 6) (hq : o < 2) (hTu : hTq S) : Met l yX5_sliding (ws_ yX5_sliding cX5_sliding 8 (some .int)) ({ frames := 7, cells := 0, slots := 0, locals := 175 }) (va_Pc [.ref (g 0), .int (nI k1), .int (nI k2), .int (nI o)] (zRO D y [((g 0), .inr (5, [.int th, .ref (g 1), .int (nI sv), .ref (g 2), .ref (g 3), .int (nI ln), .int (nI at9), .int (nI pl), .int va, .long hs])), ((g 1), .inl (y 0, 4023, .inl S))])) (va_Qi (fun (r : Int32) (_ : Unit) => r = (qSl S k1 k2 o 16).1) (fun _ _ => True) (fun _ => False)) 0 0 (fun _ => False) := by
  refine Met.ofW (cc := cX5_sliding) (maxL := 8) (ret := (some .int)) (by decide) rfl ?_
  intro p e s m args below meth c s₁ B hml hpre9
  obtain ⟨rfl, hP, hKN⟩ := hpre9
  have hK := hKN.1
  have hx := B.exec
  have hb := B.bytes
  have hr := B.returns
  have hts := atoms_spec (ws := (ws_ yX5_sliding cX5_sliding 8 (some .int))) B.pre
  have htg : ∀ w ∈ gT, w.before _ s = true := fun w h => hts w (List.mem_cons_of_mem _ h)
  have hown : s.vm.findClass RX5 = some m.cls := findClass_of_methodNamed B.named
  have hlocks := B.notSynchronized
  have hS : va_S (fun _ => False) s.heap s.heap [] := va_S.rf
  have hP : va_P D vwCl [((g 0), .inr (5, [.int th, .ref (g 1), .int (nI sv), .ref (g 2), .ref (g 3), .int (nI ln), .int (nI at9), .int (nI pl), .int va, .long hs])), ((g 1), .inl (y 0, 4023, .inl S))] s.heap := hP
  have hl := lv_entry ([.ref (g 0), .int (nI k1), .int (nI k2), .int (nI o)]) (n := 8) (Nat.le_of_ble_eq_true rfl)
  rw [lg_entry_eq]
  generalize (lg_sl ([.ref (g 0), .int (nI k1), .int (nI k2), .int (nI o)]) ++ List.replicate (8 - (lg_sl ([.ref (g 0), .int (nI k1), .int (nI k2), .int (nI o)])).length) Slot.unset).toArray = ls at hl ⊢
  have hl : lv_has ls 8 [(0, .ref (g 0)), (1, .int (nI k1)), (2, .int (nI k2)), (3, .int (nI o))] := hl
  refine lv_iconst (v := (-1)) hx hb dX5_sliding_0 (by decide) ?_
  refine lv_istore (lv' := [(4, .int (-1)), (0, .ref (g 0)), (1, .int (nI k1)), (2, .int (nI k2)), (3, .int (nI o))]) hx hb dX5_sliding_1 hl (by decide) rfl (fun ls hl => ?_)
  refine lv_iconst (v := 0) hx hb dX5_sliding_3 (by decide) ?_
  refine lv_istore (lv' := [(5, .int 0), (4, .int (-1)), (0, .ref (g 0)), (1, .int (nI k1)), (2, .int (nI k2)), (3, .int (nI o))]) hx hb dX5_sliding_4 hl (by decide) rfl (fun ls hl => ?_)
  refine lv_iconst (v := 0) hx hb dX5_sliding_6 (by decide) ?_
  refine lv_istore (lv' := [(6, .int 0), (5, .int 0), (4, .int (-1)), (0, .ref (g 0)), (1, .int (nI k1)), (2, .int (nI k2)), (3, .int (nI o))]) hx hb dX5_sliding_7 hl (by decide) rfl (fun ls hl => ?_)
  refine zloop (fun i : Nat => 16 - i) (fun i H locs ls => i ≤ 16 ∧ va_P D vwCl [((g 0), .inr (5, [.int th, .ref (g 1), .int (nI sv), .ref (g 2), .ref (g 3), .int (nI ln), .int (nI at9), .int (nI pl), .int va, .long hs])), ((g 1), .inl (y 0, 4023, .inl S))] H ∧ va_S (fun _ => False) s.heap H locs ∧ lv_has ls 8 [(0, .ref (g 0)), (1, .int (nI k1)), (2, .int (nI k2)), (3, .int (nI o)), (4, .int ((qSl S k1 k2 o i).1)), (5, .int ((qSl S k1 k2 o i).2)), (6, .int (nI i))]) 9 (fun _ => 0) (fun _ => 0) ?_ (0) ⟨by omega, hP, hS, lv_sub hl [3, 4, 5, 6, 2, 1, 0] rfl⟩
  clear hl hS hP
  rintro i H locs ls ⟨hi, hP, hS, hl⟩ ih9
  refine lv_iload hx hb dX5_sliding_9 (lv_at hl 6 rfl) ?_
  refine lv_bipush (v := 16) hx hb dX5_sliding_11 (by decide) ?_
  refine lv_icmp_ge (tgt := 76) hx hb dX5_sliding_13 (by decide) (fun c_13 => ?_) (fun c_13 => ?_)
  · replace c_13 : 16 ≤ i := (nI_leI (a := 16) (b := i) (by omega) (by omega)).mp c_13
    have e8 : i = 16 := by omega
    refine lv_iload hx hb dX5_sliding_76 (lv_at hl 4 rfl) ?_
    exact W.iret (v := ((qSl S k1 k2 o i).1)) hx hb hr (fun t ht hW => ⟨⟨(qSl S k1 k2 o i).1, (), rfl, congrArg (fun j => (qSl S k1 k2 o j).1) e8, trivial⟩, hS.F ht⟩) hS.2.2 dX5_sliding_78
  · replace c_13 : ¬ 16 ≤ i := fun h => c_13 ((nI_leI (a := 16) (b := i) (by omega) (by omega)).mpr h)
    refine lv_aload_n hx hb dX5_sliding_16 rfl (lv_at hl 0 rfl) ?_
    refine lv_iload_n hx hb dX5_sliding_17 rfl (lv_at hl 2 rfl) ?_
    refine lv_iload hx hb dX5_sliding_18 (lv_at hl 6 rfl) ?_
    refine lv_iload_n hx hb dX5_sliding_20 rfl (lv_at hl 3 rfl) ?_
    refine zr_calli (va_runV (As := [.int (nI k2), .int (nI i), .int (nI o)]) (rest := []) ⟨hx, hb, hml, hown, hts⟩ (mX5_tiltTold l D y g S th sv ln at9 pl va hs k2 i o (by first | assumption | rfl | omega | decide) (by first | assumption | rfl | omega | decide) (by first | assumption | rfl | omega | decide) (by first | assumption | rfl | omega | decide)) (cwV 3 hts (zgV tw_413 tw_414 tw_415 tw_369 tw_408) rfl rfl rfl (by decide +kernel) ⟨Nat.le_of_ble_eq_true rfl, Nat.le_of_ble_eq_true rfl⟩) (zRO_preV hKN hP (ci := 5) (q0 := 0) rfl rfl [0, 1] rfl) rfl rfl hl.1 rfl (lv_room (Nat.le_of_ble_eq_true rfl)) dX5_sliding_21 ⟨Nat.zero_le _, Nat.zero_le _⟩) hS (fun r_1 H locs hw_21 hT hS => ?_)
    replace hP := hT _ _ hP
    obtain rfl : r_1 = qTt S k2 i o := hw_21
    refine lv_aload_n hx hb dX5_sliding_24 rfl (lv_at hl 0 rfl) ?_
    refine lv_iload_n hx hb dX5_sliding_25 rfl (lv_at hl 1 rfl) ?_
    refine lv_iload hx hb dX5_sliding_26 (lv_at hl 6 rfl) ?_
    refine lv_iload_n hx hb dX5_sliding_28 rfl (lv_at hl 3 rfl) ?_
    refine zr_calli (va_runV (As := [.int (nI k1), .int (nI i), .int (nI o)]) (rest := [.int (qTt S k2 i o)]) ⟨hx, hb, hml, hown, hts⟩ (mX5_tiltTold l D y g S th sv ln at9 pl va hs k1 i o (by first | assumption | rfl | omega | decide) (by first | assumption | rfl | omega | decide) (by first | assumption | rfl | omega | decide) (by first | assumption | rfl | omega | decide)) (cwV 3 hts (zgV tw_413 tw_414 tw_415 tw_369 tw_408) rfl rfl rfl (by decide +kernel) ⟨Nat.le_of_ble_eq_true rfl, Nat.le_of_ble_eq_true rfl⟩) (zRO_preV hKN hP (ci := 5) (q0 := 0) rfl rfl [0, 1] rfl) rfl rfl hl.1 rfl (lv_room (Nat.le_of_ble_eq_true rfl)) dX5_sliding_29 ⟨Nat.zero_le _, Nat.zero_le _⟩) hS (fun r_2 H locs hw_29 hT hS => ?_)
    replace hP := hT _ _ hP
    obtain rfl : r_2 = qTt S k1 i o := hw_29
    refine lv_isub hx hb dX5_sliding_32 ?_
    refine zr_calli (va_runS (As := [.int ((qTt S k2 i o) - (qTt S k1 i o))]) (rest := []) ⟨hx, hb, hml, hown, hts⟩ (mX5_size l ((qTt S k2 i o) - (qTt S k1 i o))) (va_cwS 1 hts (zgS tw_402 tw_403 tw_369 tw_372) rfl rfl rfl (by decide +kernel) ⟨Nat.le_of_ble_eq_true rfl, Nat.le_of_ble_eq_true rfl⟩) zP_pre rfl rfl hl.1 rfl (lv_room (Nat.le_of_ble_eq_true rfl)) dX5_sliding_33 ⟨Nat.zero_le _, Nat.zero_le _⟩) hS (fun r_3 H locs hw_33 hT hS => ?_)
    replace hP := hT _ _ hP
    obtain rfl : r_3 = qAbs ((qTt S k2 i o) - (qTt S k1 i o)) := hw_33
    refine zz_top (y := qAbs (qDf S k1 k2 o i)) (rfl) ?_
    refine lv_istore (lv' := [(7, .int (qAbs (qDf S k1 k2 o i))), (0, .ref (g 0)), (1, .int (nI k1)), (2, .int (nI k2)), (3, .int (nI o)), (4, .int ((qSl S k1 k2 o i).1)), (5, .int ((qSl S k1 k2 o i).2)), (6, .int (nI i))]) hx hb dX5_sliding_36 hl (by decide) rfl (fun ls hl => ?_)
    refine lv_iload hx hb dX5_sliding_38 (lv_at hl 0 rfl) ?_
    refine lv_iload hx hb dX5_sliding_40 (lv_at hl 6 rfl) ?_
    refine lv_icmp_le (tgt := 50) hx hb dX5_sliding_42 (by decide) (fun c_42 => ?_) (fun c_42 => ?_)
    · refine lv_iload hx hb dX5_sliding_50 (lv_at hl 5 rfl) ?_
      refine lv_istore (lv' := [(4, .int ((qSl S k1 k2 o i).1)), (7, .int (qAbs (qDf S k1 k2 o i))), (0, .ref (g 0)), (1, .int (nI k1)), (2, .int (nI k2)), (3, .int (nI o)), (5, .int ((qSl S k1 k2 o i).2)), (6, .int (nI i))]) hx hb dX5_sliding_52 hl (by decide) rfl (fun ls hl => ?_)
      refine lv_iload hx hb dX5_sliding_54 (lv_at hl 1 rfl) ?_
      refine lv_iload hx hb dX5_sliding_56 (lv_at hl 6 rfl) ?_
      refine lv_icmp_le (tgt := 66) hx hb dX5_sliding_58 (by decide) (fun _ => ?_) (fun c_58 => absurd (c_42) c_58)
      refine lv_iload hx hb dX5_sliding_66 (lv_at hl 6 rfl) ?_
      refine lv_istore (lv' := [(5, .int ((qSl S k1 k2 o i).2)), (4, .int ((qSl S k1 k2 o i).1)), (7, .int (qAbs (qDf S k1 k2 o i))), (0, .ref (g 0)), (1, .int (nI k1)), (2, .int (nI k2)), (3, .int (nI o)), (6, .int (nI i))]) hx hb dX5_sliding_68 hl (by decide) rfl (fun ls hl => ?_)
      have hl : lv_has ls 8 [(5, .int ((qSl S k1 k2 o i).2)), (4, .int ((qSl S k1 k2 o (i + 1)).1)), (7, .int (qAbs (qDf S k1 k2 o i))), (0, .ref (g 0)), (1, .int (nI k1)), (2, .int (nI k2)), (3, .int (nI o)), (6, .int (nI i))] := by rw [show ((qSl S k1 k2 o (i + 1)).1 : Int32) = (qSl S k1 k2 o i).1 from (by rw [(show qSl S k1 k2 o (i + 1) = qSl S k1 k2 o i from qSl_no (zz_le c_42))] : ((qSl S k1 k2 o i).1 : Int32) = (qSl S k1 k2 o (i + 1)).1).symm]; exact hl
      have hl : lv_has ls 8 [(5, .int ((qSl S k1 k2 o (i + 1)).2)), (4, .int ((qSl S k1 k2 o (i + 1)).1)), (7, .int (qAbs (qDf S k1 k2 o i))), (0, .ref (g 0)), (1, .int (nI k1)), (2, .int (nI k2)), (3, .int (nI o)), (6, .int (nI i))] := by rw [show ((qSl S k1 k2 o (i + 1)).2 : Int32) = (qSl S k1 k2 o i).2 from (by rw [(show qSl S k1 k2 o (i + 1) = qSl S k1 k2 o i from qSl_no (zz_le c_42))] : ((qSl S k1 k2 o i).2 : Int32) = (qSl S k1 k2 o (i + 1)).2).symm]; exact hl
      refine lv_iinc (v := nI (i + 1)) (lv' := [(6, .int (nI (i + 1))), (5, .int ((qSl S k1 k2 o (i + 1)).2)), (4, .int ((qSl S k1 k2 o (i + 1)).1)), (7, .int (qAbs (qDf S k1 k2 o i))), (0, .ref (g 0)), (1, .int (nI k1)), (2, .int (nI k2)), (3, .int (nI o))]) hx hb dX5_sliding_70 hl (k := 7) rfl (nI_1 i) (by decide) rfl (fun ls hl => ?_)
      refine lv_goto (tgt := 9) hx hb dX5_sliding_73 (by decide) ?_
      exact ih9 (i + 1) _ _ _ (by omega) ⟨by omega, hP, hS, lv_sub hl [4, 5, 6, 7, 2, 1, 0] rfl⟩
    · refine lv_iload hx hb dX5_sliding_45 (lv_at hl 7 rfl) ?_
      refine lv_goto (tgt := 52) hx hb dX5_sliding_47 (by decide) ?_
      refine lv_istore (lv' := [(4, .int (nI i)), (7, .int (qAbs (qDf S k1 k2 o i))), (0, .ref (g 0)), (1, .int (nI k1)), (2, .int (nI k2)), (3, .int (nI o)), (5, .int ((qSl S k1 k2 o i).2)), (6, .int (nI i))]) hx hb dX5_sliding_52 hl (by decide) rfl (fun ls hl => ?_)
      refine lv_iload hx hb dX5_sliding_54 (lv_at hl 1 rfl) ?_
      refine lv_iload hx hb dX5_sliding_56 (lv_at hl 6 rfl) ?_
      refine lv_icmp_le (tgt := 66) hx hb dX5_sliding_58 (by decide) (fun c_58 => absurd c_58 (c_42)) (fun _ => ?_)
      refine lv_iload hx hb dX5_sliding_61 (lv_at hl 1 rfl) ?_
      refine lv_goto (tgt := 68) hx hb dX5_sliding_63 (by decide) ?_
      refine lv_istore (lv' := [(5, .int (qAbs (qDf S k1 k2 o i))), (4, .int (nI i)), (7, .int (qAbs (qDf S k1 k2 o i))), (0, .ref (g 0)), (1, .int (nI k1)), (2, .int (nI k2)), (3, .int (nI o)), (6, .int (nI i))]) hx hb dX5_sliding_68 hl (by decide) rfl (fun ls hl => ?_)
      have hl : lv_has ls 8 [(5, .int (qAbs (qDf S k1 k2 o i))), (4, .int ((qSl S k1 k2 o (i + 1)).1)), (7, .int (qAbs (qDf S k1 k2 o i))), (0, .ref (g 0)), (1, .int (nI k1)), (2, .int (nI k2)), (3, .int (nI o)), (6, .int (nI i))] := by rw [show ((qSl S k1 k2 o (i + 1)).1 : Int32) = nI i from (by rw [(show qSl S k1 k2 o (i + 1) = (nI i, qAbs (qDf S k1 k2 o i)) from qSl_yes (zz_lt c_42))] : (nI i : Int32) = (qSl S k1 k2 o (i + 1)).1).symm]; exact hl
      have hl : lv_has ls 8 [(5, .int ((qSl S k1 k2 o (i + 1)).2)), (4, .int ((qSl S k1 k2 o (i + 1)).1)), (7, .int (qAbs (qDf S k1 k2 o i))), (0, .ref (g 0)), (1, .int (nI k1)), (2, .int (nI k2)), (3, .int (nI o)), (6, .int (nI i))] := by rw [show ((qSl S k1 k2 o (i + 1)).2 : Int32) = qAbs (qDf S k1 k2 o i) from (by rw [(show qSl S k1 k2 o (i + 1) = (nI i, qAbs (qDf S k1 k2 o i)) from qSl_yes (zz_lt c_42))] : (qAbs (qDf S k1 k2 o i) : Int32) = (qSl S k1 k2 o (i + 1)).2).symm]; exact hl
      refine lv_iinc (v := nI (i + 1)) (lv' := [(6, .int (nI (i + 1))), (5, .int ((qSl S k1 k2 o (i + 1)).2)), (4, .int ((qSl S k1 k2 o (i + 1)).1)), (7, .int (qAbs (qDf S k1 k2 o i))), (0, .ref (g 0)), (1, .int (nI k1)), (2, .int (nI k2)), (3, .int (nI o))]) hx hb dX5_sliding_70 hl (k := 7) rfl (nI_1 i) (by decide) rfl (fun ls hl => ?_)
      refine lv_goto (tgt := 9) hx hb dX5_sliding_73 (by decide) ?_
      exact ih9 (i + 1) _ _ _ (by omega) ⟨by omega, hP, hS, lv_sub hl [4, 5, 6, 7, 2, 1, 0] rfl⟩

set_option maxHeartbeats 4000000 in
set_option maxRecDepth 100000 in
theorem mX5_firstFar (l : Launch) (D : va_G) (y : Nat → ClassId) (g : Nat → Nat) (S : (Nat → Int32)) (th : Int32) (sv : Nat) (ln : Nat) (at9 : Nat) (pl : Nat) (va : Int32) (hs : Int64) (k1 : Nat) (k2 : Nat) (o : Nat) (by9 : Int32) (hk1 : k1 < 6) (hk2 : k2 < 6) (hq : o < 2) (hTu : hTq S) : Met l yX5_firstFar (ws_ yX5_firstFar cX5_firstFar 7 (some .int)) ({ frames := 7, cells := 0, slots := 0, locals := 175 }) (va_Pc [.ref (g 0), .int (nI k1), .int (nI k2), .int (nI o), .int by9] (zRO D y [((g 0), .inr (5, [.int th, .ref (g 1), .int (nI sv), .ref (g 2), .ref (g 3), .int (nI ln), .int (nI at9), .int (nI pl), .int va, .long hs])), ((g 1), .inl (y 0, 4023, .inl S))])) (va_Qi (fun (r : Int32) (_ : Unit) => r = qFm S k1 k2 o by9 16 0) (fun _ _ => True) (fun _ => False)) 0 0 (fun _ => False) := by
  refine Met.ofW (cc := cX5_firstFar) (maxL := 7) (ret := (some .int)) (by decide) rfl ?_
  intro p e s m args below meth c s₁ B hml hpre9
  obtain ⟨rfl, hP, hKN⟩ := hpre9
  have hK := hKN.1
  have hx := B.exec
  have hb := B.bytes
  have hr := B.returns
  have hts := atoms_spec (ws := (ws_ yX5_firstFar cX5_firstFar 7 (some .int))) B.pre
  have htg : ∀ w ∈ gT, w.before _ s = true := fun w h => hts w (List.mem_cons_of_mem _ h)
  have hown : s.vm.findClass RX5 = some m.cls := findClass_of_methodNamed B.named
  have hlocks := B.notSynchronized
  have hS : va_S (fun _ => False) s.heap s.heap [] := va_S.rf
  have hP : va_P D vwCl [((g 0), .inr (5, [.int th, .ref (g 1), .int (nI sv), .ref (g 2), .ref (g 3), .int (nI ln), .int (nI at9), .int (nI pl), .int va, .long hs])), ((g 1), .inl (y 0, 4023, .inl S))] s.heap := hP
  have hl := lv_entry ([.ref (g 0), .int (nI k1), .int (nI k2), .int (nI o), .int by9]) (n := 7) (Nat.le_of_ble_eq_true rfl)
  rw [lg_entry_eq]
  generalize (lg_sl ([.ref (g 0), .int (nI k1), .int (nI k2), .int (nI o), .int by9]) ++ List.replicate (7 - (lg_sl ([.ref (g 0), .int (nI k1), .int (nI k2), .int (nI o), .int by9])).length) Slot.unset).toArray = ls at hl ⊢
  have hl : lv_has ls 7 [(0, .ref (g 0)), (1, .int (nI k1)), (2, .int (nI k2)), (3, .int (nI o)), (4, .int by9)] := hl
  refine lv_iconst (v := 0) hx hb dX5_firstFar_0 (by decide) ?_
  refine lv_istore (lv' := [(5, .int 0), (0, .ref (g 0)), (1, .int (nI k1)), (2, .int (nI k2)), (3, .int (nI o)), (4, .int by9)]) hx hb dX5_firstFar_1 hl (by decide) rfl (fun ls hl => ?_)
  refine lv_iconst (v := 0) hx hb dX5_firstFar_3 (by decide) ?_
  refine lv_istore (lv' := [(6, .int 0), (5, .int 0), (0, .ref (g 0)), (1, .int (nI k1)), (2, .int (nI k2)), (3, .int (nI o)), (4, .int by9)]) hx hb dX5_firstFar_4 hl (by decide) rfl (fun ls hl => ?_)
  refine zloop (fun i : Nat => 16 - i) (fun i H locs ls => i ≤ 16 ∧ qFm S k1 k2 o by9 16 0 = qFm S k1 k2 o by9 (16 - i) i ∧ va_P D vwCl [((g 0), .inr (5, [.int th, .ref (g 1), .int (nI sv), .ref (g 2), .ref (g 3), .int (nI ln), .int (nI at9), .int (nI pl), .int va, .long hs])), ((g 1), .inl (y 0, 4023, .inl S))] H ∧ va_S (fun _ => False) s.heap H locs ∧ lv_has ls 7 [(0, .ref (g 0)), (1, .int (nI k1)), (2, .int (nI k2)), (3, .int (nI o)), (4, .int by9), (5, .int (zsum (qDf S k1 k2 o) 0 i)), (6, .int (nI i))]) 6 (fun _ => 0) (fun _ => 0) ?_ (0) ⟨by omega, rfl, hP, hS, lv_sub hl [2, 3, 4, 5, 6, 1, 0] rfl⟩
  clear hl hS hP
  rintro i H locs ls ⟨hi, hF, hP, hS, hl⟩ ih6
  refine lv_iload hx hb dX5_firstFar_6 (lv_at hl 6 rfl) ?_
  refine lv_bipush (v := 16) hx hb dX5_firstFar_8 (by decide) ?_
  refine lv_icmp_ge (tgt := 54) hx hb dX5_firstFar_10 (by decide) (fun c_10 => ?_) (fun c_10 => ?_)
  · replace c_10 : 16 ≤ i := (nI_leI (a := 16) (b := i) (by omega) (by omega)).mp c_10
    have e8 : i = 16 := by omega
    refine lv_iconst (v := (-1)) hx hb dX5_firstFar_54 (by decide) ?_
    exact W.iret (v := (-1)) hx hb hr (fun t ht hW => ⟨⟨(-1), (), rfl, by rw [hF, e8]; rfl, trivial⟩, hS.F ht⟩) hS.2.2 dX5_firstFar_55
  · replace c_10 : ¬ 16 ≤ i := fun h => c_10 ((nI_leI (a := 16) (b := i) (by omega) (by omega)).mpr h)
    refine lv_iload hx hb dX5_firstFar_13 (lv_at hl 5 rfl) ?_
    refine lv_aload_n hx hb dX5_firstFar_15 rfl (lv_at hl 0 rfl) ?_
    refine lv_iload_n hx hb dX5_firstFar_16 rfl (lv_at hl 2 rfl) ?_
    refine lv_iload hx hb dX5_firstFar_17 (lv_at hl 6 rfl) ?_
    refine lv_iload_n hx hb dX5_firstFar_19 rfl (lv_at hl 3 rfl) ?_
    refine zr_calli (va_runV (As := [.int (nI k2), .int (nI i), .int (nI o)]) (rest := [.int (zsum (qDf S k1 k2 o) 0 i)]) ⟨hx, hb, hml, hown, hts⟩ (mX5_tiltTold l D y g S th sv ln at9 pl va hs k2 i o (by first | assumption | rfl | omega | decide) (by first | assumption | rfl | omega | decide) (by first | assumption | rfl | omega | decide) (by first | assumption | rfl | omega | decide)) (cwV 3 hts (zgV tw_413 tw_414 tw_415 tw_369 tw_408) rfl rfl rfl (by decide +kernel) ⟨Nat.le_of_ble_eq_true rfl, Nat.le_of_ble_eq_true rfl⟩) (zRO_preV hKN hP (ci := 5) (q0 := 0) rfl rfl [0, 1] rfl) rfl rfl hl.1 rfl (lv_room (Nat.le_of_ble_eq_true rfl)) dX5_firstFar_20 ⟨Nat.zero_le _, Nat.zero_le _⟩) hS (fun r_1 H locs hw_20 hT hS => ?_)
    replace hP := hT _ _ hP
    obtain rfl : r_1 = qTt S k2 i o := hw_20
    refine lv_aload_n hx hb dX5_firstFar_23 rfl (lv_at hl 0 rfl) ?_
    refine lv_iload_n hx hb dX5_firstFar_24 rfl (lv_at hl 1 rfl) ?_
    refine lv_iload hx hb dX5_firstFar_25 (lv_at hl 6 rfl) ?_
    refine lv_iload_n hx hb dX5_firstFar_27 rfl (lv_at hl 3 rfl) ?_
    refine zr_calli (va_runV (As := [.int (nI k1), .int (nI i), .int (nI o)]) (rest := [.int (qTt S k2 i o), .int (zsum (qDf S k1 k2 o) 0 i)]) ⟨hx, hb, hml, hown, hts⟩ (mX5_tiltTold l D y g S th sv ln at9 pl va hs k1 i o (by first | assumption | rfl | omega | decide) (by first | assumption | rfl | omega | decide) (by first | assumption | rfl | omega | decide) (by first | assumption | rfl | omega | decide)) (cwV 3 hts (zgV tw_413 tw_414 tw_415 tw_369 tw_408) rfl rfl rfl (by decide +kernel) ⟨Nat.le_of_ble_eq_true rfl, Nat.le_of_ble_eq_true rfl⟩) (zRO_preV hKN hP (ci := 5) (q0 := 0) rfl rfl [0, 1] rfl) rfl rfl hl.1 rfl (lv_room (Nat.le_of_ble_eq_true rfl)) dX5_firstFar_28 ⟨Nat.zero_le _, Nat.zero_le _⟩) hS (fun r_2 H locs hw_28 hT hS => ?_)
    replace hP := hT _ _ hP
    obtain rfl : r_2 = qTt S k1 i o := hw_28
    refine lv_isub hx hb dX5_firstFar_31 ?_
    refine lv_iadd hx hb dX5_firstFar_32 ?_
    refine zz_top (y := zsum (qDf S k1 k2 o) 0 (i + 1)) (by show zsum (qDf S k1 k2 o) 0 i + qDf S k1 k2 o i = zsum (qDf S k1 k2 o) 0 i + qDf S k1 k2 o (0 + i); rw [Nat.zero_add]) ?_
    refine lv_istore (lv' := [(5, .int (zsum (qDf S k1 k2 o) 0 (i + 1))), (0, .ref (g 0)), (1, .int (nI k1)), (2, .int (nI k2)), (3, .int (nI o)), (4, .int by9), (6, .int (nI i))]) hx hb dX5_firstFar_33 hl (by decide) rfl (fun ls hl => ?_)
    refine lv_iload hx hb dX5_firstFar_35 (lv_at hl 0 rfl) ?_
    refine zr_calli (va_runS (As := [.int (zsum (qDf S k1 k2 o) 0 (i + 1))]) (rest := []) ⟨hx, hb, hml, hown, hts⟩ (mX5_size l (zsum (qDf S k1 k2 o) 0 (i + 1))) (va_cwS 1 hts (zgS tw_402 tw_403 tw_369 tw_372) rfl rfl rfl (by decide +kernel) ⟨Nat.le_of_ble_eq_true rfl, Nat.le_of_ble_eq_true rfl⟩) zP_pre rfl rfl hl.1 rfl (lv_room (Nat.le_of_ble_eq_true rfl)) dX5_firstFar_37 ⟨Nat.zero_le _, Nat.zero_le _⟩) hS (fun r_3 H locs hw_37 hT hS => ?_)
    replace hP := hT _ _ hP
    obtain rfl : r_3 = qAbs (zsum (qDf S k1 k2 o) 0 (i + 1)) := hw_37
    refine lv_iload hx hb dX5_firstFar_40 (lv_at hl 5 rfl) ?_
    refine lv_icmp_lt (tgt := 48) hx hb dX5_firstFar_42 (by decide) (fun c_42 => ?_) (fun c_42 => ?_)
    · refine lv_iinc (v := nI (i + 1)) (lv' := [(6, .int (nI (i + 1))), (5, .int (zsum (qDf S k1 k2 o) 0 (i + 1))), (0, .ref (g 0)), (1, .int (nI k1)), (2, .int (nI k2)), (3, .int (nI o)), (4, .int by9)]) hx hb dX5_firstFar_48 hl (k := 6) rfl (nI_1 i) (by decide) rfl (fun ls hl => ?_)
      refine lv_goto (tgt := 6) hx hb dX5_firstFar_51 (by decide) ?_
      exact ih6 (i + 1) _ _ _ (by omega) ⟨by omega, hF.trans (qFm_no (by omega) (Int32.not_le.mpr c_42)), hP, hS, lv_sub hl [2, 3, 4, 5, 6, 1, 0] rfl⟩
    · refine lv_iload hx hb dX5_firstFar_45 (lv_at hl 6 rfl) ?_
      exact W.iret (v := (nI i)) hx hb hr (fun t ht hW => ⟨⟨nI i, (), rfl, (qFm_yes (by omega) (Int32.not_lt.mp c_42)).trans hF.symm, trivial⟩, hS.F ht⟩) hS.2.2 dX5_firstFar_47

set_option maxHeartbeats 4000000 in
set_option maxRecDepth 100000 in
theorem mX5_rate (l : Launch) (D : va_G) (y : Nat → ClassId) (g : Nat → Nat) (S : (Nat → Int32)) (th : Int32) (sv : Nat) (ln : Nat) (at9 : Nat) (pl : Nat) (va : Int32) (hs : Int64) (k1 : Nat) (k2 : Nat) (o : Nat) (hk1 : k1 < 6) (hk2 : k2 < 6) (hq : o < 2) (hTu : hTq S) : Met l yX5_rate (ws_ yX5_rate cX5_rate 5 (some .double)) ({ frames := 9, cells := 0, slots := 0, locals := 224 }) (va_Pc [.ref (g 0), .int (nI k1), .int (nI k2), .int (nI o)] (zRO D y [((g 0), .inr (5, [.int th, .ref (g 1), .int (nI sv), .ref (g 2), .ref (g 3), .int (nI ln), .int (nI at9), .int (nI pl), .int va, .long hs])), ((g 1), .inl (y 0, 4023, .inl S))])) (va_Qd (fun (r : UInt64) (_ : Unit) => r = qSp S k1 k2 o) (fun _ _ => True) (fun _ => False)) 0 0 (fun _ => False) := by
  refine Met.ofW (cc := cX5_rate) (maxL := 5) (ret := (some .double)) (by decide) rfl ?_
  intro p e s m args below meth c s₁ B hml hpre9
  obtain ⟨rfl, hP, hKN⟩ := hpre9
  have hK := hKN.1
  have hx := B.exec
  have hb := B.bytes
  have hr := B.returns
  have hts := atoms_spec (ws := (ws_ yX5_rate cX5_rate 5 (some .double))) B.pre
  have htg : ∀ w ∈ gT, w.before _ s = true := fun w h => hts w (List.mem_cons_of_mem _ h)
  have hown : s.vm.findClass RX5 = some m.cls := findClass_of_methodNamed B.named
  have hlocks := B.notSynchronized
  have hS : va_S (fun _ => False) s.heap s.heap [] := va_S.rf
  have hP : va_P D vwCl [((g 0), .inr (5, [.int th, .ref (g 1), .int (nI sv), .ref (g 2), .ref (g 3), .int (nI ln), .int (nI at9), .int (nI pl), .int va, .long hs])), ((g 1), .inl (y 0, 4023, .inl S))] s.heap := hP
  have hl := lv_entry ([.ref (g 0), .int (nI k1), .int (nI k2), .int (nI o)]) (n := 5) (Nat.le_of_ble_eq_true rfl)
  rw [lg_entry_eq]
  generalize (lg_sl ([.ref (g 0), .int (nI k1), .int (nI k2), .int (nI o)]) ++ List.replicate (5 - (lg_sl ([.ref (g 0), .int (nI k1), .int (nI k2), .int (nI o)])).length) Slot.unset).toArray = ls at hl ⊢
  have hl : lv_has ls 5 [(0, .ref (g 0)), (1, .int (nI k1)), (2, .int (nI k2)), (3, .int (nI o))] := hl
  refine lv_aload_n hx hb dX5_rate_0 rfl (lv_at hl 0 rfl) ?_
  refine lv_iload_n hx hb dX5_rate_1 rfl (lv_at hl 2 rfl) ?_
  refine lv_iconst (v := 0) hx hb dX5_rate_2 (by decide) ?_
  refine zr_calli (va_runV (As := [.int (nI k2), .int 0]) (rest := []) ⟨hx, hb, hml, hown, hts⟩ (mX5_ofSurvey l D y g S th sv ln at9 pl va hs k2 0 (by first | assumption | rfl | omega | decide) (by first | assumption | rfl | omega | decide)) (cwV 2 hts (zgV tw_502 tw_503 tw_504 tw_369 tw_494) rfl rfl rfl (by decide +kernel) ⟨Nat.le_of_ble_eq_true rfl, Nat.le_of_ble_eq_true rfl⟩) (zRO_preV hKN hP (ci := 5) (q0 := 0) rfl rfl [0, 1] rfl) rfl rfl hl.1 rfl (lv_room (Nat.le_of_ble_eq_true rfl)) dX5_rate_3 ⟨Nat.zero_le _, Nat.zero_le _⟩) hS (fun r_1 H locs hw_3 hT hS => ?_)
  replace hP := hT _ _ hP
  obtain rfl : r_1 = qOfS S k2 0 := hw_3
  refine zz_top (y := S (57 + 65 * k2)) (rfl) ?_
  refine lv_aload_n hx hb dX5_rate_6 rfl (lv_at hl 0 rfl) ?_
  refine lv_iload_n hx hb dX5_rate_7 rfl (lv_at hl 1 rfl) ?_
  refine lv_iconst (v := 0) hx hb dX5_rate_8 (by decide) ?_
  refine zr_calli (va_runV (As := [.int (nI k1), .int 0]) (rest := [.int (S (57 + 65 * k2))]) ⟨hx, hb, hml, hown, hts⟩ (mX5_ofSurvey l D y g S th sv ln at9 pl va hs k1 0 (by first | assumption | rfl | omega | decide) (by first | assumption | rfl | omega | decide)) (cwV 2 hts (zgV tw_502 tw_503 tw_504 tw_369 tw_494) rfl rfl rfl (by decide +kernel) ⟨Nat.le_of_ble_eq_true rfl, Nat.le_of_ble_eq_true rfl⟩) (zRO_preV hKN hP (ci := 5) (q0 := 0) rfl rfl [0, 1] rfl) rfl rfl hl.1 rfl (lv_room (Nat.le_of_ble_eq_true rfl)) dX5_rate_9 ⟨Nat.zero_le _, Nat.zero_le _⟩) hS (fun r_2 H locs hw_9 hT hS => ?_)
  replace hP := hT _ _ hP
  obtain rfl : r_2 = qOfS S k1 0 := hw_9
  refine zz_top (y := S (57 + 65 * k1)) (rfl) ?_
  refine lv_isub hx hb dX5_rate_12 ?_
  refine lv_istore (lv' := [(4, .int ((S (57 + 65 * k2)) - (S (57 + 65 * k1)))), (0, .ref (g 0)), (1, .int (nI k1)), (2, .int (nI k2)), (3, .int (nI o))]) hx hb dX5_rate_13 hl (by decide) rfl (fun ls hl => ?_)
  refine lv_iload hx hb dX5_rate_15 (lv_at hl 0 rfl) ?_
  refine lv_if_ne (tgt := 24) hx hb dX5_rate_17 (by decide) (fun c_17 => ?_) (fun c_17 => ?_)
  · refine lv_aload_n hx hb dX5_rate_24 rfl (lv_at hl 1 rfl) ?_
    refine lv_iload_n hx hb dX5_rate_25 rfl (lv_at hl 2 rfl) ?_
    refine lv_iload_n hx hb dX5_rate_26 rfl (lv_at hl 3 rfl) ?_
    refine lv_bipush (v := 15) hx hb dX5_rate_27 (by decide) ?_
    refine lv_iload_n hx hb dX5_rate_29 rfl (lv_at hl 4 rfl) ?_
    refine zr_calli (va_runV (As := [.int (nI k1), .int (nI k2), .int 15, .int (nI o)]) (rest := []) ⟨hx, hb, hml, hown, hts⟩ (mX5_movedBy l D y g S th sv ln at9 pl va hs k1 k2 15 o (by first | assumption | rfl | omega | decide) (by first | assumption | rfl | omega | decide) (by first | assumption | rfl | omega | decide) (by first | assumption | rfl | omega | decide) (by first | assumption | rfl | omega | decide)) (cwV 4 hts (zgV tw_525 tw_526 tw_527 tw_369 tw_520) rfl rfl rfl (by decide +kernel) ⟨Nat.le_of_ble_eq_true rfl, Nat.le_of_ble_eq_true rfl⟩) (zRO_preV hKN hP (ci := 5) (q0 := 0) rfl rfl [0, 1] rfl) rfl rfl hl.1 rfl (lv_room (Nat.le_of_ble_eq_true rfl)) dX5_rate_30 ⟨Nat.zero_le _, Nat.zero_le _⟩) hS (fun r_3 H locs hw_30 hT hS => ?_)
    replace hP := hT _ _ hP
    obtain rfl : r_3 = qPl S k2 o (15 + 1) - qPl S k1 o (15 + 1) := hw_30
    refine lv_i2d hx hb dX5_rate_33 ?_
    refine lv_iload hx hb dX5_rate_34 (lv_at hl 0 rfl) ?_
    refine lv_i2d hx hb dX5_rate_36 ?_
    refine lv_ddiv hx hb dX5_rate_37 (zdiv_nan c_17) ?_
    exact W.dret (v := (FP.ddiv (FP.i2d (qPl S k2 o (15 + 1) - qPl S k1 o (15 + 1))) (FP.i2d ((S (57 + 65 * k2)) - (S (57 + 65 * k1)))))) hx hb hr (fun t ht hW => ⟨⟨FP.ddiv (FP.i2d (qPl S k2 o (15 + 1) - qPl S k1 o (15 + 1))) (FP.i2d ((S (57 + 65 * k2)) - (S (57 + 65 * k1)))), (), rfl, (if_neg c_17).symm, trivial⟩, hS.F ht⟩) hS.2.2 dX5_rate_38
  · refine lv_dconst0 hx hb dX5_rate_20 ?_
    refine lv_goto (tgt := 38) hx hb dX5_rate_21 (by decide) ?_
    exact W.dret (v := FP.dconst0) hx hb hr (fun t ht hW => ⟨⟨FP.dconst0, (), rfl, (if_pos c_17).symm, trivial⟩, hS.F ht⟩) hS.2.2 dX5_rate_38

set_option maxHeartbeats 4000000 in
set_option maxRecDepth 100000 in
theorem mX5_checks (l : Launch) (D : va_G) (y : Nat → ClassId) (g : Nat → Nat) (S : (Nat → Int32)) (th : Int32) (sv : Nat) (ln : Nat) (at9 : Nat) (pl : Nat) (va : Int32) (hs : Int64) (k : Nat) (o : Nat) (b9 : Nat) (hk : k < 6) (hq : o < 2) (hb9 : b9 < 2) : Met l yX5_checks (ws_ yX5_checks cX5_checks 7 (some .int)) ({ frames := 3, cells := 0, slots := 0, locals := 69 }) (va_Pc [.ref (g 0), .int (nI k), .int (nI o), .int (nI b9)] (zRO D y [((g 0), .inr (5, [.int th, .ref (g 1), .int (nI sv), .ref (g 2), .ref (g 3), .int (nI ln), .int (nI at9), .int (nI pl), .int va, .long hs])), ((g 1), .inl (y 0, 4023, .inl S))])) (va_Qi (fun (r : Int32) (_ : Unit) => r = zsum (fun v => if b9 = 0 then qCk S k v o else qCk S k v o * qCk S k v o) 0 16) (fun _ _ => True) (fun _ => False)) 0 0 (fun _ => False) := by
  refine Met.ofW (cc := cX5_checks) (maxL := 7) (ret := (some .int)) (by decide) rfl ?_
  intro p e s m args below meth c s₁ B hml hpre9
  obtain ⟨rfl, hP, hKN⟩ := hpre9
  have hK := hKN.1
  have hx := B.exec
  have hb := B.bytes
  have hr := B.returns
  have hts := atoms_spec (ws := (ws_ yX5_checks cX5_checks 7 (some .int))) B.pre
  have htg : ∀ w ∈ gT, w.before _ s = true := fun w h => hts w (List.mem_cons_of_mem _ h)
  have hown : s.vm.findClass RX5 = some m.cls := findClass_of_methodNamed B.named
  have hlocks := B.notSynchronized
  have hS : va_S (fun _ => False) s.heap s.heap [] := va_S.rf
  have hP : va_P D vwCl [((g 0), .inr (5, [.int th, .ref (g 1), .int (nI sv), .ref (g 2), .ref (g 3), .int (nI ln), .int (nI at9), .int (nI pl), .int va, .long hs])), ((g 1), .inl (y 0, 4023, .inl S))] s.heap := hP
  have hl := lv_entry ([.ref (g 0), .int (nI k), .int (nI o), .int (nI b9)]) (n := 7) (Nat.le_of_ble_eq_true rfl)
  rw [lg_entry_eq]
  generalize (lg_sl ([.ref (g 0), .int (nI k), .int (nI o), .int (nI b9)]) ++ List.replicate (7 - (lg_sl ([.ref (g 0), .int (nI k), .int (nI o), .int (nI b9)])).length) Slot.unset).toArray = ls at hl ⊢
  have hl : lv_has ls 7 [(0, .ref (g 0)), (1, .int (nI k)), (2, .int (nI o)), (3, .int (nI b9))] := hl
  refine lv_iconst (v := 0) hx hb dX5_checks_0 (by decide) ?_
  refine lv_istore (lv' := [(4, .int 0), (0, .ref (g 0)), (1, .int (nI k)), (2, .int (nI o)), (3, .int (nI b9))]) hx hb dX5_checks_1 hl (by decide) rfl (fun ls hl => ?_)
  refine lv_iconst (v := 0) hx hb dX5_checks_3 (by decide) ?_
  refine lv_istore (lv' := [(5, .int 0), (4, .int 0), (0, .ref (g 0)), (1, .int (nI k)), (2, .int (nI o)), (3, .int (nI b9))]) hx hb dX5_checks_4 hl (by decide) rfl (fun ls hl => ?_)
  refine zloop (fun i : Nat => 16 - i) (fun i H locs ls => i ≤ 16 ∧ va_P D vwCl [((g 0), .inr (5, [.int th, .ref (g 1), .int (nI sv), .ref (g 2), .ref (g 3), .int (nI ln), .int (nI at9), .int (nI pl), .int va, .long hs])), ((g 1), .inl (y 0, 4023, .inl S))] H ∧ va_S (fun _ => False) s.heap H locs ∧ lv_has ls 7 [(0, .ref (g 0)), (1, .int (nI k)), (2, .int (nI o)), (3, .int (nI b9)), (4, .int (zsum (fun v => if b9 = 0 then qCk S k v o else qCk S k v o * qCk S k v o) 0 i)), (5, .int (nI i))]) 6 (fun _ => 0) (fun _ => 0) ?_ (0) ⟨by omega, hP, hS, lv_sub hl [2, 3, 4, 5, 1, 0] rfl⟩
  clear hl hS hP
  rintro i H locs ls ⟨hi, hP, hS, hl⟩ ih6
  refine lv_iload hx hb dX5_checks_6 (lv_at hl 5 rfl) ?_
  refine lv_bipush (v := 16) hx hb dX5_checks_8 (by decide) ?_
  refine lv_icmp_ge (tgt := 48) hx hb dX5_checks_10 (by decide) (fun c_10 => ?_) (fun c_10 => ?_)
  · replace c_10 : 16 ≤ i := (nI_leI (a := 16) (b := i) (by omega) (by omega)).mp c_10
    have e8 : i = 16 := by omega
    refine lv_iload hx hb dX5_checks_48 (lv_at hl 4 rfl) ?_
    exact W.iret (v := (zsum (fun v => if b9 = 0 then qCk S k v o else qCk S k v o * qCk S k v o) 0 i)) hx hb hr (fun t ht hW => ⟨⟨zsum (fun v => if b9 = 0 then qCk S k v o else qCk S k v o * qCk S k v o) 0 i, (), rfl, congrArg (zsum _ 0) e8, trivial⟩, hS.F ht⟩) hS.2.2 dX5_checks_50
  · replace c_10 : ¬ 16 ≤ i := fun h => c_10 ((nI_leI (a := 16) (b := i) (by omega) (by omega)).mpr h)
    refine lv_aload_n hx hb dX5_checks_13 rfl (lv_at hl 0 rfl) ?_
    refine lv_iload_n hx hb dX5_checks_14 rfl (lv_at hl 1 rfl) ?_
    refine lv_iload hx hb dX5_checks_15 (lv_at hl 5 rfl) ?_
    refine lv_iload_n hx hb dX5_checks_17 rfl (lv_at hl 2 rfl) ?_
    refine zr_calli (va_runV (As := [.int (nI k), .int (nI i), .int (nI o)]) (rest := []) ⟨hx, hb, hml, hown, hts⟩ (mX5_check l D y g S th sv ln at9 pl va hs k i o (by first | assumption | rfl | omega | decide) (by first | assumption | rfl | omega | decide) (by first | assumption | rfl | omega | decide)) (cwV 3 hts (zgV tw_395 tw_396 tw_397 tw_369 tw_390) rfl rfl rfl (by decide +kernel) ⟨Nat.le_of_ble_eq_true rfl, Nat.le_of_ble_eq_true rfl⟩) (zRO_preV hKN hP (ci := 5) (q0 := 0) rfl rfl [0, 1] rfl) rfl rfl hl.1 rfl (lv_room (Nat.le_of_ble_eq_true rfl)) dX5_checks_18 ⟨Nat.zero_le _, Nat.zero_le _⟩) hS (fun r_1 H locs hw_18 hT hS => ?_)
    replace hP := hT _ _ hP
    obtain rfl : r_1 = qCk S k i o := hw_18
    refine lv_istore (lv' := [(6, .int (qCk S k i o)), (0, .ref (g 0)), (1, .int (nI k)), (2, .int (nI o)), (3, .int (nI b9)), (4, .int (zsum (fun v => if b9 = 0 then qCk S k v o else qCk S k v o * qCk S k v o) 0 i)), (5, .int (nI i))]) hx hb dX5_checks_21 hl (by decide) rfl (fun ls hl => ?_)
    refine lv_iload hx hb dX5_checks_23 (lv_at hl 5 rfl) ?_
    refine lv_iload_n hx hb dX5_checks_25 rfl (lv_at hl 4 rfl) ?_
    refine lv_if_eq (tgt := 37) hx hb dX5_checks_26 (by decide) (fun c_26 => ?_) (fun c_26 => ?_)
    · replace c_26 : b9 = 0 := (nI_eq (a := b9) (b := 0) (by omega) (by omega)).mp c_26
      refine lv_iload hx hb dX5_checks_37 (lv_at hl 0 rfl) ?_
      refine lv_iadd hx hb dX5_checks_39 ?_
      refine zz_top (y := zsum (fun v => if b9 = 0 then qCk S k v o else qCk S k v o * qCk S k v o) 0 (i + 1)) (by show _ = zsum _ 0 i + (if b9 = 0 then qCk S k (0 + i) o else qCk S k (0 + i) o * qCk S k (0 + i) o); rw [Nat.zero_add, if_pos c_26]) ?_
      refine lv_istore (lv' := [(4, .int (zsum (fun v => if b9 = 0 then qCk S k v o else qCk S k v o * qCk S k v o) 0 (i + 1))), (6, .int (qCk S k i o)), (0, .ref (g 0)), (1, .int (nI k)), (2, .int (nI o)), (3, .int (nI b9)), (5, .int (nI i))]) hx hb dX5_checks_40 hl (by decide) rfl (fun ls hl => ?_)
      refine lv_iinc (v := nI (i + 1)) (lv' := [(5, .int (nI (i + 1))), (4, .int (zsum (fun v => if b9 = 0 then qCk S k v o else qCk S k v o * qCk S k v o) 0 (i + 1))), (6, .int (qCk S k i o)), (0, .ref (g 0)), (1, .int (nI k)), (2, .int (nI o)), (3, .int (nI b9))]) hx hb dX5_checks_42 hl (k := 6) rfl (nI_1 i) (by decide) rfl (fun ls hl => ?_)
      refine lv_goto (tgt := 6) hx hb dX5_checks_45 (by decide) ?_
      exact ih6 (i + 1) _ _ _ (by omega) ⟨by omega, hP, hS, lv_sub hl [3, 4, 5, 6, 1, 0] rfl⟩
    · replace c_26 : ¬ b9 = 0 := fun h => c_26 ((nI_eq (a := b9) (b := 0) (by omega) (by omega)).mpr h)
      refine lv_iload hx hb dX5_checks_29 (lv_at hl 0 rfl) ?_
      refine lv_iload hx hb dX5_checks_31 (lv_at hl 0 rfl) ?_
      refine lv_imul hx hb dX5_checks_33 ?_
      refine lv_goto (tgt := 39) hx hb dX5_checks_34 (by decide) ?_
      refine lv_iadd hx hb dX5_checks_39 ?_
      refine zz_top (y := zsum (fun v => if b9 = 0 then qCk S k v o else qCk S k v o * qCk S k v o) 0 (i + 1)) (by show _ = zsum _ 0 i + (if b9 = 0 then qCk S k (0 + i) o else qCk S k (0 + i) o * qCk S k (0 + i) o); rw [Nat.zero_add, if_neg c_26]) ?_
      refine lv_istore (lv' := [(4, .int (zsum (fun v => if b9 = 0 then qCk S k v o else qCk S k v o * qCk S k v o) 0 (i + 1))), (6, .int (qCk S k i o)), (0, .ref (g 0)), (1, .int (nI k)), (2, .int (nI o)), (3, .int (nI b9)), (5, .int (nI i))]) hx hb dX5_checks_40 hl (by decide) rfl (fun ls hl => ?_)
      refine lv_iinc (v := nI (i + 1)) (lv' := [(5, .int (nI (i + 1))), (4, .int (zsum (fun v => if b9 = 0 then qCk S k v o else qCk S k v o * qCk S k v o) 0 (i + 1))), (6, .int (qCk S k i o)), (0, .ref (g 0)), (1, .int (nI k)), (2, .int (nI o)), (3, .int (nI b9))]) hx hb dX5_checks_42 hl (k := 6) rfl (nI_1 i) (by decide) rfl (fun ls hl => ?_)
      refine lv_goto (tgt := 6) hx hb dX5_checks_45 (by decide) ?_
      exact ih6 (i + 1) _ _ _ (by omega) ⟨by omega, hP, hS, lv_sub hl [3, 4, 5, 6, 1, 0] rfl⟩

set_option maxHeartbeats 4000000 in
set_option maxRecDepth 100000 in
theorem mX5_mean (l : Launch) (D : va_G) (y : Nat → ClassId) (g : Nat → Nat) (S : (Nat → Int32)) (th : Int32) (sv : Nat) (ln : Nat) (at9 : Nat) (pl : Nat) (va : Int32) (hs : Int64) (k : Nat) (o : Nat) (hk : k < 6) (hq : o < 2) : Met l yX5_mean (ws_ yX5_mean cX5_mean 3 (some .float)) ({ frames := 4, cells := 0, slots := 0, locals := 95 }) (va_Pc [.ref (g 0), .int (nI k), .int (nI o)] (zRO D y [((g 0), .inr (5, [.int th, .ref (g 1), .int (nI sv), .ref (g 2), .ref (g 3), .int (nI ln), .int (nI at9), .int (nI pl), .int va, .long hs])), ((g 1), .inl (y 0, 4023, .inl S))])) (va_Qf (fun (r : UInt32) (_ : Unit) => r = qMe S k o) (fun _ _ => True) (fun _ => False)) 0 0 (fun _ => False) := by
  refine Met.ofW (cc := cX5_mean) (maxL := 3) (ret := (some .float)) (by decide) rfl ?_
  intro p e s m args below meth c s₁ B hml hpre9
  obtain ⟨rfl, hP, hKN⟩ := hpre9
  have hK := hKN.1
  have hx := B.exec
  have hb := B.bytes
  have hr := B.returns
  have hts := atoms_spec (ws := (ws_ yX5_mean cX5_mean 3 (some .float))) B.pre
  have htg : ∀ w ∈ gT, w.before _ s = true := fun w h => hts w (List.mem_cons_of_mem _ h)
  have hown : s.vm.findClass RX5 = some m.cls := findClass_of_methodNamed B.named
  have hlocks := B.notSynchronized
  have hS : va_S (fun _ => False) s.heap s.heap [] := va_S.rf
  have hP : va_P D vwCl [((g 0), .inr (5, [.int th, .ref (g 1), .int (nI sv), .ref (g 2), .ref (g 3), .int (nI ln), .int (nI at9), .int (nI pl), .int va, .long hs])), ((g 1), .inl (y 0, 4023, .inl S))] s.heap := hP
  have hl := lv_entry ([.ref (g 0), .int (nI k), .int (nI o)]) (n := 3) (Nat.le_of_ble_eq_true rfl)
  rw [lg_entry_eq]
  generalize (lg_sl ([.ref (g 0), .int (nI k), .int (nI o)]) ++ List.replicate (3 - (lg_sl ([.ref (g 0), .int (nI k), .int (nI o)])).length) Slot.unset).toArray = ls at hl ⊢
  have hl : lv_has ls 3 [(0, .ref (g 0)), (1, .int (nI k)), (2, .int (nI o))] := hl
  refine lv_aload_n hx hb dX5_mean_0 rfl (lv_at hl 0 rfl) ?_
  refine lv_iload_n hx hb dX5_mean_1 rfl (lv_at hl 1 rfl) ?_
  refine lv_iload_n hx hb dX5_mean_2 rfl (lv_at hl 2 rfl) ?_
  refine lv_iconst (v := 0) hx hb dX5_mean_3 (by decide) ?_
  refine zr_calli (va_runV (As := [.int (nI k), .int (nI o), .int 0]) (rest := []) ⟨hx, hb, hml, hown, hts⟩ (mX5_checks l D y g S th sv ln at9 pl va hs k o 0 (by first | assumption | rfl | omega | decide) (by first | assumption | rfl | omega | decide) (by first | assumption | rfl | omega | decide)) (cwV 3 hts (zgV tw_546 tw_547 tw_548 tw_369 tw_543) rfl rfl rfl (by decide +kernel) ⟨Nat.le_of_ble_eq_true rfl, Nat.le_of_ble_eq_true rfl⟩) (zRO_preV hKN hP (ci := 5) (q0 := 0) rfl rfl [0, 1] rfl) rfl rfl hl.1 rfl (lv_room (Nat.le_of_ble_eq_true rfl)) dX5_mean_4 ⟨Nat.zero_le _, Nat.zero_le _⟩) hS (fun r_1 H locs hw_4 hT hS => ?_)
  replace hP := hT _ _ hP
  obtain rfl : r_1 = zsum (fun v => if 0 = 0 then qCk S k v o else qCk S k v o * qCk S k v o) 0 16 := hw_4
  refine zz_top (y := zsum (fun v => qCk S k v o) 0 16) (rfl) ?_
  refine lv_i2f hx hb dX5_mean_7 ?_
  refine lv_ldcf hx hb hown (htg _ tw_545) dX5_mean_8 ?_
  refine lv_fdiv hx hb dX5_mean_10 (zmean_nan) ?_
  exact W.fret (v := (FP.fdiv (FP.i2f (zsum (fun v => qCk S k v o) 0 16)) (1098907648))) hx hb hr (fun t ht hW => ⟨⟨FP.fdiv (FP.i2f (zsum (fun v => qCk S k v o) 0 16)) (1098907648), (), rfl, by first | rfl | trivial | simp_all, trivial⟩, hS.F ht⟩) hS.2.2 dX5_mean_11

set_option maxHeartbeats 4000000 in
set_option maxRecDepth 100000 in
theorem mX5_spreadOf (l : Launch) (D : va_G) (y : Nat → ClassId) (g : Nat → Nat) (S : (Nat → Int32)) (th : Int32) (sv : Nat) (ln : Nat) (at9 : Nat) (pl : Nat) (va : Int32) (hs : Int64) (k : Nat) (o : Nat) (hk : k < 6) (hq : o < 2) (hB : ∀ v : Nat, v < 16 → -1800 ≤ (qCk S k v o).toInt ∧ (qCk S k v o).toInt ≤ 1800) : Met l yX5_spreadOf (ws_ yX5_spreadOf cX5_spreadOf 7 (some .double)) ({ frames := 4, cells := 0, slots := 0, locals := 95 }) (va_Pc [.ref (g 0), .int (nI k), .int (nI o)] (zRO D y [((g 0), .inr (5, [.int th, .ref (g 1), .int (nI sv), .ref (g 2), .ref (g 3), .int (nI ln), .int (nI at9), .int (nI pl), .int va, .long hs])), ((g 1), .inl (y 0, 4023, .inl S))])) (va_Qd (fun (r : UInt64) (_ : Unit) => r = qSd S k o) (fun _ _ => True) (fun _ => False)) 0 0 (fun _ => False) := by
  refine Met.ofW (cc := cX5_spreadOf) (maxL := 7) (ret := (some .double)) (by decide) rfl ?_
  intro p e s m args below meth c s₁ B hml hpre9
  obtain ⟨rfl, hP, hKN⟩ := hpre9
  have hK := hKN.1
  have hx := B.exec
  have hb := B.bytes
  have hr := B.returns
  have hts := atoms_spec (ws := (ws_ yX5_spreadOf cX5_spreadOf 7 (some .double))) B.pre
  have htg : ∀ w ∈ gT, w.before _ s = true := fun w h => hts w (List.mem_cons_of_mem _ h)
  have hown : s.vm.findClass RX5 = some m.cls := findClass_of_methodNamed B.named
  have hlocks := B.notSynchronized
  have hS : va_S (fun _ => False) s.heap s.heap [] := va_S.rf
  have hP : va_P D vwCl [((g 0), .inr (5, [.int th, .ref (g 1), .int (nI sv), .ref (g 2), .ref (g 3), .int (nI ln), .int (nI at9), .int (nI pl), .int va, .long hs])), ((g 1), .inl (y 0, 4023, .inl S))] s.heap := hP
  have hl := lv_entry ([.ref (g 0), .int (nI k), .int (nI o)]) (n := 7) (Nat.le_of_ble_eq_true rfl)
  rw [lg_entry_eq]
  generalize (lg_sl ([.ref (g 0), .int (nI k), .int (nI o)]) ++ List.replicate (7 - (lg_sl ([.ref (g 0), .int (nI k), .int (nI o)])).length) Slot.unset).toArray = ls at hl ⊢
  have hl : lv_has ls 7 [(0, .ref (g 0)), (1, .int (nI k)), (2, .int (nI o))] := hl
  refine lv_aload_n hx hb dX5_spreadOf_0 rfl (lv_at hl 0 rfl) ?_
  refine lv_iload_n hx hb dX5_spreadOf_1 rfl (lv_at hl 1 rfl) ?_
  refine lv_iload_n hx hb dX5_spreadOf_2 rfl (lv_at hl 2 rfl) ?_
  refine lv_iconst (v := 0) hx hb dX5_spreadOf_3 (by decide) ?_
  refine zr_calli (va_runV (As := [.int (nI k), .int (nI o), .int 0]) (rest := []) ⟨hx, hb, hml, hown, hts⟩ (mX5_checks l D y g S th sv ln at9 pl va hs k o 0 (by first | assumption | rfl | omega | decide) (by first | assumption | rfl | omega | decide) (by first | assumption | rfl | omega | decide)) (cwV 3 hts (zgV tw_546 tw_547 tw_548 tw_369 tw_543) rfl rfl rfl (by decide +kernel) ⟨Nat.le_of_ble_eq_true rfl, Nat.le_of_ble_eq_true rfl⟩) (zRO_preV hKN hP (ci := 5) (q0 := 0) rfl rfl [0, 1] rfl) rfl rfl hl.1 rfl (lv_room (Nat.le_of_ble_eq_true rfl)) dX5_spreadOf_4 ⟨Nat.zero_le _, Nat.zero_le _⟩) hS (fun r_1 H locs hw_4 hT hS => ?_)
  replace hP := hT _ _ hP
  obtain rfl : r_1 = zsum (fun v => if 0 = 0 then qCk S k v o else qCk S k v o * qCk S k v o) 0 16 := hw_4
  refine zz_top (y := zsum (fun v => qCk S k v o) 0 16) (rfl) ?_
  refine lv_i2l (v := (zsum (fun v => qCk S k v o) 0 16).toInt64) hx hb dX5_spreadOf_7 rfl ?_
  refine lv_lstore_n (lv' := [(3, .long ((zsum (fun v => qCk S k v o) 0 16).toInt64)), (0, .ref (g 0)), (1, .int (nI k)), (2, .int (nI o))]) hx hb dX5_spreadOf_8 rfl hl (by decide) rfl (fun ls hl => ?_)
  refine lv_aload_n hx hb dX5_spreadOf_9 rfl (lv_at hl 1 rfl) ?_
  refine lv_iload_n hx hb dX5_spreadOf_10 rfl (lv_at hl 2 rfl) ?_
  refine lv_iload_n hx hb dX5_spreadOf_11 rfl (lv_at hl 3 rfl) ?_
  refine lv_iconst (v := 1) hx hb dX5_spreadOf_12 (by decide) ?_
  refine zr_calli (va_runV (As := [.int (nI k), .int (nI o), .int 1]) (rest := []) ⟨hx, hb, hml, hown, hts⟩ (mX5_checks l D y g S th sv ln at9 pl va hs k o 1 (by first | assumption | rfl | omega | decide) (by first | assumption | rfl | omega | decide) (by first | assumption | rfl | omega | decide)) (cwV 3 hts (zgV tw_546 tw_547 tw_548 tw_369 tw_543) rfl rfl rfl (by decide +kernel) ⟨Nat.le_of_ble_eq_true rfl, Nat.le_of_ble_eq_true rfl⟩) (zRO_preV hKN hP (ci := 5) (q0 := 0) rfl rfl [0, 1] rfl) rfl rfl hl.1 rfl (lv_room (Nat.le_of_ble_eq_true rfl)) dX5_spreadOf_13 ⟨Nat.zero_le _, Nat.zero_le _⟩) hS (fun r_2 H locs hw_13 hT hS => ?_)
  replace hP := hT _ _ hP
  obtain rfl : r_2 = zsum (fun v => if 1 = 0 then qCk S k v o else qCk S k v o * qCk S k v o) 0 16 := hw_13
  refine zz_top (y := zsum (fun v => qCk S k v o * qCk S k v o) 0 16) (rfl) ?_
  refine lv_i2l (v := (zsum (fun v => qCk S k v o * qCk S k v o) 0 16).toInt64) hx hb dX5_spreadOf_16 rfl ?_
  refine lv_lstore (lv' := [(5, .long ((zsum (fun v => qCk S k v o * qCk S k v o) 0 16).toInt64)), (3, .long ((zsum (fun v => qCk S k v o) 0 16).toInt64)), (0, .ref (g 0)), (1, .int (nI k)), (2, .int (nI o))]) hx hb dX5_spreadOf_17 hl (by decide) rfl (fun ls hl => ?_)
  refine lv_ldc2 hx hb hown (htg _ tw_554) dX5_spreadOf_19 ?_
  refine lv_lload hx hb dX5_spreadOf_22 (lv_at hl 0 rfl) ?_
  refine lv_lmul hx hb dX5_spreadOf_24 ?_
  refine lv_lload_n hx hb dX5_spreadOf_25 rfl (lv_at hl 1 rfl) ?_
  refine lv_lload_n hx hb dX5_spreadOf_26 rfl (lv_at hl 1 rfl) ?_
  refine lv_lmul hx hb dX5_spreadOf_27 ?_
  refine lv_lsub hx hb dX5_spreadOf_28 ?_
  refine lv_l2d hx hb dX5_spreadOf_29 ?_
  refine lv_ldc2d hx hb hown (htg _ tw_555) dX5_spreadOf_30 ?_
  refine lv_ddiv hx hb dX5_spreadOf_33 (zspread_nan) ?_
  exact W.dret (v := (FP.ddiv (FP.l2d (((16) * ((zsum (fun v => qCk S k v o * qCk S k v o) 0 16).toInt64)) - (((zsum (fun v => qCk S k v o) 0 16).toInt64) * ((zsum (fun v => qCk S k v o) 0 16).toInt64)))) (4643211215818981376))) hx hb hr (fun t ht hW => ⟨⟨FP.ddiv (FP.l2d (((16) * ((zsum (fun v => qCk S k v o * qCk S k v o) 0 16).toInt64)) - (((zsum (fun v => qCk S k v o) 0 16).toInt64) * ((zsum (fun v => qCk S k v o) 0 16).toInt64)))) (4643211215818981376), (), rfl, zspread_eq hB, trivial⟩, hS.F ht⟩) hS.2.2 dX5_spreadOf_34
