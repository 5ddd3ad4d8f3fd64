set_option maxHeartbeats 4000000 in
set_option maxRecDepth 100000 in
theorem mX4_turnedLevels (l : Launch) (D : va_G) (y : Nat → ClassId) (ad : Nat → Nat) (S : Nat → Int32) (bn : Int32) : Met l yX4_turnedLevels (ws_ yX4_turnedLevels cX4_turnedLevels 3 (some .int)) ({ frames := 0, cells := 0, slots := 0, locals := 0 }) (va_Pc [.ref (ad 0)] (zRO D y [((ad 0), .inr (4, [.ref (ad 1), .ref (ad 8), .ref (ad 9), .ref (ad 10), .ref (ad 54), .ref (ad 59), .ref (ad 60), .int bn])), ((ad 1), .inr (2, [.ref (ad 2), .ref (ad 3), .ref (ad 4), .ref (ad 5), .ref (ad 6), .ref (ad 7), .int (S 0), .int (S 1), .int (S 4), .int (S 5)])), ((ad 2), .inl (y 0, 32, .inl (zT S))), ((ad 3), .inl (y 0, 16, .inl (zU S))), ((ad 4), .inl (y 0, 2, .inl (zB S)))])) (va_Qi (fun (r : Int32) (_ : Unit) => r = qTn S 16) (fun _ _ => True) (fun _ => False)) 0 0 (fun _ => False) := by
  refine Met.ofW (cc := cX4_turnedLevels) (maxL := 3) (ret := (some .int)) (by decide) rfl ?_
  intro p e s m args below meth c s₁ B hml hpre9
  obtain ⟨rfl, hP, hKN⟩ := hpre9
  have hK := hKN.1
  have hx := B.exec
  have hb := B.bytes
  have hr := B.returns
  have hts := atoms_spec (ws := (ws_ yX4_turnedLevels cX4_turnedLevels 3 (some .int))) B.pre
  have htg : ∀ w ∈ gT, w.before _ s = true := fun w h => hts w (List.mem_cons_of_mem _ h)
  have hown : s.vm.findClass RX4 = some m.cls := findClass_of_methodNamed B.named
  have hlocks := B.notSynchronized
  have hS : va_S (fun _ => False) s.heap s.heap [] := va_S.rf
  have hP : va_P D vwCl [((ad 0), .inr (4, [.ref (ad 1), .ref (ad 8), .ref (ad 9), .ref (ad 10), .ref (ad 54), .ref (ad 59), .ref (ad 60), .int bn])), ((ad 1), .inr (2, [.ref (ad 2), .ref (ad 3), .ref (ad 4), .ref (ad 5), .ref (ad 6), .ref (ad 7), .int (S 0), .int (S 1), .int (S 4), .int (S 5)])), ((ad 2), .inl (y 0, 32, .inl (zT S))), ((ad 3), .inl (y 0, 16, .inl (zU S))), ((ad 4), .inl (y 0, 2, .inl (zB S)))] s.heap := hP
  have hl := lv_entry ([.ref (ad 0)]) (n := 3) (Nat.le_of_ble_eq_true rfl)
  rw [lg_entry_eq]
  generalize (lg_sl ([.ref (ad 0)]) ++ List.replicate (3 - (lg_sl ([.ref (ad 0)])).length) Slot.unset).toArray = ls at hl ⊢
  have hl : lv_has ls 3 [(0, .ref (ad 0))] := hl
  refine lv_iconst (v := 0) hx hb dX4_turnedLevels_0 (by decide) ?_
  refine lv_istore_n (lv' := [(1, .int 0), (0, .ref (ad 0))]) hx hb dX4_turnedLevels_1 rfl hl (by decide) rfl (fun ls hl => ?_)
  refine lv_iconst (v := 0) hx hb dX4_turnedLevels_2 (by decide) ?_
  refine lv_istore_n (lv' := [(2, .int 0), (1, .int 0), (0, .ref (ad 0))]) hx hb dX4_turnedLevels_3 rfl hl (by decide) rfl (fun ls hl => ?_)
  refine zloop (fun i : Nat => 16 - i) (fun i H locs ls => i ≤ 16 ∧ va_P D vwCl [((ad 0), .inr (4, [.ref (ad 1), .ref (ad 8), .ref (ad 9), .ref (ad 10), .ref (ad 54), .ref (ad 59), .ref (ad 60), .int bn])), ((ad 1), .inr (2, [.ref (ad 2), .ref (ad 3), .ref (ad 4), .ref (ad 5), .ref (ad 6), .ref (ad 7), .int (S 0), .int (S 1), .int (S 4), .int (S 5)])), ((ad 2), .inl (y 0, 32, .inl (zT S))), ((ad 3), .inl (y 0, 16, .inl (zU S))), ((ad 4), .inl (y 0, 2, .inl (zB S)))] H ∧ va_S (fun _ => False) s.heap H locs ∧ lv_has ls 3 [(0, .ref (ad 0)), (1, .int (qTn S i)), (2, .int (nI i))]) 4 (fun _ => 0) (fun _ => 0) ?_ (0) ⟨by omega, hP, hS, lv_sub hl [2, 1, 0] rfl⟩
  clear hl hS hP
  rintro i H locs ls ⟨hi, hP, hS, hl⟩ ih4
  refine lv_iload_n hx hb dX4_turnedLevels_4 rfl (lv_at hl 2 rfl) ?_
  refine lv_bipush (v := 16) hx hb dX4_turnedLevels_5 (by decide) ?_
  refine lv_icmp_ge (tgt := 31) hx hb dX4_turnedLevels_7 (by decide) (fun c_7 => ?_) (fun c_7 => ?_)
  · replace c_7 : 16 ≤ i := (nI_leI (a := 16) (b := i) (by omega) (by omega)).mp c_7
    have e8 : i = 16 := by omega
    refine lv_iload_n hx hb dX4_turnedLevels_31 rfl (lv_at hl 1 rfl) ?_
    exact W.iret (v := (qTn S i)) hx hb hr (fun t ht hW => ⟨⟨qTn S i, (), rfl, congrArg (qTn S) (by omega), trivial⟩, hS.F ht⟩) hS.2.2 dX4_turnedLevels_32
  · replace c_7 : ¬ 16 ≤ i := fun h => c_7 ((nI_leI (a := 16) (b := i) (by omega) (by omega)).mpr h)
    refine lv_aload_n hx hb dX4_turnedLevels_10 rfl (lv_at hl 0 rfl) ?_
    refine va_get (D := D) (ci := 4) (v := .ref (ad 1)) (C := RX4) (T := TX4) (N := 8) hx hb htg iX4 hown hK hP 0 rfl rfl 0 (by decide) (htg _ tw_91) (fun _ h9 => h9) rfl dX4_turnedLevels_11 ?_
    refine va_get (D := D) (ci := 2) (v := .ref (ad 3)) (C := RX2) (T := TX2) (N := 10) hx hb htg iX2 hown hK hP 1 rfl rfl 1 (by decide) (htg _ tw_147) (fun _ h9 => h9) rfl dX4_turnedLevels_14 ?_
    refine lv_iload_n hx hb dX4_turnedLevels_17 rfl (lv_at hl 2 rfl) ?_
    refine va_iald hx hb hK hP 3 0 rfl rfl (vp_in_nI (by omega) (by decide)) dX4_turnedLevels_18 ?_
    refine zz_top (y := (zU S) i) (congrArg (zU S) (nI_clamp (by omega))) ?_
    refine zz_top (y := S (11 + 3 * i)) (rfl) ?_
    refine lv_if_eq (tgt := 25) hx hb dX4_turnedLevels_19 (by decide) (fun c_19 => ?_) (fun c_19 => ?_)
    · have hl : lv_has ls 3 [(0, .ref (ad 0)), (1, .int (qTn S (i + 1))), (2, .int (nI i))] := by rw [show (qTn S (i + 1) : Int32) = qTn S i from ((if_pos c_19).symm : (qTn S i : Int32) = qTn S (i + 1)).symm]; exact hl
      refine lv_iinc (v := nI (i + 1)) (lv' := [(2, .int (nI (i + 1))), (0, .ref (ad 0)), (1, .int (qTn S (i + 1)))]) hx hb dX4_turnedLevels_25 hl (k := 2) rfl (nI_1 i) (by decide) rfl (fun ls hl => ?_)
      refine lv_goto (tgt := 4) hx hb dX4_turnedLevels_28 (by decide) ?_
      exact ih4 (i + 1) _ _ _ (by omega) ⟨by omega, hP, hS, lv_sub hl [1, 2, 0] rfl⟩
    · refine lv_iinc (v := (qTn S i) + 1) (lv' := [(1, .int ((qTn S i) + 1)), (0, .ref (ad 0)), (2, .int (nI i))]) hx hb dX4_turnedLevels_22 hl (k := 1) rfl (rfl) (by decide) rfl (fun ls hl => ?_)
      have hl : lv_has ls 3 [(1, .int (qTn S (i + 1))), (0, .ref (ad 0)), (2, .int (nI i))] := by rw [show (qTn S (i + 1) : Int32) = (qTn S i) + 1 from ((if_neg c_19).symm : ((qTn S i) + 1 : Int32) = qTn S (i + 1)).symm]; exact hl
      refine lv_iinc (v := nI (i + 1)) (lv' := [(2, .int (nI (i + 1))), (1, .int (qTn S (i + 1))), (0, .ref (ad 0))]) hx hb dX4_turnedLevels_25 hl (k := 2) rfl (nI_1 i) (by decide) rfl (fun ls hl => ?_)
      refine lv_goto (tgt := 4) hx hb dX4_turnedLevels_28 (by decide) ?_
      exact ih4 (i + 1) _ _ _ (by omega) ⟨by omega, hP, hS, lv_sub hl [2, 1, 0] rfl⟩

set_option maxHeartbeats 4000000 in
set_option maxRecDepth 100000 in
theorem mX4_levelOf (l : Launch) (D : va_G) (y : Nat → ClassId) (ad : Nat → Nat) (S : Nat → Int32) (bn : Int32) (v : Nat) (w9 : Nat) (hl9 : v < 16) (hw9 : w9 < 7) : Met l yX4_levelOf (ws_ yX4_levelOf cX4_levelOf 3 (some .int)) ({ frames := 2, cells := 0, slots := 0, locals := 48 }) (va_Pc [.ref (ad 0), .int (nI v), .int (nI w9)] (zRO D y [((ad 0), .inr (4, [.ref (ad 1), .ref (ad 8), .ref (ad 9), .ref (ad 10), .ref (ad 54), .ref (ad 59), .ref (ad 60), .int bn])), ((ad 1), .inr (2, [.ref (ad 2), .ref (ad 3), .ref (ad 4), .ref (ad 5), .ref (ad 6), .ref (ad 7), .int (S 0), .int (S 1), .int (S 4), .int (S 5)])), ((ad 2), .inl (y 0, 32, .inl (zT S))), ((ad 3), .inl (y 0, 16, .inl (zU S))), ((ad 4), .inl (y 0, 2, .inl (zB S)))])) (va_Qi (fun (r : Int32) (_ : Unit) => r = qOfL S v w9) (fun _ _ => True) (fun _ => False)) 0 0 (fun _ => False) := by
  refine Met.ofW (cc := cX4_levelOf) (maxL := 3) (ret := (some .int)) (by decide) rfl ?_
  intro p e s m args below meth c s₁ B hml hpre9
  obtain ⟨rfl, hP, hKN⟩ := hpre9
  have hK := hKN.1
  have hx := B.exec
  have hb := B.bytes
  have hr := B.returns
  have hts := atoms_spec (ws := (ws_ yX4_levelOf cX4_levelOf 3 (some .int))) B.pre
  have htg : ∀ w ∈ gT, w.before _ s = true := fun w h => hts w (List.mem_cons_of_mem _ h)
  have hown : s.vm.findClass RX4 = some m.cls := findClass_of_methodNamed B.named
  have hlocks := B.notSynchronized
  have hS : va_S (fun _ => False) s.heap s.heap [] := va_S.rf
  have hP : va_P D vwCl [((ad 0), .inr (4, [.ref (ad 1), .ref (ad 8), .ref (ad 9), .ref (ad 10), .ref (ad 54), .ref (ad 59), .ref (ad 60), .int bn])), ((ad 1), .inr (2, [.ref (ad 2), .ref (ad 3), .ref (ad 4), .ref (ad 5), .ref (ad 6), .ref (ad 7), .int (S 0), .int (S 1), .int (S 4), .int (S 5)])), ((ad 2), .inl (y 0, 32, .inl (zT S))), ((ad 3), .inl (y 0, 16, .inl (zU S))), ((ad 4), .inl (y 0, 2, .inl (zB S)))] s.heap := hP
  have hl := lv_entry ([.ref (ad 0), .int (nI v), .int (nI w9)]) (n := 3) (Nat.le_of_ble_eq_true rfl)
  rw [lg_entry_eq]
  generalize (lg_sl ([.ref (ad 0), .int (nI v), .int (nI w9)]) ++ List.replicate (3 - (lg_sl ([.ref (ad 0), .int (nI v), .int (nI w9)])).length) Slot.unset).toArray = ls at hl ⊢
  have hl : lv_has ls 3 [(0, .ref (ad 0)), (1, .int (nI v)), (2, .int (nI w9))] := hl
  refine lv_iload_n hx hb dX4_levelOf_0 rfl (lv_at hl 1 rfl) ?_
  refine lv_bipush (v := 16) hx hb dX4_levelOf_1 (by decide) ?_
  refine zr_callv (va_runS (As := [.int (nI v), .int 16]) (rest := []) ⟨hx, hb, hml, hown, hts⟩ (mX4_needIndex l v 16 (by first | assumption | rfl | omega | decide) (by first | assumption | rfl | omega | decide)) (va_cwS 2 hts (zgS tw_118 tw_119 tw_23 tw_120) rfl rfl rfl (by decide +kernel) ⟨Nat.le_of_ble_eq_true rfl, Nat.le_of_ble_eq_true rfl⟩) zP_pre rfl rfl hl.1 rfl (lv_room (Nat.le_of_ble_eq_true rfl)) dX4_levelOf_3 ⟨Nat.zero_le _, Nat.zero_le _⟩) hS (fun H locs hw_3 hT hS => ?_)
  replace hP := hT _ _ hP
  refine lv_iload_n hx hb dX4_levelOf_6 rfl (lv_at hl 2 rfl) ?_
  refine lv_iconst (v := 0) hx hb dX4_levelOf_7 (by decide) ?_
  refine lv_bipush (v := 6) hx hb dX4_levelOf_8 (by decide) ?_
  refine zr_callv (va_runS (As := [.int (nI w9), .int 0, .int 6]) (rest := []) ⟨hx, hb, hml, hown, hts⟩ (mX4_needRange l (nI w9) 0 6 (⟨nI_pos (by omega), nI_nlt (a := 6) (b := w9) (by omega) (by omega)⟩)) (va_cwS 3 hts (zgS tw_123 tw_124 tw_23 tw_125) rfl rfl rfl (by decide +kernel) ⟨Nat.le_of_ble_eq_true rfl, Nat.le_of_ble_eq_true rfl⟩) zP_pre rfl rfl hl.1 rfl (lv_room (Nat.le_of_ble_eq_true rfl)) dX4_levelOf_10 ⟨Nat.zero_le _, Nat.zero_le _⟩) hS (fun H locs hw_10 hT hS => ?_)
  replace hP := hT _ _ hP
  refine lv_iload_n hx hb dX4_levelOf_13 rfl (lv_at hl 2 rfl) ?_
  rcases (show w9 = 0 ∨ w9 = 1 ∨ w9 = 2 ∨ w9 = 3 ∨ w9 = 4 ∨ w9 = 5 ∨ w9 = 6 by omega) with rfl | rfl | rfl | rfl | rfl | rfl | rfl
  · refine lv_tableIn (tgt := 52) (off := 38) hx hb dX4_levelOf_14 (by decide) (by decide) rfl (by decide) ?_
    refine lv_aload_n hx hb dX4_levelOf_52 rfl (lv_at hl 0 rfl) ?_
    refine va_get (D := D) (ci := 4) (v := .ref (ad 1)) (C := RX4) (T := TX4) (N := 8) hx hb htg iX4 hown hK hP 0 rfl rfl 0 (by decide) (htg _ tw_91) (fun _ h9 => h9) rfl dX4_levelOf_53 ?_
    refine va_get (D := D) (ci := 2) (v := .ref (ad 2)) (C := RX2) (T := TX2) (N := 10) hx hb htg iX2 hown hK hP 1 rfl rfl 0 (by decide) (htg _ tw_117) (fun _ h9 => h9) rfl dX4_levelOf_56 ?_
    refine lv_iload_n hx hb dX4_levelOf_59 rfl (lv_at hl 1 rfl) ?_
    refine lv_iconst (v := 2) hx hb dX4_levelOf_60 (by decide) ?_
    refine lv_imul hx hb dX4_levelOf_61 ?_
    refine zz_top (y := nI (v * 2)) (pk_mul v 2) ?_
    refine va_iald hx hb hK hP 2 0 rfl rfl (vp_in_nI (by omega) (by decide)) dX4_levelOf_62 ?_
    refine zz_top (y := (zT S) (v * 2)) (congrArg (zT S) (nI_clamp (by omega))) ?_
    refine zz_top (y := S (9 + 3 * v)) (congrArg S (by omega)) ?_
    exact W.iret (v := (S (9 + 3 * v))) hx hb hr (fun t ht hW => ⟨⟨S (9 + 3 * v), (), rfl, by first | rfl | trivial | simp_all, trivial⟩, hS.F ht⟩) hS.2.2 dX4_levelOf_63
  · refine lv_tableIn (tgt := 64) (off := 50) hx hb dX4_levelOf_14 (by decide) (by decide) rfl (by decide) ?_
    refine lv_aload_n hx hb dX4_levelOf_64 rfl (lv_at hl 0 rfl) ?_
    refine va_get (D := D) (ci := 4) (v := .ref (ad 1)) (C := RX4) (T := TX4) (N := 8) hx hb htg iX4 hown hK hP 0 rfl rfl 0 (by decide) (htg _ tw_91) (fun _ h9 => h9) rfl dX4_levelOf_65 ?_
    refine va_get (D := D) (ci := 2) (v := .ref (ad 2)) (C := RX2) (T := TX2) (N := 10) hx hb htg iX2 hown hK hP 1 rfl rfl 0 (by decide) (htg _ tw_117) (fun _ h9 => h9) rfl dX4_levelOf_68 ?_
    refine lv_iload_n hx hb dX4_levelOf_71 rfl (lv_at hl 1 rfl) ?_
    refine lv_iconst (v := 2) hx hb dX4_levelOf_72 (by decide) ?_
    refine lv_imul hx hb dX4_levelOf_73 ?_
    refine zz_top (y := nI (v * 2)) (pk_mul v 2) ?_
    refine lv_iconst (v := 1) hx hb dX4_levelOf_74 (by decide) ?_
    refine lv_iadd hx hb dX4_levelOf_75 ?_
    refine zz_top (y := nI ((v * 2) + 1)) (nI_add (v * 2) 1) ?_
    refine va_iald hx hb hK hP 2 0 rfl rfl (vp_in_nI (by omega) (by decide)) dX4_levelOf_76 ?_
    refine zz_top (y := (zT S) ((v * 2) + 1)) (congrArg (zT S) (nI_clamp (by omega))) ?_
    refine zz_top (y := S (10 + 3 * v)) (congrArg S (by omega)) ?_
    exact W.iret (v := (S (10 + 3 * v))) hx hb hr (fun t ht hW => ⟨⟨S (10 + 3 * v), (), rfl, by first | rfl | trivial | simp_all, trivial⟩, hS.F ht⟩) hS.2.2 dX4_levelOf_77
  · refine lv_tableIn (tgt := 78) (off := 64) hx hb dX4_levelOf_14 (by decide) (by decide) rfl (by decide) ?_
    refine lv_aload_n hx hb dX4_levelOf_78 rfl (lv_at hl 0 rfl) ?_
    refine va_get (D := D) (ci := 4) (v := .ref (ad 1)) (C := RX4) (T := TX4) (N := 8) hx hb htg iX4 hown hK hP 0 rfl rfl 0 (by decide) (htg _ tw_91) (fun _ h9 => h9) rfl dX4_levelOf_79 ?_
    refine va_get (D := D) (ci := 2) (v := .ref (ad 3)) (C := RX2) (T := TX2) (N := 10) hx hb htg iX2 hown hK hP 1 rfl rfl 1 (by decide) (htg _ tw_147) (fun _ h9 => h9) rfl dX4_levelOf_82 ?_
    refine lv_iload_n hx hb dX4_levelOf_85 rfl (lv_at hl 1 rfl) ?_
    refine va_iald hx hb hK hP 3 0 rfl rfl (vp_in_nI (by omega) (by decide)) dX4_levelOf_86 ?_
    refine zz_top (y := (zU S) v) (congrArg (zU S) (nI_clamp (by omega))) ?_
    refine zz_top (y := S (11 + 3 * v)) (rfl) ?_
    exact W.iret (v := (S (11 + 3 * v))) hx hb hr (fun t ht hW => ⟨⟨S (11 + 3 * v), (), rfl, by first | rfl | trivial | simp_all, trivial⟩, hS.F ht⟩) hS.2.2 dX4_levelOf_87
  · refine lv_tableIn (tgt := 88) (off := 74) hx hb dX4_levelOf_14 (by decide) (by decide) rfl (by decide) ?_
    refine lv_aload_n hx hb dX4_levelOf_88 rfl (lv_at hl 0 rfl) ?_
    refine lv_iload_n hx hb dX4_levelOf_89 rfl (lv_at hl 1 rfl) ?_
    refine lv_iconst (v := 0) hx hb dX4_levelOf_90 (by decide) ?_
    refine lv_iconst (v := 0) hx hb dX4_levelOf_91 (by decide) ?_
    refine zr_calli (va_runV (As := [.int (nI v), .int 0, .int 0]) (rest := []) ⟨hx, hb, hml, hown, hts⟩ (mX4_probeReads l D y ad S bn v 0 0 (by first | assumption | rfl | omega | decide) (by first | assumption | rfl | omega | decide) (by first | assumption | rfl | omega | decide)) (cwV 3 hts (zgV tw_163 tw_164 tw_165 tw_23 tw_166) rfl rfl rfl (by decide +kernel) ⟨Nat.le_of_ble_eq_true rfl, Nat.le_of_ble_eq_true rfl⟩) (zRO_preV hKN hP (ci := 4) (q0 := 0) rfl rfl [0, 1, 2, 3, 4] rfl) rfl rfl hl.1 rfl (lv_room (Nat.le_of_ble_eq_true rfl)) dX4_levelOf_92 ⟨Nat.zero_le _, Nat.zero_le _⟩) hS (fun r_1 H locs hw_92 hT hS => ?_)
    replace hP := hT _ _ hP
    obtain rfl : r_1 = qPr S v 0 0 := hw_92
    exact W.iret (v := (qPr S v 0 0)) hx hb hr (fun t ht hW => ⟨⟨qPr S v 0 0, (), rfl, by first | rfl | trivial | simp_all, trivial⟩, hS.F ht⟩) hS.2.2 dX4_levelOf_95
  · refine lv_tableIn (tgt := 96) (off := 82) hx hb dX4_levelOf_14 (by decide) (by decide) rfl (by decide) ?_
    refine lv_aload_n hx hb dX4_levelOf_96 rfl (lv_at hl 0 rfl) ?_
    refine lv_iload_n hx hb dX4_levelOf_97 rfl (lv_at hl 1 rfl) ?_
    refine lv_iconst (v := 0) hx hb dX4_levelOf_98 (by decide) ?_
    refine lv_iconst (v := 1) hx hb dX4_levelOf_99 (by decide) ?_
    refine zr_calli (va_runV (As := [.int (nI v), .int 0, .int 1]) (rest := []) ⟨hx, hb, hml, hown, hts⟩ (mX4_probeReads l D y ad S bn v 0 1 (by first | assumption | rfl | omega | decide) (by first | assumption | rfl | omega | decide) (by first | assumption | rfl | omega | decide)) (cwV 3 hts (zgV tw_163 tw_164 tw_165 tw_23 tw_166) rfl rfl rfl (by decide +kernel) ⟨Nat.le_of_ble_eq_true rfl, Nat.le_of_ble_eq_true rfl⟩) (zRO_preV hKN hP (ci := 4) (q0 := 0) rfl rfl [0, 1, 2, 3, 4] rfl) rfl rfl hl.1 rfl (lv_room (Nat.le_of_ble_eq_true rfl)) dX4_levelOf_100 ⟨Nat.zero_le _, Nat.zero_le _⟩) hS (fun r_2 H locs hw_100 hT hS => ?_)
    replace hP := hT _ _ hP
    obtain rfl : r_2 = qPr S v 0 1 := hw_100
    exact W.iret (v := (qPr S v 0 1)) hx hb hr (fun t ht hW => ⟨⟨qPr S v 0 1, (), rfl, by first | rfl | trivial | simp_all, trivial⟩, hS.F ht⟩) hS.2.2 dX4_levelOf_103
  · refine lv_tableIn (tgt := 104) (off := 90) hx hb dX4_levelOf_14 (by decide) (by decide) rfl (by decide) ?_
    refine lv_aload_n hx hb dX4_levelOf_104 rfl (lv_at hl 0 rfl) ?_
    refine lv_iload_n hx hb dX4_levelOf_105 rfl (lv_at hl 1 rfl) ?_
    refine lv_iconst (v := 1) hx hb dX4_levelOf_106 (by decide) ?_
    refine lv_iconst (v := 0) hx hb dX4_levelOf_107 (by decide) ?_
    refine zr_calli (va_runV (As := [.int (nI v), .int 1, .int 0]) (rest := []) ⟨hx, hb, hml, hown, hts⟩ (mX4_probeReads l D y ad S bn v 1 0 (by first | assumption | rfl | omega | decide) (by first | assumption | rfl | omega | decide) (by first | assumption | rfl | omega | decide)) (cwV 3 hts (zgV tw_163 tw_164 tw_165 tw_23 tw_166) rfl rfl rfl (by decide +kernel) ⟨Nat.le_of_ble_eq_true rfl, Nat.le_of_ble_eq_true rfl⟩) (zRO_preV hKN hP (ci := 4) (q0 := 0) rfl rfl [0, 1, 2, 3, 4] rfl) rfl rfl hl.1 rfl (lv_room (Nat.le_of_ble_eq_true rfl)) dX4_levelOf_108 ⟨Nat.zero_le _, Nat.zero_le _⟩) hS (fun r_3 H locs hw_108 hT hS => ?_)
    replace hP := hT _ _ hP
    obtain rfl : r_3 = qPr S v 1 0 := hw_108
    exact W.iret (v := (qPr S v 1 0)) hx hb hr (fun t ht hW => ⟨⟨qPr S v 1 0, (), rfl, by first | rfl | trivial | simp_all, trivial⟩, hS.F ht⟩) hS.2.2 dX4_levelOf_111
  · refine lv_tableOut (tgt := 112) hx hb dX4_levelOf_14 (by decide) (by decide) ?_
    refine lv_aload_n hx hb dX4_levelOf_112 rfl (lv_at hl 0 rfl) ?_
    refine lv_iload_n hx hb dX4_levelOf_113 rfl (lv_at hl 1 rfl) ?_
    refine lv_iconst (v := 1) hx hb dX4_levelOf_114 (by decide) ?_
    refine lv_iconst (v := 1) hx hb dX4_levelOf_115 (by decide) ?_
    refine zr_calli (va_runV (As := [.int (nI v), .int 1, .int 1]) (rest := []) ⟨hx, hb, hml, hown, hts⟩ (mX4_probeReads l D y ad S bn v 1 1 (by first | assumption | rfl | omega | decide) (by first | assumption | rfl | omega | decide) (by first | assumption | rfl | omega | decide)) (cwV 3 hts (zgV tw_163 tw_164 tw_165 tw_23 tw_166) rfl rfl rfl (by decide +kernel) ⟨Nat.le_of_ble_eq_true rfl, Nat.le_of_ble_eq_true rfl⟩) (zRO_preV hKN hP (ci := 4) (q0 := 0) rfl rfl [0, 1, 2, 3, 4] rfl) rfl rfl hl.1 rfl (lv_room (Nat.le_of_ble_eq_true rfl)) dX4_levelOf_116 ⟨Nat.zero_le _, Nat.zero_le _⟩) hS (fun r_4 H locs hw_116 hT hS => ?_)
    replace hP := hT _ _ hP
    obtain rfl : r_4 = qPr S v 1 1 := hw_116
    exact W.iret (v := (qPr S v 1 1)) hx hb hr (fun t ht hW => ⟨⟨qPr S v 1 1, (), rfl, by first | rfl | trivial | simp_all, trivial⟩, hS.F ht⟩) hS.2.2 dX4_levelOf_119

set_option maxHeartbeats 4000000 in
set_option maxRecDepth 100000 in
theorem mX4_count (l : Launch) (D : va_G) (y : Nat → ClassId) (ad : Nat → Nat) (S : Nat → Int32) (bn : Int32) (ro : Nat) (rv : Nat) (w9 : Nat) (hw9 : w9 < 8) : Met l yX4_count (ws_ yX4_count cX4_count 2 (some .int)) ({ frames := 2, cells := 0, slots := 0, locals := 44 }) (va_Pc [.ref (ad 0), .int (nI w9)] (zRO D y [((ad 0), .inr (4, [.ref (ad 1), .ref (ad 8), .ref (ad 9), .ref (ad 10), .ref (ad 54), .ref (ad 59), .ref (ad 60), .int bn])), ((ad 1), .inr (2, [.ref (ad 2), .ref (ad 3), .ref (ad 4), .ref (ad 5), .ref (ad 6), .ref (ad 7), .int (S 0), .int (S 1), .int (S 4), .int (S 5)])), ((ad 2), .inl (y 0, 32, .inl (zT S))), ((ad 3), .inl (y 0, 16, .inl (zU S))), ((ad 4), .inl (y 0, 2, .inl (zB S))), ((ad 10), .inr (1, [.ref (ad 11), .int (nI ro), .int (nI rv)]))])) (va_Qi (fun (r : Int32) (_ : Unit) => r = qCt S (nI rv) w9) (fun _ _ => True) (fun _ => False)) 0 0 (fun _ => False) := by
  refine Met.ofW (cc := cX4_count) (maxL := 2) (ret := (some .int)) (by decide) rfl ?_
  intro p e s m args below meth c s₁ B hml hpre9
  obtain ⟨rfl, hP, hKN⟩ := hpre9
  have hK := hKN.1
  have hx := B.exec
  have hb := B.bytes
  have hr := B.returns
  have hts := atoms_spec (ws := (ws_ yX4_count cX4_count 2 (some .int))) B.pre
  have htg : ∀ w ∈ gT, w.before _ s = true := fun w h => hts w (List.mem_cons_of_mem _ h)
  have hown : s.vm.findClass RX4 = some m.cls := findClass_of_methodNamed B.named
  have hlocks := B.notSynchronized
  have hS : va_S (fun _ => False) s.heap s.heap [] := va_S.rf
  have hP : va_P D vwCl [((ad 0), .inr (4, [.ref (ad 1), .ref (ad 8), .ref (ad 9), .ref (ad 10), .ref (ad 54), .ref (ad 59), .ref (ad 60), .int bn])), ((ad 1), .inr (2, [.ref (ad 2), .ref (ad 3), .ref (ad 4), .ref (ad 5), .ref (ad 6), .ref (ad 7), .int (S 0), .int (S 1), .int (S 4), .int (S 5)])), ((ad 2), .inl (y 0, 32, .inl (zT S))), ((ad 3), .inl (y 0, 16, .inl (zU S))), ((ad 4), .inl (y 0, 2, .inl (zB S))), ((ad 10), .inr (1, [.ref (ad 11), .int (nI ro), .int (nI rv)]))] s.heap := hP
  have hl := lv_entry ([.ref (ad 0), .int (nI w9)]) (n := 2) (Nat.le_of_ble_eq_true rfl)
  rw [lg_entry_eq]
  generalize (lg_sl ([.ref (ad 0), .int (nI w9)]) ++ List.replicate (2 - (lg_sl ([.ref (ad 0), .int (nI w9)])).length) Slot.unset).toArray = ls at hl ⊢
  have hl : lv_has ls 2 [(0, .ref (ad 0)), (1, .int (nI w9))] := hl
  refine lv_iload_n hx hb dX4_count_0 rfl (lv_at hl 1 rfl) ?_
  refine lv_iconst (v := 0) hx hb dX4_count_1 (by decide) ?_
  refine lv_bipush (v := 7) hx hb dX4_count_2 (by decide) ?_
  refine zr_callv (va_runS (As := [.int (nI w9), .int 0, .int 7]) (rest := []) ⟨hx, hb, hml, hown, hts⟩ (mX4_needRange l (nI w9) 0 7 (⟨nI_pos (by omega), nI_nlt (a := 7) (b := w9) (by omega) (by omega)⟩)) (va_cwS 3 hts (zgS tw_123 tw_124 tw_23 tw_125) rfl rfl rfl (by decide +kernel) ⟨Nat.le_of_ble_eq_true rfl, Nat.le_of_ble_eq_true rfl⟩) zP_pre rfl rfl hl.1 rfl (lv_room (Nat.le_of_ble_eq_true rfl)) dX4_count_4 ⟨Nat.zero_le _, Nat.zero_le _⟩) hS (fun H locs hw_4 hT hS => ?_)
  replace hP := hT _ _ hP
  refine lv_iload_n hx hb dX4_count_7 rfl (lv_at hl 1 rfl) ?_
  rcases (show w9 = 0 ∨ w9 = 1 ∨ w9 = 2 ∨ w9 = 3 ∨ w9 = 4 ∨ w9 = 5 ∨ w9 = 6 ∨ w9 = 7 by omega) with rfl | rfl | rfl | rfl | rfl | rfl | rfl | rfl
  · refine lv_tableIn (tgt := 52) (off := 44) hx hb dX4_count_8 (by decide) (by decide) rfl (by decide) ?_
    refine lv_aload_n hx hb dX4_count_52 rfl (lv_at hl 0 rfl) ?_
    refine va_get (D := D) (ci := 4) (v := .ref (ad 1)) (C := RX4) (T := TX4) (N := 8) hx hb htg iX4 hown hK hP 0 rfl rfl 0 (by decide) (htg _ tw_91) (fun _ h9 => h9) rfl dX4_count_53 ?_
    refine va_get (D := D) (ci := 2) (v := .int (S 0)) (C := RX2) (T := TX2) (N := 10) hx hb htg iX2 hown hK hP 1 rfl rfl 6 (by decide) (htg _ tw_153) (fun _ h9 => h9) rfl dX4_count_56 ?_
    exact W.iret (v := (S 0)) hx hb hr (fun t ht hW => ⟨⟨S 0, (), rfl, by first | rfl | trivial | simp_all, trivial⟩, hS.F ht⟩) hS.2.2 dX4_count_59
  · refine lv_tableIn (tgt := 60) (off := 52) hx hb dX4_count_8 (by decide) (by decide) rfl (by decide) ?_
    refine lv_aload_n hx hb dX4_count_60 rfl (lv_at hl 0 rfl) ?_
    refine va_get (D := D) (ci := 4) (v := .ref (ad 1)) (C := RX4) (T := TX4) (N := 8) hx hb htg iX4 hown hK hP 0 rfl rfl 0 (by decide) (htg _ tw_91) (fun _ h9 => h9) rfl dX4_count_61 ?_
    refine va_get (D := D) (ci := 2) (v := .int (S 1)) (C := RX2) (T := TX2) (N := 10) hx hb htg iX2 hown hK hP 1 rfl rfl 7 (by decide) (htg _ tw_160) (fun _ h9 => h9) rfl dX4_count_64 ?_
    exact W.iret (v := (S 1)) hx hb hr (fun t ht hW => ⟨⟨S 1, (), rfl, by first | rfl | trivial | simp_all, trivial⟩, hS.F ht⟩) hS.2.2 dX4_count_67
  · refine lv_tableIn (tgt := 68) (off := 60) hx hb dX4_count_8 (by decide) (by decide) rfl (by decide) ?_
    refine lv_aload_n hx hb dX4_count_68 rfl (lv_at hl 0 rfl) ?_
    refine va_get (D := D) (ci := 4) (v := .ref (ad 1)) (C := RX4) (T := TX4) (N := 8) hx hb htg iX4 hown hK hP 0 rfl rfl 0 (by decide) (htg _ tw_91) (fun _ h9 => h9) rfl dX4_count_69 ?_
    refine va_get (D := D) (ci := 2) (v := .ref (ad 4)) (C := RX2) (T := TX2) (N := 10) hx hb htg iX2 hown hK hP 1 rfl rfl 2 (by decide) (htg _ tw_149) (fun _ h9 => h9) rfl dX4_count_72 ?_
    refine lv_iconst (v := 0) hx hb dX4_count_75 (by decide) ?_
    refine va_iald hx hb hK hP 4 0 rfl rfl (vp_in_nI (n := 0) (by decide) (by decide)) dX4_count_76 ?_
    refine zz_top (y := (zB S) 0) (congrArg (zB S) (by decide)) ?_
    exact W.iret (v := ((zB S) 0)) hx hb hr (fun t ht hW => ⟨⟨(zB S) 0, (), rfl, by first | rfl | trivial | simp_all, trivial⟩, hS.F ht⟩) hS.2.2 dX4_count_77
  · refine lv_tableIn (tgt := 78) (off := 70) hx hb dX4_count_8 (by decide) (by decide) rfl (by decide) ?_
    refine lv_aload_n hx hb dX4_count_78 rfl (lv_at hl 0 rfl) ?_
    refine va_get (D := D) (ci := 4) (v := .ref (ad 1)) (C := RX4) (T := TX4) (N := 8) hx hb htg iX4 hown hK hP 0 rfl rfl 0 (by decide) (htg _ tw_91) (fun _ h9 => h9) rfl dX4_count_79 ?_
    refine va_get (D := D) (ci := 2) (v := .ref (ad 4)) (C := RX2) (T := TX2) (N := 10) hx hb htg iX2 hown hK hP 1 rfl rfl 2 (by decide) (htg _ tw_149) (fun _ h9 => h9) rfl dX4_count_82 ?_
    refine lv_iconst (v := 1) hx hb dX4_count_85 (by decide) ?_
    refine va_iald hx hb hK hP 4 0 rfl rfl (vp_in_nI (n := 1) (by decide) (by decide)) dX4_count_86 ?_
    refine zz_top (y := (zB S) 1) (congrArg (zB S) (by decide)) ?_
    exact W.iret (v := ((zB S) 1)) hx hb hr (fun t ht hW => ⟨⟨(zB S) 1, (), rfl, by first | rfl | trivial | simp_all, trivial⟩, hS.F ht⟩) hS.2.2 dX4_count_87
  · refine lv_tableIn (tgt := 88) (off := 80) hx hb dX4_count_8 (by decide) (by decide) rfl (by decide) ?_
    refine lv_aload_n hx hb dX4_count_88 rfl (lv_at hl 0 rfl) ?_
    refine va_get (D := D) (ci := 4) (v := .ref (ad 1)) (C := RX4) (T := TX4) (N := 8) hx hb htg iX4 hown hK hP 0 rfl rfl 0 (by decide) (htg _ tw_91) (fun _ h9 => h9) rfl dX4_count_89 ?_
    refine va_get (D := D) (ci := 2) (v := .int (S 4)) (C := RX2) (T := TX2) (N := 10) hx hb htg iX2 hown hK hP 1 rfl rfl 8 (by decide) (htg _ tw_162) (fun _ h9 => h9) rfl dX4_count_92 ?_
    exact W.iret (v := (S 4)) hx hb hr (fun t ht hW => ⟨⟨S 4, (), rfl, by first | rfl | trivial | simp_all, trivial⟩, hS.F ht⟩) hS.2.2 dX4_count_95
  · refine lv_tableIn (tgt := 96) (off := 88) hx hb dX4_count_8 (by decide) (by decide) rfl (by decide) ?_
    refine lv_aload_n hx hb dX4_count_96 rfl (lv_at hl 0 rfl) ?_
    refine va_get (D := D) (ci := 4) (v := .ref (ad 1)) (C := RX4) (T := TX4) (N := 8) hx hb htg iX4 hown hK hP 0 rfl rfl 0 (by decide) (htg _ tw_91) (fun _ h9 => h9) rfl dX4_count_97 ?_
    refine va_get (D := D) (ci := 2) (v := .int (S 5)) (C := RX2) (T := TX2) (N := 10) hx hb htg iX2 hown hK hP 1 rfl rfl 9 (by decide) (htg _ tw_170) (fun _ h9 => h9) rfl dX4_count_100 ?_
    exact W.iret (v := (S 5)) hx hb hr (fun t ht hW => ⟨⟨S 5, (), rfl, by first | rfl | trivial | simp_all, trivial⟩, hS.F ht⟩) hS.2.2 dX4_count_103
  · refine lv_tableIn (tgt := 104) (off := 96) hx hb dX4_count_8 (by decide) (by decide) rfl (by decide) ?_
    refine lv_aload_n hx hb dX4_count_104 rfl (lv_at hl 0 rfl) ?_
    refine zr_calli (va_runV (As := []) (rest := []) ⟨hx, hb, hml, hown, hts⟩ (mX4_turnedLevels l D y ad S bn) (cwV 0 hts (zgV tw_206 tw_207 tw_208 tw_23 tw_209) rfl rfl rfl (by decide +kernel) ⟨Nat.le_of_ble_eq_true rfl, Nat.le_of_ble_eq_true rfl⟩) (zRO_preV hKN hP (ci := 4) (q0 := 0) rfl rfl [0, 1, 2, 3, 4] rfl) rfl rfl hl.1 rfl (lv_room (Nat.le_of_ble_eq_true rfl)) dX4_count_105 ⟨Nat.zero_le _, Nat.zero_le _⟩) hS (fun r_1 H locs hw_105 hT hS => ?_)
    replace hP := hT _ _ hP
    obtain rfl : r_1 = qTn S 16 := hw_105
    exact W.iret (v := (qTn S 16)) hx hb hr (fun t ht hW => ⟨⟨qTn S 16, (), rfl, by first | rfl | trivial | simp_all, trivial⟩, hS.F ht⟩) hS.2.2 dX4_count_108
  · refine lv_tableOut (tgt := 109) hx hb dX4_count_8 (by decide) (by decide) ?_
    refine lv_aload_n hx hb dX4_count_109 rfl (lv_at hl 0 rfl) ?_
    refine va_get (D := D) (ci := 4) (v := .ref (ad 10)) (C := RX4) (T := TX4) (N := 8) hx hb htg iX4 hown hK hP 0 rfl rfl 3 (by decide) (htg _ tw_98) (fun _ h9 => h9) rfl dX4_count_110 ?_
    refine va_get (D := D) (ci := 1) (v := .int (nI rv)) (C := RX1) (T := TX1) (N := 3) hx hb htg iX1 hown hK hP 5 rfl rfl 2 (by decide) (htg _ tw_175) (fun _ h9 => h9) rfl dX4_count_113 ?_
    exact W.iret (v := (nI rv)) hx hb hr (fun t ht hW => ⟨⟨nI rv, (), rfl, by first | rfl | trivial | simp_all, trivial⟩, hS.F ht⟩) hS.2.2 dX4_count_116

set_option maxHeartbeats 4000000 in
set_option maxRecDepth 100000 in
theorem mX4_setting (l : Launch) (D : va_G) (y : Nat → ClassId) (ad : Nat → Nat) (S : Nat → Int32) (bn : Int32) (q : Nat) (hq : q < 3) : Met l yX4_setting (ws_ yX4_setting cX4_setting 2 (some .int)) ({ frames := 1, cells := 0, slots := 0, locals := 21 }) (va_Pc [.ref (ad 0), .int (nI q)] (zRO D y [((ad 0), .inr (4, [.ref (ad 1), .ref (ad 8), .ref (ad 9), .ref (ad 10), .ref (ad 54), .ref (ad 59), .ref (ad 60), .int bn])), ((ad 1), .inr (2, [.ref (ad 2), .ref (ad 3), .ref (ad 4), .ref (ad 5), .ref (ad 6), .ref (ad 7), .int (S 0), .int (S 1), .int (S 4), .int (S 5)])), ((ad 2), .inl (y 0, 32, .inl (zT S))), ((ad 5), .inl (y 0, 3, .inl (zE S)))])) (va_Qi (fun (r : Int32) (_ : Unit) => r = S (6 + q)) (fun _ _ => True) (fun _ => False)) 0 0 (fun _ => False) := by
  refine Met.ofW (cc := cX4_setting) (maxL := 2) (ret := (some .int)) (by decide) rfl ?_
  intro p e s m args below meth c s₁ B hml hpre9
  obtain ⟨rfl, hP, hKN⟩ := hpre9
  have hK := hKN.1
  have hx := B.exec
  have hb := B.bytes
  have hr := B.returns
  have hts := atoms_spec (ws := (ws_ yX4_setting cX4_setting 2 (some .int))) B.pre
  have htg : ∀ w ∈ gT, w.before _ s = true := fun w h => hts w (List.mem_cons_of_mem _ h)
  have hown : s.vm.findClass RX4 = some m.cls := findClass_of_methodNamed B.named
  have hlocks := B.notSynchronized
  have hS : va_S (fun _ => False) s.heap s.heap [] := va_S.rf
  have hP : va_P D vwCl [((ad 0), .inr (4, [.ref (ad 1), .ref (ad 8), .ref (ad 9), .ref (ad 10), .ref (ad 54), .ref (ad 59), .ref (ad 60), .int bn])), ((ad 1), .inr (2, [.ref (ad 2), .ref (ad 3), .ref (ad 4), .ref (ad 5), .ref (ad 6), .ref (ad 7), .int (S 0), .int (S 1), .int (S 4), .int (S 5)])), ((ad 2), .inl (y 0, 32, .inl (zT S))), ((ad 5), .inl (y 0, 3, .inl (zE S)))] s.heap := hP
  have hl := lv_entry ([.ref (ad 0), .int (nI q)]) (n := 2) (Nat.le_of_ble_eq_true rfl)
  rw [lg_entry_eq]
  generalize (lg_sl ([.ref (ad 0), .int (nI q)]) ++ List.replicate (2 - (lg_sl ([.ref (ad 0), .int (nI q)])).length) Slot.unset).toArray = ls at hl ⊢
  have hl : lv_has ls 2 [(0, .ref (ad 0)), (1, .int (nI q))] := hl
  refine lv_iload_n hx hb dX4_setting_0 rfl (lv_at hl 1 rfl) ?_
  refine lv_iconst (v := 3) hx hb dX4_setting_1 (by decide) ?_
  refine zr_callv (va_runS (As := [.int (nI q), .int 3]) (rest := []) ⟨hx, hb, hml, hown, hts⟩ (mX4_needIndex l q 3 (by first | assumption | rfl | omega | decide) (by first | assumption | rfl | omega | decide)) (va_cwS 2 hts (zgS tw_118 tw_119 tw_23 tw_120) rfl rfl rfl (by decide +kernel) ⟨Nat.le_of_ble_eq_true rfl, Nat.le_of_ble_eq_true rfl⟩) zP_pre rfl rfl hl.1 rfl (lv_room (Nat.le_of_ble_eq_true rfl)) dX4_setting_2 ⟨Nat.zero_le _, Nat.zero_le _⟩) hS (fun H locs hw_2 hT hS => ?_)
  replace hP := hT _ _ hP
  refine lv_aload_n hx hb dX4_setting_5 rfl (lv_at hl 0 rfl) ?_
  refine va_get (D := D) (ci := 4) (v := .ref (ad 1)) (C := RX4) (T := TX4) (N := 8) hx hb htg iX4 hown hK hP 0 rfl rfl 0 (by decide) (htg _ tw_91) (fun _ h9 => h9) rfl dX4_setting_6 ?_
  refine va_get (D := D) (ci := 2) (v := .ref (ad 5)) (C := RX2) (T := TX2) (N := 10) hx hb htg iX2 hown hK hP 1 rfl rfl 3 (by decide) (htg _ tw_151) (fun _ h9 => h9) rfl dX4_setting_9 ?_
  refine lv_iload_n hx hb dX4_setting_12 rfl (lv_at hl 1 rfl) ?_
  refine va_iald hx hb hK hP 3 0 rfl rfl (vp_in_nI (by omega) (by decide)) dX4_setting_13 ?_
  refine zz_top (y := (zE S) q) (congrArg (zE S) (nI_clamp (by omega))) ?_
  exact W.iret (v := ((zE S) q)) hx hb hr (fun t ht hW => ⟨⟨(zE S) q, (), rfl, by first | rfl | trivial | simp_all, trivial⟩, hS.F ht⟩) hS.2.2 dX4_setting_14

set_option maxHeartbeats 4000000 in
set_option maxRecDepth 100000 in
theorem mX4_toldTogether (l : Launch) (D : va_G) (y : Nat → ClassId) (ad : Nat → Nat) (S : Nat → Int32) (bn : Int32) (cm : Nat → Int32) (rd : Nat → Int32) (td : Nat → Int32) (od : Nat → Int32) (fr : Int32) (n : Nat) (k : Nat) (q : Nat) (a9 : Nat) (b9 : Nat) (hn : n ≤ 6) (hTd : zTdF S td n) (hk : k < n) (hq : q < 2) (hb9 : b9 < 16) (ha9 : a9 ≤ b9 + 1) : Met l yX4_toldTogether (ws_ yX4_toldTogether cX4_toldTogether 7 (some .int)) ({ frames := 1, cells := 0, slots := 0, locals := 22 }) (va_Pc [.ref (ad 0), .int (nI k), .int (nI q), .int (nI a9), .int (nI b9)] (zRO D y [((ad 0), .inr (4, [.ref (ad 1), .ref (ad 8), .ref (ad 9), .ref (ad 10), .ref (ad 54), .ref (ad 59), .ref (ad 60), .int bn])), ((ad 54), .inr (0, [.ref (ad 55), .ref (ad 75), .ref (ad 56), .ref (ad 57), .ref (ad 58), .int fr])), ((ad 55), .inl (y 0, 12, .inl cm)), ((ad 56), .inl (y 0, 192, .inl rd)), ((ad 57), .inl (y 0, 192, .inl td)), ((ad 58), .inl (y 0, 16, .inl od)), ((ad 75), .inl (y 0, 192, .inl (zOf cm)))])) (va_Qi (fun (r : Int32) (_ : Unit) => r = zsum (fun v => qTt S k v q) a9 (b9 + 1 - a9)) (fun _ _ => True) (fun _ => False)) 0 0 (fun _ => False) := by
  refine Met.ofW (cc := cX4_toldTogether) (maxL := 7) (ret := (some .int)) (by decide) rfl ?_
  intro p e s m args below meth c s₁ B hml hpre9
  obtain ⟨rfl, hP, hKN⟩ := hpre9
  have hK := hKN.1
  have hx := B.exec
  have hb := B.bytes
  have hr := B.returns
  have hts := atoms_spec (ws := (ws_ yX4_toldTogether cX4_toldTogether 7 (some .int))) B.pre
  have htg : ∀ w ∈ gT, w.before _ s = true := fun w h => hts w (List.mem_cons_of_mem _ h)
  have hown : s.vm.findClass RX4 = some m.cls := findClass_of_methodNamed B.named
  have hlocks := B.notSynchronized
  have hS : va_S (fun _ => False) s.heap s.heap [] := va_S.rf
  have hP : va_P D vwCl [((ad 0), .inr (4, [.ref (ad 1), .ref (ad 8), .ref (ad 9), .ref (ad 10), .ref (ad 54), .ref (ad 59), .ref (ad 60), .int bn])), ((ad 54), .inr (0, [.ref (ad 55), .ref (ad 75), .ref (ad 56), .ref (ad 57), .ref (ad 58), .int fr])), ((ad 55), .inl (y 0, 12, .inl cm)), ((ad 56), .inl (y 0, 192, .inl rd)), ((ad 57), .inl (y 0, 192, .inl td)), ((ad 58), .inl (y 0, 16, .inl od)), ((ad 75), .inl (y 0, 192, .inl (zOf cm)))] s.heap := hP
  have hl := lv_entry ([.ref (ad 0), .int (nI k), .int (nI q), .int (nI a9), .int (nI b9)]) (n := 7) (Nat.le_of_ble_eq_true rfl)
  rw [lg_entry_eq]
  generalize (lg_sl ([.ref (ad 0), .int (nI k), .int (nI q), .int (nI a9), .int (nI b9)]) ++ List.replicate (7 - (lg_sl ([.ref (ad 0), .int (nI k), .int (nI q), .int (nI a9), .int (nI b9)])).length) Slot.unset).toArray = ls at hl ⊢
  have hl : lv_has ls 7 [(0, .ref (ad 0)), (1, .int (nI k)), (2, .int (nI q)), (3, .int (nI a9)), (4, .int (nI b9))] := hl
  refine lv_iconst (v := 0) hx hb dX4_toldTogether_0 (by decide) ?_
  refine lv_istore (lv' := [(5, .int 0), (0, .ref (ad 0)), (1, .int (nI k)), (2, .int (nI q)), (3, .int (nI a9)), (4, .int (nI b9))]) hx hb dX4_toldTogether_1 hl (by decide) rfl (fun ls hl => ?_)
  refine lv_iload_n hx hb dX4_toldTogether_3 rfl (lv_at hl 4 rfl) ?_
  have hl : lv_has ls 7 [(5, .int (zsum (fun v => qTt S k v q) a9 (a9 - a9))), (0, .ref (ad 0)), (1, .int (nI k)), (2, .int (nI q)), (3, .int (nI a9)), (4, .int (nI b9))] := by rw [show (zsum (fun v => qTt S k v q) a9 (a9 - a9) : Int32) = 0 from (by rw [Nat.sub_self]; rfl : (0 : Int32) = zsum (fun v => qTt S k v q) a9 (a9 - a9)).symm]; exact hl
  refine lv_istore (lv' := [(6, .int (nI a9)), (5, .int (zsum (fun v => qTt S k v q) a9 (a9 - a9))), (0, .ref (ad 0)), (1, .int (nI k)), (2, .int (nI q)), (3, .int (nI a9)), (4, .int (nI b9))]) hx hb dX4_toldTogether_4 hl (by decide) rfl (fun ls hl => ?_)
  refine zloop (fun i : Nat => 17 - i) (fun i H locs ls => i ≤ b9 + 1 ∧ a9 ≤ i ∧ va_P D vwCl [((ad 0), .inr (4, [.ref (ad 1), .ref (ad 8), .ref (ad 9), .ref (ad 10), .ref (ad 54), .ref (ad 59), .ref (ad 60), .int bn])), ((ad 54), .inr (0, [.ref (ad 55), .ref (ad 75), .ref (ad 56), .ref (ad 57), .ref (ad 58), .int fr])), ((ad 55), .inl (y 0, 12, .inl cm)), ((ad 56), .inl (y 0, 192, .inl rd)), ((ad 57), .inl (y 0, 192, .inl td)), ((ad 58), .inl (y 0, 16, .inl od)), ((ad 75), .inl (y 0, 192, .inl (zOf cm)))] H ∧ va_S (fun _ => False) s.heap H locs ∧ lv_has ls 7 [(0, .ref (ad 0)), (1, .int (nI k)), (2, .int (nI q)), (3, .int (nI a9)), (4, .int (nI b9)), (5, .int (zsum (fun v => qTt S k v q) a9 (i - a9))), (6, .int (nI i))]) 6 (fun _ => 0) (fun _ => 0) ?_ (a9) ⟨by omega, by omega, hP, hS, lv_sub hl [2, 3, 4, 5, 6, 1, 0] rfl⟩
  clear hl hS hP
  rintro i H locs ls ⟨hi, hi2, hP, hS, hl⟩ ih6
  refine lv_iload hx hb dX4_toldTogether_6 (lv_at hl 6 rfl) ?_
  refine lv_iload hx hb dX4_toldTogether_8 (lv_at hl 4 rfl) ?_
  refine lv_icmp_gt (tgt := 39) hx hb dX4_toldTogether_10 (by decide) (fun c_10 => ?_) (fun c_10 => ?_)
  · replace c_10 : b9 < i := (nI_ltI (a := b9) (b := i) (by omega) (by omega)).mp c_10
    have e8 : i = b9 + 1 := by omega
    refine lv_iload hx hb dX4_toldTogether_39 (lv_at hl 5 rfl) ?_
    exact W.iret (v := (zsum (fun v => qTt S k v q) a9 (i - a9))) hx hb hr (fun t ht hW => ⟨⟨zsum (fun v => qTt S k v q) a9 (i - a9), (), rfl, congrArg (zsum _ _) (by omega), trivial⟩, hS.F ht⟩) hS.2.2 dX4_toldTogether_41
  · replace c_10 : ¬ b9 < i := fun h => c_10 ((nI_ltI (a := b9) (b := i) (by omega) (by omega)).mpr h)
    refine lv_iload hx hb dX4_toldTogether_13 (lv_at hl 5 rfl) ?_
    refine lv_aload_n hx hb dX4_toldTogether_15 rfl (lv_at hl 0 rfl) ?_
    refine va_get (D := D) (ci := 4) (v := .ref (ad 54)) (C := RX4) (T := TX4) (N := 8) hx hb htg iX4 hown hK hP 0 rfl rfl 4 (by decide) (htg _ tw_101) (fun _ h9 => h9) rfl dX4_toldTogether_16 ?_
    refine va_get (D := D) (ci := 0) (v := .ref (ad 57)) (C := RX0) (T := TX0) (N := 6) hx hb htg iX0 hown hK hP 1 rfl rfl 3 (by decide) (htg _ tw_182) (fun _ h9 => h9) rfl dX4_toldTogether_19 ?_
    refine lv_iload_n hx hb dX4_toldTogether_22 rfl (lv_at hl 1 rfl) ?_
    refine lv_iload hx hb dX4_toldTogether_23 (lv_at hl 6 rfl) ?_
    refine lv_iload_n hx hb dX4_toldTogether_25 rfl (lv_at hl 2 rfl) ?_
    refine zr_calli (va_runS (As := [.int (nI k), .int (nI i), .int (nI q)]) (rest := [.ref (ad 57), .int (zsum (fun v => qTt S k v q) a9 (i - a9))]) ⟨hx, hb, hml, hown, hts⟩ (mX4_tiltAt l k i q) (va_cwS 3 hts (zgS tw_188 tw_29 tw_23 tw_30) rfl rfl rfl (by decide +kernel) ⟨Nat.le_of_ble_eq_true rfl, Nat.le_of_ble_eq_true rfl⟩) zP_pre rfl rfl hl.1 rfl (lv_room (Nat.le_of_ble_eq_true rfl)) dX4_toldTogether_26 ⟨Nat.zero_le _, Nat.zero_le _⟩) hS (fun r_1 H locs hw_26 hT hS => ?_)
    replace hP := hT _ _ hP
    obtain rfl : r_1 = nI (32 * k + 2 * i + q) := hw_26
    refine va_iald hx hb hK hP 4 0 rfl rfl (vp_in_nI (by omega) (by decide)) dX4_toldTogether_29 ?_
    refine zz_top (y := td (32 * k + 2 * i + q)) (congrArg td (nI_clamp (by omega))) ?_
    refine zz_top (y := qTt S k i q) (hTd k i q hk (by omega) hq) ?_
    refine lv_iadd hx hb dX4_toldTogether_30 ?_
    refine zz_top (y := zsum (fun v => qTt S k v q) a9 (i + 1 - a9)) (zsum_step hi2) ?_
    refine lv_istore (lv' := [(5, .int (zsum (fun v => qTt S k v q) a9 (i + 1 - a9))), (0, .ref (ad 0)), (1, .int (nI k)), (2, .int (nI q)), (3, .int (nI a9)), (4, .int (nI b9)), (6, .int (nI i))]) hx hb dX4_toldTogether_31 hl (by decide) rfl (fun ls hl => ?_)
    refine lv_iinc (v := nI (i + 1)) (lv' := [(6, .int (nI (i + 1))), (5, .int (zsum (fun v => qTt S k v q) a9 (i + 1 - a9))), (0, .ref (ad 0)), (1, .int (nI k)), (2, .int (nI q)), (3, .int (nI a9)), (4, .int (nI b9))]) hx hb dX4_toldTogether_33 hl (k := 6) rfl (nI_1 i) (by decide) rfl (fun ls hl => ?_)
    refine lv_goto (tgt := 6) hx hb dX4_toldTogether_36 (by decide) ?_
    exact ih6 (i + 1) _ _ _ (by omega) ⟨by omega, by omega, hP, hS, lv_sub hl [2, 3, 4, 5, 6, 1, 0] rfl⟩

set_option maxHeartbeats 4000000 in
set_option maxRecDepth 100000 in
theorem mX4_slidBetween (l : Launch) (D : va_G) (y : Nat → ClassId) (ad : Nat → Nat) (S : Nat → Int32) (bn : Int32) (cm : Nat → Int32) (rd : Nat → Int32) (td : Nat → Int32) (od : Nat → Int32) (fr : Int32) (n : Nat) (k1 : Nat) (k2 : Nat) (v : Nat) (q : Nat) (hn : n ≤ 6) (hTd : zTdF S td n) (hk1 : k1 < n) (hk2 : k2 < n) (hl9 : v < 16) (hq : q < 2) : Met l yX4_slidBetween (ws_ yX4_slidBetween cX4_slidBetween 5 (some .int)) ({ frames := 1, cells := 0, slots := 0, locals := 22 }) (va_Pc [.ref (ad 0), .int (nI k1), .int (nI k2), .int (nI v), .int (nI q)] (zRO D y [((ad 0), .inr (4, [.ref (ad 1), .ref (ad 8), .ref (ad 9), .ref (ad 10), .ref (ad 54), .ref (ad 59), .ref (ad 60), .int bn])), ((ad 54), .inr (0, [.ref (ad 55), .ref (ad 75), .ref (ad 56), .ref (ad 57), .ref (ad 58), .int fr])), ((ad 55), .inl (y 0, 12, .inl cm)), ((ad 56), .inl (y 0, 192, .inl rd)), ((ad 57), .inl (y 0, 192, .inl td)), ((ad 58), .inl (y 0, 16, .inl od)), ((ad 75), .inl (y 0, 192, .inl (zOf cm)))])) (va_Qi (fun (r : Int32) (_ : Unit) => r = qDf S k1 k2 q v) (fun _ _ => True) (fun _ => False)) 0 0 (fun _ => False) := by
  refine Met.ofW (cc := cX4_slidBetween) (maxL := 5) (ret := (some .int)) (by decide) rfl ?_
  intro p e s m args below meth c s₁ B hml hpre9
  obtain ⟨rfl, hP, hKN⟩ := hpre9
  have hK := hKN.1
  have hx := B.exec
  have hb := B.bytes
  have hr := B.returns
  have hts := atoms_spec (ws := (ws_ yX4_slidBetween cX4_slidBetween 5 (some .int))) B.pre
  have htg : ∀ w ∈ gT, w.before _ s = true := fun w h => hts w (List.mem_cons_of_mem _ h)
  have hown : s.vm.findClass RX4 = some m.cls := findClass_of_methodNamed B.named
  have hlocks := B.notSynchronized
  have hS : va_S (fun _ => False) s.heap s.heap [] := va_S.rf
  have hP : va_P D vwCl [((ad 0), .inr (4, [.ref (ad 1), .ref (ad 8), .ref (ad 9), .ref (ad 10), .ref (ad 54), .ref (ad 59), .ref (ad 60), .int bn])), ((ad 54), .inr (0, [.ref (ad 55), .ref (ad 75), .ref (ad 56), .ref (ad 57), .ref (ad 58), .int fr])), ((ad 55), .inl (y 0, 12, .inl cm)), ((ad 56), .inl (y 0, 192, .inl rd)), ((ad 57), .inl (y 0, 192, .inl td)), ((ad 58), .inl (y 0, 16, .inl od)), ((ad 75), .inl (y 0, 192, .inl (zOf cm)))] s.heap := hP
  have hl := lv_entry ([.ref (ad 0), .int (nI k1), .int (nI k2), .int (nI v), .int (nI q)]) (n := 5) (Nat.le_of_ble_eq_true rfl)
  rw [lg_entry_eq]
  generalize (lg_sl ([.ref (ad 0), .int (nI k1), .int (nI k2), .int (nI v), .int (nI q)]) ++ List.replicate (5 - (lg_sl ([.ref (ad 0), .int (nI k1), .int (nI k2), .int (nI v), .int (nI q)])).length) Slot.unset).toArray = ls at hl ⊢
  have hl : lv_has ls 5 [(0, .ref (ad 0)), (1, .int (nI k1)), (2, .int (nI k2)), (3, .int (nI v)), (4, .int (nI q))] := hl
  refine lv_aload_n hx hb dX4_slidBetween_0 rfl (lv_at hl 0 rfl) ?_
  refine va_get (D := D) (ci := 4) (v := .ref (ad 54)) (C := RX4) (T := TX4) (N := 8) hx hb htg iX4 hown hK hP 0 rfl rfl 4 (by decide) (htg _ tw_101) (fun _ h9 => h9) rfl dX4_slidBetween_1 ?_
  refine va_get (D := D) (ci := 0) (v := .ref (ad 57)) (C := RX0) (T := TX0) (N := 6) hx hb htg iX0 hown hK hP 1 rfl rfl 3 (by decide) (htg _ tw_182) (fun _ h9 => h9) rfl dX4_slidBetween_4 ?_
  refine lv_iload_n hx hb dX4_slidBetween_7 rfl (lv_at hl 2 rfl) ?_
  refine lv_iload_n hx hb dX4_slidBetween_8 rfl (lv_at hl 3 rfl) ?_
  refine lv_iload hx hb dX4_slidBetween_9 (lv_at hl 4 rfl) ?_
  refine zr_calli (va_runS (As := [.int (nI k2), .int (nI v), .int (nI q)]) (rest := [.ref (ad 57)]) ⟨hx, hb, hml, hown, hts⟩ (mX4_tiltAt l k2 v q) (va_cwS 3 hts (zgS tw_188 tw_29 tw_23 tw_30) rfl rfl rfl (by decide +kernel) ⟨Nat.le_of_ble_eq_true rfl, Nat.le_of_ble_eq_true rfl⟩) zP_pre rfl rfl hl.1 rfl (lv_room (Nat.le_of_ble_eq_true rfl)) dX4_slidBetween_11 ⟨Nat.zero_le _, Nat.zero_le _⟩) hS (fun r_1 H locs hw_11 hT hS => ?_)
  replace hP := hT _ _ hP
  obtain rfl : r_1 = nI (32 * k2 + 2 * v + q) := hw_11
  refine va_iald hx hb hK hP 4 0 rfl rfl (vp_in_nI (by omega) (by decide)) dX4_slidBetween_14 ?_
  refine zz_top (y := td (32 * k2 + 2 * v + q)) (congrArg td (nI_clamp (by omega))) ?_
  refine zz_top (y := qTt S k2 v q) (hTd k2 v q hk2 hl9 hq) ?_
  refine lv_aload_n hx hb dX4_slidBetween_15 rfl (lv_at hl 0 rfl) ?_
  refine va_get (D := D) (ci := 4) (v := .ref (ad 54)) (C := RX4) (T := TX4) (N := 8) hx hb htg iX4 hown hK hP 0 rfl rfl 4 (by decide) (htg _ tw_101) (fun _ h9 => h9) rfl dX4_slidBetween_16 ?_
  refine va_get (D := D) (ci := 0) (v := .ref (ad 57)) (C := RX0) (T := TX0) (N := 6) hx hb htg iX0 hown hK hP 1 rfl rfl 3 (by decide) (htg _ tw_182) (fun _ h9 => h9) rfl dX4_slidBetween_19 ?_
  refine lv_iload_n hx hb dX4_slidBetween_22 rfl (lv_at hl 1 rfl) ?_
  refine lv_iload_n hx hb dX4_slidBetween_23 rfl (lv_at hl 3 rfl) ?_
  refine lv_iload hx hb dX4_slidBetween_24 (lv_at hl 4 rfl) ?_
  refine zr_calli (va_runS (As := [.int (nI k1), .int (nI v), .int (nI q)]) (rest := [.ref (ad 57), .int (qTt S k2 v q)]) ⟨hx, hb, hml, hown, hts⟩ (mX4_tiltAt l k1 v q) (va_cwS 3 hts (zgS tw_188 tw_29 tw_23 tw_30) rfl rfl rfl (by decide +kernel) ⟨Nat.le_of_ble_eq_true rfl, Nat.le_of_ble_eq_true rfl⟩) zP_pre rfl rfl hl.1 rfl (lv_room (Nat.le_of_ble_eq_true rfl)) dX4_slidBetween_26 ⟨Nat.zero_le _, Nat.zero_le _⟩) hS (fun r_2 H locs hw_26 hT hS => ?_)
  replace hP := hT _ _ hP
  obtain rfl : r_2 = nI (32 * k1 + 2 * v + q) := hw_26
  refine va_iald hx hb hK hP 4 0 rfl rfl (vp_in_nI (by omega) (by decide)) dX4_slidBetween_29 ?_
  refine zz_top (y := td (32 * k1 + 2 * v + q)) (congrArg td (nI_clamp (by omega))) ?_
  refine zz_top (y := qTt S k1 v q) (hTd k1 v q hk1 hl9 hq) ?_
  refine lv_isub hx hb dX4_slidBetween_30 ?_
  exact W.iret (v := ((qTt S k2 v q) - (qTt S k1 v q))) hx hb hr (fun t ht hW => ⟨⟨(qTt S k2 v q) - (qTt S k1 v q), (), rfl, by first | rfl | trivial | simp_all, trivial⟩, hS.F ht⟩) hS.2.2 dX4_slidBetween_31

set_option maxHeartbeats 4000000 in
set_option maxRecDepth 100000 in
theorem mX4_movedUpTo (l : Launch) (D : va_G) (y : Nat → ClassId) (ad : Nat → Nat) (S : Nat → Int32) (bn : Int32) (cm : Nat → Int32) (rd : Nat → Int32) (td : Nat → Int32) (od : Nat → Int32) (fr : Int32) (n : Nat) (k1 : Nat) (k2 : Nat) (v : Nat) (q : Nat) (hn : n ≤ 6) (hTd : zTdF S td n) (hk1 : k1 < n) (hk2 : k2 < n) (hl9 : v < 16) (hq : q < 2) : Met l yX4_movedUpTo (ws_ yX4_movedUpTo cX4_movedUpTo 5 (some .int)) ({ frames := 2, cells := 0, slots := 0, locals := 48 }) (va_Pc [.ref (ad 0), .int (nI k1), .int (nI k2), .int (nI v), .int (nI q)] (zRO D y [((ad 0), .inr (4, [.ref (ad 1), .ref (ad 8), .ref (ad 9), .ref (ad 10), .ref (ad 54), .ref (ad 59), .ref (ad 60), .int bn])), ((ad 54), .inr (0, [.ref (ad 55), .ref (ad 75), .ref (ad 56), .ref (ad 57), .ref (ad 58), .int fr])), ((ad 55), .inl (y 0, 12, .inl cm)), ((ad 56), .inl (y 0, 192, .inl rd)), ((ad 57), .inl (y 0, 192, .inl td)), ((ad 58), .inl (y 0, 16, .inl od)), ((ad 75), .inl (y 0, 192, .inl (zOf cm)))])) (va_Qi (fun (r : Int32) (_ : Unit) => r = qPl S k2 q (v + 1) - qPl S k1 q (v + 1)) (fun _ _ => True) (fun _ => False)) 0 0 (fun _ => False) := by
  refine Met.ofW (cc := cX4_movedUpTo) (maxL := 5) (ret := (some .int)) (by decide) rfl ?_
  intro p e s m args below meth c s₁ B hml hpre9
  obtain ⟨rfl, hP, hKN⟩ := hpre9
  have hK := hKN.1
  have hx := B.exec
  have hb := B.bytes
  have hr := B.returns
  have hts := atoms_spec (ws := (ws_ yX4_movedUpTo cX4_movedUpTo 5 (some .int))) B.pre
  have htg : ∀ w ∈ gT, w.before _ s = true := fun w h => hts w (List.mem_cons_of_mem _ h)
  have hown : s.vm.findClass RX4 = some m.cls := findClass_of_methodNamed B.named
  have hlocks := B.notSynchronized
  have hS : va_S (fun _ => False) s.heap s.heap [] := va_S.rf
  have hP : va_P D vwCl [((ad 0), .inr (4, [.ref (ad 1), .ref (ad 8), .ref (ad 9), .ref (ad 10), .ref (ad 54), .ref (ad 59), .ref (ad 60), .int bn])), ((ad 54), .inr (0, [.ref (ad 55), .ref (ad 75), .ref (ad 56), .ref (ad 57), .ref (ad 58), .int fr])), ((ad 55), .inl (y 0, 12, .inl cm)), ((ad 56), .inl (y 0, 192, .inl rd)), ((ad 57), .inl (y 0, 192, .inl td)), ((ad 58), .inl (y 0, 16, .inl od)), ((ad 75), .inl (y 0, 192, .inl (zOf cm)))] s.heap := hP
  have hl := lv_entry ([.ref (ad 0), .int (nI k1), .int (nI k2), .int (nI v), .int (nI q)]) (n := 5) (Nat.le_of_ble_eq_true rfl)
  rw [lg_entry_eq]
  generalize (lg_sl ([.ref (ad 0), .int (nI k1), .int (nI k2), .int (nI v), .int (nI q)]) ++ List.replicate (5 - (lg_sl ([.ref (ad 0), .int (nI k1), .int (nI k2), .int (nI v), .int (nI q)])).length) Slot.unset).toArray = ls at hl ⊢
  have hl : lv_has ls 5 [(0, .ref (ad 0)), (1, .int (nI k1)), (2, .int (nI k2)), (3, .int (nI v)), (4, .int (nI q))] := hl
  refine lv_aload_n hx hb dX4_movedUpTo_0 rfl (lv_at hl 0 rfl) ?_
  refine lv_iload_n hx hb dX4_movedUpTo_1 rfl (lv_at hl 2 rfl) ?_
  refine lv_iload hx hb dX4_movedUpTo_2 (lv_at hl 4 rfl) ?_
  refine lv_iconst (v := 0) hx hb dX4_movedUpTo_4 (by decide) ?_
  refine lv_iload_n hx hb dX4_movedUpTo_5 rfl (lv_at hl 3 rfl) ?_
  refine zr_calli (va_runV (As := [.int (nI k2), .int (nI q), .int 0, .int (nI v)]) (rest := []) ⟨hx, hb, hml, hown, hts⟩ (mX4_toldTogether l D y ad S bn cm rd td od fr n k2 q 0 v (by first | assumption | rfl | omega | decide) (by first | assumption | rfl | omega | decide) (by first | assumption | rfl | omega | decide) (by first | assumption | rfl | omega | decide) (by first | assumption | rfl | omega | decide) (by first | assumption | rfl | omega | decide)) (cwV 4 hts (zgV tw_201 tw_202 tw_203 tw_23 tw_204) rfl rfl rfl (by decide +kernel) ⟨Nat.le_of_ble_eq_true rfl, Nat.le_of_ble_eq_true rfl⟩) (zRO_preV hKN hP (ci := 4) (q0 := 0) rfl rfl [0, 1, 2, 3, 4, 5, 6] rfl) rfl rfl hl.1 rfl (lv_room (Nat.le_of_ble_eq_true rfl)) dX4_movedUpTo_6 ⟨Nat.zero_le _, Nat.zero_le _⟩) hS (fun r_1 H locs hw_6 hT hS => ?_)
  replace hP := hT _ _ hP
  obtain rfl : r_1 = zsum (fun v => qTt S k2 v q) 0 (v + 1 - 0) := hw_6
  refine lv_aload_n hx hb dX4_movedUpTo_9 rfl (lv_at hl 0 rfl) ?_
  refine lv_iload_n hx hb dX4_movedUpTo_10 rfl (lv_at hl 1 rfl) ?_
  refine lv_iload hx hb dX4_movedUpTo_11 (lv_at hl 4 rfl) ?_
  refine lv_iconst (v := 0) hx hb dX4_movedUpTo_13 (by decide) ?_
  refine lv_iload_n hx hb dX4_movedUpTo_14 rfl (lv_at hl 3 rfl) ?_
  refine zr_calli (va_runV (As := [.int (nI k1), .int (nI q), .int 0, .int (nI v)]) (rest := [.int (zsum (fun v => qTt S k2 v q) 0 (v + 1 - 0))]) ⟨hx, hb, hml, hown, hts⟩ (mX4_toldTogether l D y ad S bn cm rd td od fr n k1 q 0 v (by first | assumption | rfl | omega | decide) (by first | assumption | rfl | omega | decide) (by first | assumption | rfl | omega | decide) (by first | assumption | rfl | omega | decide) (by first | assumption | rfl | omega | decide) (by first | assumption | rfl | omega | decide)) (cwV 4 hts (zgV tw_201 tw_202 tw_203 tw_23 tw_204) rfl rfl rfl (by decide +kernel) ⟨Nat.le_of_ble_eq_true rfl, Nat.le_of_ble_eq_true rfl⟩) (zRO_preV hKN hP (ci := 4) (q0 := 0) rfl rfl [0, 1, 2, 3, 4, 5, 6] rfl) rfl rfl hl.1 rfl (lv_room (Nat.le_of_ble_eq_true rfl)) dX4_movedUpTo_15 ⟨Nat.zero_le _, Nat.zero_le _⟩) hS (fun r_2 H locs hw_15 hT hS => ?_)
  replace hP := hT _ _ hP
  obtain rfl : r_2 = zsum (fun v => qTt S k1 v q) 0 (v + 1 - 0) := hw_15
  refine lv_isub hx hb dX4_movedUpTo_18 ?_
  exact W.iret (v := ((zsum (fun v => qTt S k2 v q) 0 (v + 1 - 0)) - (zsum (fun v => qTt S k1 v q) 0 (v + 1 - 0)))) hx hb hr (fun t ht hW => ⟨⟨(zsum (fun v => qTt S k2 v q) 0 (v + 1 - 0)) - (zsum (fun v => qTt S k1 v q) 0 (v + 1 - 0)), (), rfl, by first | rfl | trivial | simp_all, trivial⟩, hS.F ht⟩) hS.2.2 dX4_movedUpTo_19

set_option maxHeartbeats 4000000 in
set_option maxRecDepth 100000 in
theorem mX4_suspiciousTilts (l : Launch) (D : va_G) (y : Nat → ClassId) (ad : Nat → Nat) (S : Nat → Int32) (bn : Int32) (cm : Nat → Int32) (rd : Nat → Int32) (td : Nat → Int32) (od : Nat → Int32) (fr : Int32) (n : Nat) (k : Nat) (hn : n ≤ 6) (hC : zCmF S cm n) (hk : k < n) : Met l yX4_suspiciousTilts (ws_ yX4_suspiciousTilts cX4_suspiciousTilts 5 (some .int)) ({ frames := 2, cells := 0, slots := 0, locals := 46 }) (va_Pc [.ref (ad 0), .int (nI k)] (zRO D y [((ad 0), .inr (4, [.ref (ad 1), .ref (ad 8), .ref (ad 9), .ref (ad 10), .ref (ad 54), .ref (ad 59), .ref (ad 60), .int bn])), ((ad 1), .inr (2, [.ref (ad 2), .ref (ad 3), .ref (ad 4), .ref (ad 5), .ref (ad 6), .ref (ad 7), .int (S 0), .int (S 1), .int (S 4), .int (S 5)])), ((ad 2), .inl (y 0, 32, .inl (zT S))), ((ad 3), .inl (y 0, 16, .inl (zU S))), ((ad 4), .inl (y 0, 2, .inl (zB S))), ((ad 5), .inl (y 0, 3, .inl (zE S))), ((ad 6), .inl (y 0, 384, .inl (zR S))), ((ad 7), .inl (y 0, 6, .inl (zY S))), ((ad 54), .inr (0, [.ref (ad 55), .ref (ad 75), .ref (ad 56), .ref (ad 57), .ref (ad 58), .int fr])), ((ad 55), .inl (y 0, 12, .inl cm)), ((ad 56), .inl (y 0, 192, .inl rd)), ((ad 57), .inl (y 0, 192, .inl td)), ((ad 58), .inl (y 0, 16, .inl od)), ((ad 75), .inl (y 0, 192, .inl (zOf cm)))])) (va_Qi (fun (r : Int32) (_ : Unit) => r = qSn S k 32) (fun _ _ => True) (fun _ => False)) 0 0 (fun _ => False) := by
  refine Met.ofW (cc := cX4_suspiciousTilts) (maxL := 5) (ret := (some .int)) (by decide) rfl ?_
  intro p e s m args below meth c s₁ B hml hpre9
  obtain ⟨rfl, hP, hKN⟩ := hpre9
  have hK := hKN.1
  have hx := B.exec
  have hb := B.bytes
  have hr := B.returns
  have hts := atoms_spec (ws := (ws_ yX4_suspiciousTilts cX4_suspiciousTilts 5 (some .int))) B.pre
  have htg : ∀ w ∈ gT, w.before _ s = true := fun w h => hts w (List.mem_cons_of_mem _ h)
  have hown : s.vm.findClass RX4 = some m.cls := findClass_of_methodNamed B.named
  have hlocks := B.notSynchronized
  have hS : va_S (fun _ => False) s.heap s.heap [] := va_S.rf
  have hP : va_P D vwCl [((ad 0), .inr (4, [.ref (ad 1), .ref (ad 8), .ref (ad 9), .ref (ad 10), .ref (ad 54), .ref (ad 59), .ref (ad 60), .int bn])), ((ad 1), .inr (2, [.ref (ad 2), .ref (ad 3), .ref (ad 4), .ref (ad 5), .ref (ad 6), .ref (ad 7), .int (S 0), .int (S 1), .int (S 4), .int (S 5)])), ((ad 2), .inl (y 0, 32, .inl (zT S))), ((ad 3), .inl (y 0, 16, .inl (zU S))), ((ad 4), .inl (y 0, 2, .inl (zB S))), ((ad 5), .inl (y 0, 3, .inl (zE S))), ((ad 6), .inl (y 0, 384, .inl (zR S))), ((ad 7), .inl (y 0, 6, .inl (zY S))), ((ad 54), .inr (0, [.ref (ad 55), .ref (ad 75), .ref (ad 56), .ref (ad 57), .ref (ad 58), .int fr])), ((ad 55), .inl (y 0, 12, .inl cm)), ((ad 56), .inl (y 0, 192, .inl rd)), ((ad 57), .inl (y 0, 192, .inl td)), ((ad 58), .inl (y 0, 16, .inl od)), ((ad 75), .inl (y 0, 192, .inl (zOf cm)))] s.heap := hP
  have hl := lv_entry ([.ref (ad 0), .int (nI k)]) (n := 5) (Nat.le_of_ble_eq_true rfl)
  rw [lg_entry_eq]
  generalize (lg_sl ([.ref (ad 0), .int (nI k)]) ++ List.replicate (5 - (lg_sl ([.ref (ad 0), .int (nI k)])).length) Slot.unset).toArray = ls at hl ⊢
  have hl : lv_has ls 5 [(0, .ref (ad 0)), (1, .int (nI k))] := hl
  refine lv_iconst (v := 0) hx hb dX4_suspiciousTilts_0 (by decide) ?_
  refine lv_istore_n (lv' := [(2, .int 0), (0, .ref (ad 0)), (1, .int (nI k))]) hx hb dX4_suspiciousTilts_1 rfl hl (by decide) rfl (fun ls hl => ?_)
  refine lv_iconst (v := 0) hx hb dX4_suspiciousTilts_2 (by decide) ?_
  refine lv_istore_n (lv' := [(3, .int 0), (2, .int 0), (0, .ref (ad 0)), (1, .int (nI k))]) hx hb dX4_suspiciousTilts_3 rfl hl (by decide) rfl (fun ls hl => ?_)
  refine zloop (fun i : Nat => 16 - i) (fun i H locs ls => i ≤ 16 ∧ va_P D vwCl [((ad 0), .inr (4, [.ref (ad 1), .ref (ad 8), .ref (ad 9), .ref (ad 10), .ref (ad 54), .ref (ad 59), .ref (ad 60), .int bn])), ((ad 1), .inr (2, [.ref (ad 2), .ref (ad 3), .ref (ad 4), .ref (ad 5), .ref (ad 6), .ref (ad 7), .int (S 0), .int (S 1), .int (S 4), .int (S 5)])), ((ad 2), .inl (y 0, 32, .inl (zT S))), ((ad 3), .inl (y 0, 16, .inl (zU S))), ((ad 4), .inl (y 0, 2, .inl (zB S))), ((ad 5), .inl (y 0, 3, .inl (zE S))), ((ad 6), .inl (y 0, 384, .inl (zR S))), ((ad 7), .inl (y 0, 6, .inl (zY S))), ((ad 54), .inr (0, [.ref (ad 55), .ref (ad 75), .ref (ad 56), .ref (ad 57), .ref (ad 58), .int fr])), ((ad 55), .inl (y 0, 12, .inl cm)), ((ad 56), .inl (y 0, 192, .inl rd)), ((ad 57), .inl (y 0, 192, .inl td)), ((ad 58), .inl (y 0, 16, .inl od)), ((ad 75), .inl (y 0, 192, .inl (zOf cm)))] H ∧ va_S (fun _ => False) s.heap H locs ∧ lv_has ls 5 [(0, .ref (ad 0)), (1, .int (nI k)), (2, .int (qSn S k (2 * i))), (3, .int (nI i))]) 4 (fun _ => 0) (fun _ => 0) ?_ (0) ⟨by omega, hP, hS, lv_sub hl [2, 3, 1, 0] rfl⟩
  clear hl hS hP
  rintro i H locs ls ⟨hi, hP, hS, hl⟩ ih4
  refine lv_iload_n hx hb dX4_suspiciousTilts_4 rfl (lv_at hl 3 rfl) ?_
  refine lv_bipush (v := 16) hx hb dX4_suspiciousTilts_5 (by decide) ?_
  refine lv_icmp_ge (tgt := 52) hx hb dX4_suspiciousTilts_7 (by decide) (fun c_7 => ?_) (fun c_7 => ?_)
  · replace c_7 : 16 ≤ i := (nI_leI (a := 16) (b := i) (by omega) (by omega)).mp c_7
    have e8 : i = 16 := by omega
    refine lv_iload_n hx hb dX4_suspiciousTilts_52 rfl (lv_at hl 2 rfl) ?_
    exact W.iret (v := (qSn S k (2 * i))) hx hb hr (fun t ht hW => ⟨⟨qSn S k (2 * i), (), rfl, congrArg (qSn S k) (by omega), trivial⟩, hS.F ht⟩) hS.2.2 dX4_suspiciousTilts_53
  · replace c_7 : ¬ 16 ≤ i := fun h => c_7 ((nI_leI (a := 16) (b := i) (by omega) (by omega)).mpr h)
    refine lv_iconst (v := 0) hx hb dX4_suspiciousTilts_10 (by decide) ?_
    refine lv_istore (lv' := [(4, .int 0), (0, .ref (ad 0)), (1, .int (nI k)), (2, .int (qSn S k (2 * i))), (3, .int (nI i))]) hx hb dX4_suspiciousTilts_11 hl (by decide) rfl (fun ls hl => ?_)
    refine lv_iload hx hb dX4_suspiciousTilts_13 (lv_at hl 0 rfl) ?_
    refine lv_iconst (v := 2) hx hb dX4_suspiciousTilts_15 (by decide) ?_
    refine lv_icmp_ge (tgt := 46) hx hb dX4_suspiciousTilts_16 (by decide) (fun c_16 => absurd c_16 (by decide)) (fun _ => ?_)
    refine lv_aload_n hx hb dX4_suspiciousTilts_19 rfl (lv_at hl 1 rfl) ?_
    refine va_get (D := D) (ci := 4) (v := .ref (ad 54)) (C := RX4) (T := TX4) (N := 8) hx hb htg iX4 hown hK hP 0 rfl rfl 4 (by decide) (htg _ tw_101) (fun _ h9 => h9) rfl dX4_suspiciousTilts_20 ?_
    refine lv_aload_n hx hb dX4_suspiciousTilts_23 rfl (lv_at hl 1 rfl) ?_
    refine va_get (D := D) (ci := 4) (v := .ref (ad 1)) (C := RX4) (T := TX4) (N := 8) hx hb htg iX4 hown hK hP 0 rfl rfl 0 (by decide) (htg _ tw_91) (fun _ h9 => h9) rfl dX4_suspiciousTilts_24 ?_
    refine lv_iload_n hx hb dX4_suspiciousTilts_27 rfl (lv_at hl 2 rfl) ?_
    refine lv_iload_n hx hb dX4_suspiciousTilts_28 rfl (lv_at hl 4 rfl) ?_
    refine lv_iload hx hb dX4_suspiciousTilts_29 (lv_at hl 0 rfl) ?_
    refine zr_calli (va_runV (As := [.ref (ad 1), .int (nI k), .int (nI i), .int 0]) (rest := []) ⟨hx, hb, hml, hown, hts⟩ (mX0_isSuspicious l D y (fun i => ad (i + 54)) (fun i => ad (i + 1)) S cm rd td od (zOf cm) fr k i 0 (by first | assumption | rfl | omega | decide) (by first | assumption | rfl | omega | decide) (by first | assumption | rfl | omega | decide) (hC.2 k i 0 hk (by omega) (by decide))) (cwV 4 hts (zgV tw_187 tw_38 tw_39 tw_20 tw_40) rfl rfl rfl (by decide +kernel) ⟨Nat.le_of_ble_eq_true rfl, Nat.le_of_ble_eq_true rfl⟩) (zRO_preV hKN hP (ci := 0) (q0 := 8) rfl rfl [8, 9, 10, 11, 12, 13, 1, 2, 3, 4, 5, 6, 7] rfl) rfl rfl hl.1 rfl (lv_room (Nat.le_of_ble_eq_true rfl)) dX4_suspiciousTilts_31 ⟨Nat.zero_le _, Nat.zero_le _⟩) hS (fun r_1 H locs hw_31 hT hS => ?_)
    replace hP := hT _ _ hP
    obtain rfl : r_1 = (if S 6 < qOff S k i 0 then (1 : Int32) else 0) := hw_31
    refine lv_if_eq (tgt := 40) hx hb dX4_suspiciousTilts_34 (by decide) (fun c_34 => ?_) (fun c_34 => ?_)
    · replace c_34 := zb0.mp c_34
      have g0 := c_34
      refine lv_iinc (v := 1) (lv' := [(4, .int 1), (0, .ref (ad 0)), (1, .int (nI k)), (2, .int (qSn S k (2 * i))), (3, .int (nI i))]) hx hb dX4_suspiciousTilts_40 hl (k := 0) rfl (by decide) (by decide) rfl (fun ls hl => ?_)
      refine lv_goto (tgt := 13) hx hb dX4_suspiciousTilts_43 (by decide) ?_
      refine lv_iload hx hb dX4_suspiciousTilts_13 (lv_at hl 0 rfl) ?_
      refine lv_iconst (v := 2) hx hb dX4_suspiciousTilts_15 (by decide) ?_
      refine lv_icmp_ge (tgt := 46) hx hb dX4_suspiciousTilts_16 (by decide) (fun c_16 => absurd c_16 (by decide)) (fun _ => ?_)
      refine lv_aload_n hx hb dX4_suspiciousTilts_19 rfl (lv_at hl 1 rfl) ?_
      refine va_get (D := D) (ci := 4) (v := .ref (ad 54)) (C := RX4) (T := TX4) (N := 8) hx hb htg iX4 hown hK hP 0 rfl rfl 4 (by decide) (htg _ tw_101) (fun _ h9 => h9) rfl dX4_suspiciousTilts_20 ?_
      refine lv_aload_n hx hb dX4_suspiciousTilts_23 rfl (lv_at hl 1 rfl) ?_
      refine va_get (D := D) (ci := 4) (v := .ref (ad 1)) (C := RX4) (T := TX4) (N := 8) hx hb htg iX4 hown hK hP 0 rfl rfl 0 (by decide) (htg _ tw_91) (fun _ h9 => h9) rfl dX4_suspiciousTilts_24 ?_
      refine lv_iload_n hx hb dX4_suspiciousTilts_27 rfl (lv_at hl 2 rfl) ?_
      refine lv_iload_n hx hb dX4_suspiciousTilts_28 rfl (lv_at hl 4 rfl) ?_
      refine lv_iload hx hb dX4_suspiciousTilts_29 (lv_at hl 0 rfl) ?_
      refine zr_calli (va_runV (As := [.ref (ad 1), .int (nI k), .int (nI i), .int 1]) (rest := []) ⟨hx, hb, hml, hown, hts⟩ (mX0_isSuspicious l D y (fun i => ad (i + 54)) (fun i => ad (i + 1)) S cm rd td od (zOf cm) fr k i 1 (by first | assumption | rfl | omega | decide) (by first | assumption | rfl | omega | decide) (by first | assumption | rfl | omega | decide) (hC.2 k i 1 hk (by omega) (by decide))) (cwV 4 hts (zgV tw_187 tw_38 tw_39 tw_20 tw_40) rfl rfl rfl (by decide +kernel) ⟨Nat.le_of_ble_eq_true rfl, Nat.le_of_ble_eq_true rfl⟩) (zRO_preV hKN hP (ci := 0) (q0 := 8) rfl rfl [8, 9, 10, 11, 12, 13, 1, 2, 3, 4, 5, 6, 7] rfl) rfl rfl hl.1 rfl (lv_room (Nat.le_of_ble_eq_true rfl)) dX4_suspiciousTilts_31 ⟨Nat.zero_le _, Nat.zero_le _⟩) hS (fun r_2 H locs hw_31 hT hS => ?_)
      replace hP := hT _ _ hP
      obtain rfl : r_2 = (if S 6 < qOff S k i 1 then (1 : Int32) else 0) := hw_31
      refine lv_if_eq (tgt := 40) hx hb dX4_suspiciousTilts_34 (by decide) (fun c_34 => ?_) (fun c_34 => ?_)
      · replace c_34 := zb0.mp c_34
        have g1 := c_34
        refine lv_iinc (v := 2) (lv' := [(4, .int 2), (0, .ref (ad 0)), (1, .int (nI k)), (2, .int (qSn S k (2 * i))), (3, .int (nI i))]) hx hb dX4_suspiciousTilts_40 hl (k := 0) rfl (by decide) (by decide) rfl (fun ls hl => ?_)
        refine lv_goto (tgt := 13) hx hb dX4_suspiciousTilts_43 (by decide) ?_
        refine lv_iload hx hb dX4_suspiciousTilts_13 (lv_at hl 0 rfl) ?_
        refine lv_iconst (v := 2) hx hb dX4_suspiciousTilts_15 (by decide) ?_
        refine lv_icmp_ge (tgt := 46) hx hb dX4_suspiciousTilts_16 (by decide) (fun _ => ?_) (fun c_16 => absurd (by decide) c_16)
        have hl : lv_has ls 5 [(4, .int 2), (0, .ref (ad 0)), (1, .int (nI k)), (2, .int (qSn S k (2 * (i + 1)))), (3, .int (nI i))] := by rw [show (qSn S k (2 * (i + 1)) : Int32) = qSn S k (2 * i) from (by rw [qSn2, if_neg g0, if_neg g1]; simp only [Int32.add_zero] : (qSn S k (2 * i) : Int32) = qSn S k (2 * (i + 1))).symm]; exact hl
        refine lv_iinc (v := nI (i + 1)) (lv' := [(3, .int (nI (i + 1))), (4, .int 2), (0, .ref (ad 0)), (1, .int (nI k)), (2, .int (qSn S k (2 * (i + 1))))]) hx hb dX4_suspiciousTilts_46 hl (k := 4) rfl (nI_1 i) (by decide) rfl (fun ls hl => ?_)
        refine lv_goto (tgt := 4) hx hb dX4_suspiciousTilts_49 (by decide) ?_
        exact ih4 (i + 1) _ _ _ (by omega) ⟨by omega, hP, hS, lv_sub hl [2, 3, 4, 0] rfl⟩
      · replace c_34 := zb1.mp c_34
        have g1 := c_34
        refine lv_iinc (v := (qSn S k (2 * i)) + 1) (lv' := [(2, .int ((qSn S k (2 * i)) + 1)), (4, .int 1), (0, .ref (ad 0)), (1, .int (nI k)), (3, .int (nI i))]) hx hb dX4_suspiciousTilts_37 hl (k := 3) rfl (rfl) (by decide) rfl (fun ls hl => ?_)
        refine lv_iinc (v := 2) (lv' := [(4, .int 2), (2, .int ((qSn S k (2 * i)) + 1)), (0, .ref (ad 0)), (1, .int (nI k)), (3, .int (nI i))]) hx hb dX4_suspiciousTilts_40 hl (k := 1) rfl (by decide) (by decide) rfl (fun ls hl => ?_)
        refine lv_goto (tgt := 13) hx hb dX4_suspiciousTilts_43 (by decide) ?_
        refine lv_iload hx hb dX4_suspiciousTilts_13 (lv_at hl 0 rfl) ?_
        refine lv_iconst (v := 2) hx hb dX4_suspiciousTilts_15 (by decide) ?_
        refine lv_icmp_ge (tgt := 46) hx hb dX4_suspiciousTilts_16 (by decide) (fun _ => ?_) (fun c_16 => absurd (by decide) c_16)
        have hl : lv_has ls 5 [(4, .int 2), (2, .int (qSn S k (2 * (i + 1)))), (0, .ref (ad 0)), (1, .int (nI k)), (3, .int (nI i))] := by rw [show (qSn S k (2 * (i + 1)) : Int32) = (qSn S k (2 * i)) + 1 from (by rw [qSn2, if_neg g0, if_pos g1]; simp only [Int32.add_zero] : ((qSn S k (2 * i)) + 1 : Int32) = qSn S k (2 * (i + 1))).symm]; exact hl
        refine lv_iinc (v := nI (i + 1)) (lv' := [(3, .int (nI (i + 1))), (4, .int 2), (2, .int (qSn S k (2 * (i + 1)))), (0, .ref (ad 0)), (1, .int (nI k))]) hx hb dX4_suspiciousTilts_46 hl (k := 4) rfl (nI_1 i) (by decide) rfl (fun ls hl => ?_)
        refine lv_goto (tgt := 4) hx hb dX4_suspiciousTilts_49 (by decide) ?_
        exact ih4 (i + 1) _ _ _ (by omega) ⟨by omega, hP, hS, lv_sub hl [3, 4, 2, 0] rfl⟩
    · replace c_34 := zb1.mp c_34
      have g0 := c_34
      refine lv_iinc (v := (qSn S k (2 * i)) + 1) (lv' := [(2, .int ((qSn S k (2 * i)) + 1)), (4, .int 0), (0, .ref (ad 0)), (1, .int (nI k)), (3, .int (nI i))]) hx hb dX4_suspiciousTilts_37 hl (k := 3) rfl (rfl) (by decide) rfl (fun ls hl => ?_)
      refine lv_iinc (v := 1) (lv' := [(4, .int 1), (2, .int ((qSn S k (2 * i)) + 1)), (0, .ref (ad 0)), (1, .int (nI k)), (3, .int (nI i))]) hx hb dX4_suspiciousTilts_40 hl (k := 1) rfl (by decide) (by decide) rfl (fun ls hl => ?_)
      refine lv_goto (tgt := 13) hx hb dX4_suspiciousTilts_43 (by decide) ?_
      refine lv_iload hx hb dX4_suspiciousTilts_13 (lv_at hl 0 rfl) ?_
      refine lv_iconst (v := 2) hx hb dX4_suspiciousTilts_15 (by decide) ?_
      refine lv_icmp_ge (tgt := 46) hx hb dX4_suspiciousTilts_16 (by decide) (fun c_16 => absurd c_16 (by decide)) (fun _ => ?_)
      refine lv_aload_n hx hb dX4_suspiciousTilts_19 rfl (lv_at hl 2 rfl) ?_
      refine va_get (D := D) (ci := 4) (v := .ref (ad 54)) (C := RX4) (T := TX4) (N := 8) hx hb htg iX4 hown hK hP 0 rfl rfl 4 (by decide) (htg _ tw_101) (fun _ h9 => h9) rfl dX4_suspiciousTilts_20 ?_
      refine lv_aload_n hx hb dX4_suspiciousTilts_23 rfl (lv_at hl 2 rfl) ?_
      refine va_get (D := D) (ci := 4) (v := .ref (ad 1)) (C := RX4) (T := TX4) (N := 8) hx hb htg iX4 hown hK hP 0 rfl rfl 0 (by decide) (htg _ tw_91) (fun _ h9 => h9) rfl dX4_suspiciousTilts_24 ?_
      refine lv_iload_n hx hb dX4_suspiciousTilts_27 rfl (lv_at hl 3 rfl) ?_
      refine lv_iload_n hx hb dX4_suspiciousTilts_28 rfl (lv_at hl 4 rfl) ?_
      refine lv_iload hx hb dX4_suspiciousTilts_29 (lv_at hl 0 rfl) ?_
      refine zr_calli (va_runV (As := [.ref (ad 1), .int (nI k), .int (nI i), .int 1]) (rest := []) ⟨hx, hb, hml, hown, hts⟩ (mX0_isSuspicious l D y (fun i => ad (i + 54)) (fun i => ad (i + 1)) S cm rd td od (zOf cm) fr k i 1 (by first | assumption | rfl | omega | decide) (by first | assumption | rfl | omega | decide) (by first | assumption | rfl | omega | decide) (hC.2 k i 1 hk (by omega) (by decide))) (cwV 4 hts (zgV tw_187 tw_38 tw_39 tw_20 tw_40) rfl rfl rfl (by decide +kernel) ⟨Nat.le_of_ble_eq_true rfl, Nat.le_of_ble_eq_true rfl⟩) (zRO_preV hKN hP (ci := 0) (q0 := 8) rfl rfl [8, 9, 10, 11, 12, 13, 1, 2, 3, 4, 5, 6, 7] rfl) rfl rfl hl.1 rfl (lv_room (Nat.le_of_ble_eq_true rfl)) dX4_suspiciousTilts_31 ⟨Nat.zero_le _, Nat.zero_le _⟩) hS (fun r_3 H locs hw_31 hT hS => ?_)
      replace hP := hT _ _ hP
      obtain rfl : r_3 = (if S 6 < qOff S k i 1 then (1 : Int32) else 0) := hw_31
      refine lv_if_eq (tgt := 40) hx hb dX4_suspiciousTilts_34 (by decide) (fun c_34 => ?_) (fun c_34 => ?_)
      · replace c_34 := zb0.mp c_34
        have g1 := c_34
        refine lv_iinc (v := 2) (lv' := [(4, .int 2), (2, .int ((qSn S k (2 * i)) + 1)), (0, .ref (ad 0)), (1, .int (nI k)), (3, .int (nI i))]) hx hb dX4_suspiciousTilts_40 hl (k := 0) rfl (by decide) (by decide) rfl (fun ls hl => ?_)
        refine lv_goto (tgt := 13) hx hb dX4_suspiciousTilts_43 (by decide) ?_
        refine lv_iload hx hb dX4_suspiciousTilts_13 (lv_at hl 0 rfl) ?_
        refine lv_iconst (v := 2) hx hb dX4_suspiciousTilts_15 (by decide) ?_
        refine lv_icmp_ge (tgt := 46) hx hb dX4_suspiciousTilts_16 (by decide) (fun _ => ?_) (fun c_16 => absurd (by decide) c_16)
        have hl : lv_has ls 5 [(4, .int 2), (2, .int (qSn S k (2 * (i + 1)))), (0, .ref (ad 0)), (1, .int (nI k)), (3, .int (nI i))] := by rw [show (qSn S k (2 * (i + 1)) : Int32) = (qSn S k (2 * i)) + 1 from (by rw [qSn2, if_pos g0, if_neg g1]; simp only [Int32.add_zero] : ((qSn S k (2 * i)) + 1 : Int32) = qSn S k (2 * (i + 1))).symm]; exact hl
        refine lv_iinc (v := nI (i + 1)) (lv' := [(3, .int (nI (i + 1))), (4, .int 2), (2, .int (qSn S k (2 * (i + 1)))), (0, .ref (ad 0)), (1, .int (nI k))]) hx hb dX4_suspiciousTilts_46 hl (k := 4) rfl (nI_1 i) (by decide) rfl (fun ls hl => ?_)
        refine lv_goto (tgt := 4) hx hb dX4_suspiciousTilts_49 (by decide) ?_
        exact ih4 (i + 1) _ _ _ (by omega) ⟨by omega, hP, hS, lv_sub hl [3, 4, 2, 0] rfl⟩
      · replace c_34 := zb1.mp c_34
        have g1 := c_34
        refine lv_iinc (v := ((qSn S k (2 * i)) + 1) + 1) (lv' := [(2, .int (((qSn S k (2 * i)) + 1) + 1)), (4, .int 1), (0, .ref (ad 0)), (1, .int (nI k)), (3, .int (nI i))]) hx hb dX4_suspiciousTilts_37 hl (k := 1) rfl (rfl) (by decide) rfl (fun ls hl => ?_)
        refine lv_iinc (v := 2) (lv' := [(4, .int 2), (2, .int (((qSn S k (2 * i)) + 1) + 1)), (0, .ref (ad 0)), (1, .int (nI k)), (3, .int (nI i))]) hx hb dX4_suspiciousTilts_40 hl (k := 1) rfl (by decide) (by decide) rfl (fun ls hl => ?_)
        refine lv_goto (tgt := 13) hx hb dX4_suspiciousTilts_43 (by decide) ?_
        refine lv_iload hx hb dX4_suspiciousTilts_13 (lv_at hl 0 rfl) ?_
        refine lv_iconst (v := 2) hx hb dX4_suspiciousTilts_15 (by decide) ?_
        refine lv_icmp_ge (tgt := 46) hx hb dX4_suspiciousTilts_16 (by decide) (fun _ => ?_) (fun c_16 => absurd (by decide) c_16)
        have hl : lv_has ls 5 [(4, .int 2), (2, .int (qSn S k (2 * (i + 1)))), (0, .ref (ad 0)), (1, .int (nI k)), (3, .int (nI i))] := by rw [show (qSn S k (2 * (i + 1)) : Int32) = ((qSn S k (2 * i)) + 1) + 1 from (by rw [qSn2, if_pos g0, if_pos g1] : (((qSn S k (2 * i)) + 1) + 1 : Int32) = qSn S k (2 * (i + 1))).symm]; exact hl
        refine lv_iinc (v := nI (i + 1)) (lv' := [(3, .int (nI (i + 1))), (4, .int 2), (2, .int (qSn S k (2 * (i + 1)))), (0, .ref (ad 0)), (1, .int (nI k))]) hx hb dX4_suspiciousTilts_46 hl (k := 4) rfl (nI_1 i) (by decide) rfl (fun ls hl => ?_)
        refine lv_goto (tgt := 4) hx hb dX4_suspiciousTilts_49 (by decide) ?_
        exact ih4 (i + 1) _ _ _ (by omega) ⟨by omega, hP, hS, lv_sub hl [3, 4, 2, 0] rfl⟩

set_option maxHeartbeats 4000000 in
set_option maxRecDepth 100000 in
theorem mX4_levelFarthestOff (l : Launch) (D : va_G) (y : Nat → ClassId) (ad : Nat → Nat) (S : Nat → Int32) (bn : Int32) (cm : Nat → Int32) (rd : Nat → Int32) (td : Nat → Int32) (od : Nat → Int32) (fr : Int32) (n : Nat) (k : Nat) (hn : n ≤ 6) (hC : zCmF S cm n) (hk : k < n) : Met l yX4_levelFarthestOff (ws_ yX4_levelFarthestOff cX4_levelFarthestOff 7 (some .int)) ({ frames := 1, cells := 0, slots := 0, locals := 22 }) (va_Pc [.ref (ad 0), .int (nI k)] (zRO D y [((ad 0), .inr (4, [.ref (ad 1), .ref (ad 8), .ref (ad 9), .ref (ad 10), .ref (ad 54), .ref (ad 59), .ref (ad 60), .int bn])), ((ad 1), .inr (2, [.ref (ad 2), .ref (ad 3), .ref (ad 4), .ref (ad 5), .ref (ad 6), .ref (ad 7), .int (S 0), .int (S 1), .int (S 4), .int (S 5)])), ((ad 2), .inl (y 0, 32, .inl (zT S))), ((ad 3), .inl (y 0, 16, .inl (zU S))), ((ad 4), .inl (y 0, 2, .inl (zB S))), ((ad 5), .inl (y 0, 3, .inl (zE S))), ((ad 6), .inl (y 0, 384, .inl (zR S))), ((ad 7), .inl (y 0, 6, .inl (zY S))), ((ad 54), .inr (0, [.ref (ad 55), .ref (ad 75), .ref (ad 56), .ref (ad 57), .ref (ad 58), .int fr])), ((ad 55), .inl (y 0, 12, .inl cm)), ((ad 56), .inl (y 0, 192, .inl rd)), ((ad 57), .inl (y 0, 192, .inl td)), ((ad 58), .inl (y 0, 16, .inl od)), ((ad 75), .inl (y 0, 192, .inl (zOf cm)))])) (va_Qi (fun (r : Int32) (_ : Unit) => r = (qWl S k 32).1) (fun _ _ => True) (fun _ => False)) 0 0 (fun _ => False) := by
  refine Met.ofW (cc := cX4_levelFarthestOff) (maxL := 7) (ret := (some .int)) (by decide) rfl ?_
  intro p e s m args below meth c s₁ B hml hpre9
  obtain ⟨rfl, hP, hKN⟩ := hpre9
  have hK := hKN.1
  have hx := B.exec
  have hb := B.bytes
  have hr := B.returns
  have hts := atoms_spec (ws := (ws_ yX4_levelFarthestOff cX4_levelFarthestOff 7 (some .int))) B.pre
  have htg : ∀ w ∈ gT, w.before _ s = true := fun w h => hts w (List.mem_cons_of_mem _ h)
  have hown : s.vm.findClass RX4 = some m.cls := findClass_of_methodNamed B.named
  have hlocks := B.notSynchronized
  have hS : va_S (fun _ => False) s.heap s.heap [] := va_S.rf
  have hP : va_P D vwCl [((ad 0), .inr (4, [.ref (ad 1), .ref (ad 8), .ref (ad 9), .ref (ad 10), .ref (ad 54), .ref (ad 59), .ref (ad 60), .int bn])), ((ad 1), .inr (2, [.ref (ad 2), .ref (ad 3), .ref (ad 4), .ref (ad 5), .ref (ad 6), .ref (ad 7), .int (S 0), .int (S 1), .int (S 4), .int (S 5)])), ((ad 2), .inl (y 0, 32, .inl (zT S))), ((ad 3), .inl (y 0, 16, .inl (zU S))), ((ad 4), .inl (y 0, 2, .inl (zB S))), ((ad 5), .inl (y 0, 3, .inl (zE S))), ((ad 6), .inl (y 0, 384, .inl (zR S))), ((ad 7), .inl (y 0, 6, .inl (zY S))), ((ad 54), .inr (0, [.ref (ad 55), .ref (ad 75), .ref (ad 56), .ref (ad 57), .ref (ad 58), .int fr])), ((ad 55), .inl (y 0, 12, .inl cm)), ((ad 56), .inl (y 0, 192, .inl rd)), ((ad 57), .inl (y 0, 192, .inl td)), ((ad 58), .inl (y 0, 16, .inl od)), ((ad 75), .inl (y 0, 192, .inl (zOf cm)))] s.heap := hP
  have hl := lv_entry ([.ref (ad 0), .int (nI k)]) (n := 7) (Nat.le_of_ble_eq_true rfl)
  rw [lg_entry_eq]
  generalize (lg_sl ([.ref (ad 0), .int (nI k)]) ++ List.replicate (7 - (lg_sl ([.ref (ad 0), .int (nI k)])).length) Slot.unset).toArray = ls at hl ⊢
  have hl : lv_has ls 7 [(0, .ref (ad 0)), (1, .int (nI k))] := hl
  refine lv_iconst (v := 0) hx hb dX4_levelFarthestOff_0 (by decide) ?_
  refine lv_istore_n (lv' := [(2, .int 0), (0, .ref (ad 0)), (1, .int (nI k))]) hx hb dX4_levelFarthestOff_1 rfl hl (by decide) rfl (fun ls hl => ?_)
  refine lv_iconst (v := 0) hx hb dX4_levelFarthestOff_2 (by decide) ?_
  refine lv_istore_n (lv' := [(3, .int 0), (2, .int 0), (0, .ref (ad 0)), (1, .int (nI k))]) hx hb dX4_levelFarthestOff_3 rfl hl (by decide) rfl (fun ls hl => ?_)
  refine lv_iconst (v := 0) hx hb dX4_levelFarthestOff_4 (by decide) ?_
  refine lv_istore (lv' := [(4, .int 0), (3, .int 0), (2, .int 0), (0, .ref (ad 0)), (1, .int (nI k))]) hx hb dX4_levelFarthestOff_5 hl (by decide) rfl (fun ls hl => ?_)
  refine zloop (fun i : Nat => 16 - i) (fun i H locs ls => i ≤ 16 ∧ va_P D vwCl [((ad 0), .inr (4, [.ref (ad 1), .ref (ad 8), .ref (ad 9), .ref (ad 10), .ref (ad 54), .ref (ad 59), .ref (ad 60), .int bn])), ((ad 1), .inr (2, [.ref (ad 2), .ref (ad 3), .ref (ad 4), .ref (ad 5), .ref (ad 6), .ref (ad 7), .int (S 0), .int (S 1), .int (S 4), .int (S 5)])), ((ad 2), .inl (y 0, 32, .inl (zT S))), ((ad 3), .inl (y 0, 16, .inl (zU S))), ((ad 4), .inl (y 0, 2, .inl (zB S))), ((ad 5), .inl (y 0, 3, .inl (zE S))), ((ad 6), .inl (y 0, 384, .inl (zR S))), ((ad 7), .inl (y 0, 6, .inl (zY S))), ((ad 54), .inr (0, [.ref (ad 55), .ref (ad 75), .ref (ad 56), .ref (ad 57), .ref (ad 58), .int fr])), ((ad 55), .inl (y 0, 12, .inl cm)), ((ad 56), .inl (y 0, 192, .inl rd)), ((ad 57), .inl (y 0, 192, .inl td)), ((ad 58), .inl (y 0, 16, .inl od)), ((ad 75), .inl (y 0, 192, .inl (zOf cm)))] H ∧ va_S (fun _ => False) s.heap H locs ∧ lv_has ls 7 [(0, .ref (ad 0)), (1, .int (nI k)), (2, .int ((qWl S k (2 * i)).2)), (3, .int ((qWl S k (2 * i)).1)), (4, .int (nI i))]) 7 (fun _ => 0) (fun _ => 0) ?_ (0) ⟨by omega, hP, hS, lv_sub hl [3, 4, 2, 1, 0] rfl⟩
  clear hl hS hP
  rintro i H locs ls ⟨hi, hP, hS, hl⟩ ih7
  refine lv_iload hx hb dX4_levelFarthestOff_7 (lv_at hl 4 rfl) ?_
  refine lv_bipush (v := 16) hx hb dX4_levelFarthestOff_9 (by decide) ?_
  refine lv_icmp_ge (tgt := 65) hx hb dX4_levelFarthestOff_11 (by decide) (fun c_11 => ?_) (fun c_11 => ?_)
  · replace c_11 : 16 ≤ i := (nI_leI (a := 16) (b := i) (by omega) (by omega)).mp c_11
    have e8 : i = 16 := by omega
    refine lv_iload_n hx hb dX4_levelFarthestOff_65 rfl (lv_at hl 3 rfl) ?_
    exact W.iret (v := ((qWl S k (2 * i)).1)) hx hb hr (fun t ht hW => ⟨⟨(qWl S k (2 * i)).1, (), rfl, congrArg (fun j => (qWl S k j).1) (by omega), trivial⟩, hS.F ht⟩) hS.2.2 dX4_levelFarthestOff_66
  · replace c_11 : ¬ 16 ≤ i := fun h => c_11 ((nI_leI (a := 16) (b := i) (by omega) (by omega)).mpr h)
    refine lv_iconst (v := 0) hx hb dX4_levelFarthestOff_14 (by decide) ?_
    refine lv_istore (lv' := [(5, .int 0), (0, .ref (ad 0)), (1, .int (nI k)), (2, .int ((qWl S k (2 * i)).2)), (3, .int ((qWl S k (2 * i)).1)), (4, .int (nI i))]) hx hb dX4_levelFarthestOff_15 hl (by decide) rfl (fun ls hl => ?_)
    refine lv_iload hx hb dX4_levelFarthestOff_17 (lv_at hl 0 rfl) ?_
    refine lv_iconst (v := 2) hx hb dX4_levelFarthestOff_19 (by decide) ?_
    refine lv_icmp_ge (tgt := 59) hx hb dX4_levelFarthestOff_20 (by decide) (fun c_20 => absurd c_20 (by decide)) (fun _ => ?_)
    refine lv_aload_n hx hb dX4_levelFarthestOff_23 rfl (lv_at hl 1 rfl) ?_
    refine va_get (D := D) (ci := 4) (v := .ref (ad 54)) (C := RX4) (T := TX4) (N := 8) hx hb htg iX4 hown hK hP 0 rfl rfl 4 (by decide) (htg _ tw_101) (fun _ h9 => h9) rfl dX4_levelFarthestOff_24 ?_
    refine va_get (D := D) (ci := 0) (v := .ref (ad 75)) (C := RX0) (T := TX0) (N := 6) hx hb htg iX0 hown hK hP 8 rfl rfl 1 (by decide) (htg _ tw_199) (fun _ h9 => h9) rfl dX4_levelFarthestOff_27 ?_
    refine lv_iload_n hx hb dX4_levelFarthestOff_30 rfl (lv_at hl 2 rfl) ?_
    refine lv_iload hx hb dX4_levelFarthestOff_31 (lv_at hl 5 rfl) ?_
    refine lv_iload hx hb dX4_levelFarthestOff_33 (lv_at hl 0 rfl) ?_
    refine zr_calli (va_runS (As := [.int (nI k), .int (nI i), .int 0]) (rest := [.ref (ad 75)]) ⟨hx, hb, hml, hown, hts⟩ (mX4_tiltAt l k i 0) (va_cwS 3 hts (zgS tw_188 tw_29 tw_23 tw_30) rfl rfl rfl (by decide +kernel) ⟨Nat.le_of_ble_eq_true rfl, Nat.le_of_ble_eq_true rfl⟩) zP_pre rfl rfl hl.1 rfl (lv_room (Nat.le_of_ble_eq_true rfl)) dX4_levelFarthestOff_35 ⟨Nat.zero_le _, Nat.zero_le _⟩) hS (fun r_1 H locs hw_35 hT hS => ?_)
    replace hP := hT _ _ hP
    obtain rfl : r_1 = nI (32 * k + 2 * i + 0) := hw_35
    refine va_iald hx hb hK hP 13 0 rfl rfl (vp_in_nI (by omega) (by decide)) dX4_levelFarthestOff_38 ?_
    refine zz_top (y := (zOf cm) (32 * k + 2 * i + 0)) (congrArg (zOf cm) (nI_clamp (by omega))) ?_
    refine zz_top (y := qOff S k i 0) (hC.2 k i 0 hk (by omega) (by decide)) ?_
    refine lv_istore (lv' := [(6, .int (qOff S k i 0)), (5, .int 0), (0, .ref (ad 0)), (1, .int (nI k)), (2, .int ((qWl S k (2 * i)).2)), (3, .int ((qWl S k (2 * i)).1)), (4, .int (nI i))]) hx hb dX4_levelFarthestOff_39 hl (by decide) rfl (fun ls hl => ?_)
    refine lv_iload hx hb dX4_levelFarthestOff_41 (lv_at hl 0 rfl) ?_
    refine lv_iload_n hx hb dX4_levelFarthestOff_43 rfl (lv_at hl 4 rfl) ?_
    refine lv_icmp_le (tgt := 53) hx hb dX4_levelFarthestOff_44 (by decide) (fun c_44 => ?_) (fun c_44 => ?_)
    · have hl : lv_has ls 7 [(6, .int (qOff S k i 0)), (5, .int 0), (0, .ref (ad 0)), (1, .int (nI k)), (2, .int ((qWl S k (2 * i + 1)).2)), (3, .int ((qWl S k (2 * i)).1)), (4, .int (nI i))] := by rw [show ((qWl S k (2 * i + 1)).2 : Int32) = (qWl S k (2 * i)).2 from (by rw [(show qWl S k (2 * i + 1) = qWl S k (2 * i) from by rw [show 2 * i + 1 = 2 * i + 1 from by omega]; exact qWl_no (by omega) (by omega) (zz_le c_44))] : ((qWl S k (2 * i)).2 : Int32) = (qWl S k (2 * i + 1)).2).symm]; exact hl
      have hl : lv_has ls 7 [(6, .int (qOff S k i 0)), (5, .int 0), (0, .ref (ad 0)), (1, .int (nI k)), (2, .int ((qWl S k (2 * i + 1)).2)), (3, .int ((qWl S k (2 * i + 1)).1)), (4, .int (nI i))] := by rw [show ((qWl S k (2 * i + 1)).1 : Int32) = (qWl S k (2 * i)).1 from (by rw [(show qWl S k (2 * i + 1) = qWl S k (2 * i) from by rw [show 2 * i + 1 = 2 * i + 1 from by omega]; exact qWl_no (by omega) (by omega) (zz_le c_44))] : ((qWl S k (2 * i)).1 : Int32) = (qWl S k (2 * i + 1)).1).symm]; exact hl
      refine lv_iinc (v := 1) (lv' := [(5, .int 1), (6, .int (qOff S k i 0)), (0, .ref (ad 0)), (1, .int (nI k)), (2, .int ((qWl S k (2 * i + 1)).2)), (3, .int ((qWl S k (2 * i + 1)).1)), (4, .int (nI i))]) hx hb dX4_levelFarthestOff_53 hl (k := 1) rfl (by decide) (by decide) rfl (fun ls hl => ?_)
      refine lv_goto (tgt := 17) hx hb dX4_levelFarthestOff_56 (by decide) ?_
      refine lv_iload hx hb dX4_levelFarthestOff_17 (lv_at hl 0 rfl) ?_
      refine lv_iconst (v := 2) hx hb dX4_levelFarthestOff_19 (by decide) ?_
      refine lv_icmp_ge (tgt := 59) hx hb dX4_levelFarthestOff_20 (by decide) (fun c_20 => absurd c_20 (by decide)) (fun _ => ?_)
      refine lv_aload_n hx hb dX4_levelFarthestOff_23 rfl (lv_at hl 2 rfl) ?_
      refine va_get (D := D) (ci := 4) (v := .ref (ad 54)) (C := RX4) (T := TX4) (N := 8) hx hb htg iX4 hown hK hP 0 rfl rfl 4 (by decide) (htg _ tw_101) (fun _ h9 => h9) rfl dX4_levelFarthestOff_24 ?_
      refine va_get (D := D) (ci := 0) (v := .ref (ad 75)) (C := RX0) (T := TX0) (N := 6) hx hb htg iX0 hown hK hP 8 rfl rfl 1 (by decide) (htg _ tw_199) (fun _ h9 => h9) rfl dX4_levelFarthestOff_27 ?_
      refine lv_iload_n hx hb dX4_levelFarthestOff_30 rfl (lv_at hl 3 rfl) ?_
      refine lv_iload hx hb dX4_levelFarthestOff_31 (lv_at hl 6 rfl) ?_
      refine lv_iload hx hb dX4_levelFarthestOff_33 (lv_at hl 0 rfl) ?_
      refine zr_calli (va_runS (As := [.int (nI k), .int (nI i), .int 1]) (rest := [.ref (ad 75)]) ⟨hx, hb, hml, hown, hts⟩ (mX4_tiltAt l k i 1) (va_cwS 3 hts (zgS tw_188 tw_29 tw_23 tw_30) rfl rfl rfl (by decide +kernel) ⟨Nat.le_of_ble_eq_true rfl, Nat.le_of_ble_eq_true rfl⟩) zP_pre rfl rfl hl.1 rfl (lv_room (Nat.le_of_ble_eq_true rfl)) dX4_levelFarthestOff_35 ⟨Nat.zero_le _, Nat.zero_le _⟩) hS (fun r_2 H locs hw_35 hT hS => ?_)
      replace hP := hT _ _ hP
      obtain rfl : r_2 = nI (32 * k + 2 * i + 1) := hw_35
      refine va_iald hx hb hK hP 13 0 rfl rfl (vp_in_nI (by omega) (by decide)) dX4_levelFarthestOff_38 ?_
      refine zz_top (y := (zOf cm) (32 * k + 2 * i + 1)) (congrArg (zOf cm) (nI_clamp (by omega))) ?_
      refine zz_top (y := qOff S k i 1) (hC.2 k i 1 hk (by omega) (by decide)) ?_
      refine lv_istore (lv' := [(6, .int (qOff S k i 1)), (5, .int 1), (0, .ref (ad 0)), (1, .int (nI k)), (2, .int ((qWl S k (2 * i + 1)).2)), (3, .int ((qWl S k (2 * i + 1)).1)), (4, .int (nI i))]) hx hb dX4_levelFarthestOff_39 hl (by decide) rfl (fun ls hl => ?_)
      refine lv_iload hx hb dX4_levelFarthestOff_41 (lv_at hl 0 rfl) ?_
      refine lv_iload_n hx hb dX4_levelFarthestOff_43 rfl (lv_at hl 4 rfl) ?_
      refine lv_icmp_le (tgt := 53) hx hb dX4_levelFarthestOff_44 (by decide) (fun c_44 => ?_) (fun c_44 => ?_)
      · have hl : lv_has ls 7 [(6, .int (qOff S k i 1)), (5, .int 1), (0, .ref (ad 0)), (1, .int (nI k)), (2, .int ((qWl S k (2 * (i + 1))).2)), (3, .int ((qWl S k (2 * i + 1)).1)), (4, .int (nI i))] := by rw [show ((qWl S k (2 * (i + 1))).2 : Int32) = (qWl S k (2 * i + 1)).2 from (by rw [(show qWl S k (2 * (i + 1)) = qWl S k (2 * i + 1) from by rw [show 2 * (i + 1) = 2 * i + 1 + 1 from by omega]; exact qWl_no (by omega) (by omega) (zz_le c_44))] : ((qWl S k (2 * i + 1)).2 : Int32) = (qWl S k (2 * (i + 1))).2).symm]; exact hl
        have hl : lv_has ls 7 [(6, .int (qOff S k i 1)), (5, .int 1), (0, .ref (ad 0)), (1, .int (nI k)), (2, .int ((qWl S k (2 * (i + 1))).2)), (3, .int ((qWl S k (2 * (i + 1))).1)), (4, .int (nI i))] := by rw [show ((qWl S k (2 * (i + 1))).1 : Int32) = (qWl S k (2 * i + 1)).1 from (by rw [(show qWl S k (2 * (i + 1)) = qWl S k (2 * i + 1) from by rw [show 2 * (i + 1) = 2 * i + 1 + 1 from by omega]; exact qWl_no (by omega) (by omega) (zz_le c_44))] : ((qWl S k (2 * i + 1)).1 : Int32) = (qWl S k (2 * (i + 1))).1).symm]; exact hl
        refine lv_iinc (v := 2) (lv' := [(5, .int 2), (6, .int (qOff S k i 1)), (0, .ref (ad 0)), (1, .int (nI k)), (2, .int ((qWl S k (2 * (i + 1))).2)), (3, .int ((qWl S k (2 * (i + 1))).1)), (4, .int (nI i))]) hx hb dX4_levelFarthestOff_53 hl (k := 1) rfl (by decide) (by decide) rfl (fun ls hl => ?_)
        refine lv_goto (tgt := 17) hx hb dX4_levelFarthestOff_56 (by decide) ?_
        refine lv_iload hx hb dX4_levelFarthestOff_17 (lv_at hl 0 rfl) ?_
        refine lv_iconst (v := 2) hx hb dX4_levelFarthestOff_19 (by decide) ?_
        refine lv_icmp_ge (tgt := 59) hx hb dX4_levelFarthestOff_20 (by decide) (fun _ => ?_) (fun c_20 => absurd (by decide) c_20)
        refine lv_iinc (v := nI (i + 1)) (lv' := [(4, .int (nI (i + 1))), (5, .int 2), (6, .int (qOff S k i 1)), (0, .ref (ad 0)), (1, .int (nI k)), (2, .int ((qWl S k (2 * (i + 1))).2)), (3, .int ((qWl S k (2 * (i + 1))).1))]) hx hb dX4_levelFarthestOff_59 hl (k := 6) rfl (nI_1 i) (by decide) rfl (fun ls hl => ?_)
        refine lv_goto (tgt := 7) hx hb dX4_levelFarthestOff_62 (by decide) ?_
        exact ih7 (i + 1) _ _ _ (by omega) ⟨by omega, hP, hS, lv_sub hl [3, 4, 5, 6, 0] rfl⟩
      · refine lv_iload hx hb dX4_levelFarthestOff_47 (lv_at hl 0 rfl) ?_
        refine lv_istore_n (lv' := [(2, .int (qOff S k i 1)), (6, .int (qOff S k i 1)), (5, .int 1), (0, .ref (ad 0)), (1, .int (nI k)), (3, .int ((qWl S k (2 * i + 1)).1)), (4, .int (nI i))]) hx hb dX4_levelFarthestOff_49 rfl hl (by decide) rfl (fun ls hl => ?_)
        refine lv_iload hx hb dX4_levelFarthestOff_50 (lv_at hl 6 rfl) ?_
        refine lv_istore_n (lv' := [(3, .int (nI i)), (2, .int (qOff S k i 1)), (6, .int (qOff S k i 1)), (5, .int 1), (0, .ref (ad 0)), (1, .int (nI k)), (4, .int (nI i))]) hx hb dX4_levelFarthestOff_52 rfl hl (by decide) rfl (fun ls hl => ?_)
        have hl : lv_has ls 7 [(3, .int (nI i)), (2, .int ((qWl S k (2 * (i + 1))).2)), (6, .int (qOff S k i 1)), (5, .int 1), (0, .ref (ad 0)), (1, .int (nI k)), (4, .int (nI i))] := by rw [show ((qWl S k (2 * (i + 1))).2 : Int32) = qOff S k i 1 from (by rw [(show qWl S k (2 * (i + 1)) = (nI i, qOff S k i 1) from by rw [show 2 * (i + 1) = 2 * i + 1 + 1 from by omega]; exact qWl_yes (by omega) (by omega) (zz_lt c_44))] : (qOff S k i 1 : Int32) = (qWl S k (2 * (i + 1))).2).symm]; exact hl
        have hl : lv_has ls 7 [(3, .int ((qWl S k (2 * (i + 1))).1)), (2, .int ((qWl S k (2 * (i + 1))).2)), (6, .int (qOff S k i 1)), (5, .int 1), (0, .ref (ad 0)), (1, .int (nI k)), (4, .int (nI i))] := by rw [show ((qWl S k (2 * (i + 1))).1 : Int32) = nI i from (by rw [(show qWl S k (2 * (i + 1)) = (nI i, qOff S k i 1) from by rw [show 2 * (i + 1) = 2 * i + 1 + 1 from by omega]; exact qWl_yes (by omega) (by omega) (zz_lt c_44))] : (nI i : Int32) = (qWl S k (2 * (i + 1))).1).symm]; exact hl
        refine lv_iinc (v := 2) (lv' := [(5, .int 2), (3, .int ((qWl S k (2 * (i + 1))).1)), (2, .int ((qWl S k (2 * (i + 1))).2)), (6, .int (qOff S k i 1)), (0, .ref (ad 0)), (1, .int (nI k)), (4, .int (nI i))]) hx hb dX4_levelFarthestOff_53 hl (k := 3) rfl (by decide) (by decide) rfl (fun ls hl => ?_)
        refine lv_goto (tgt := 17) hx hb dX4_levelFarthestOff_56 (by decide) ?_
        refine lv_iload hx hb dX4_levelFarthestOff_17 (lv_at hl 0 rfl) ?_
        refine lv_iconst (v := 2) hx hb dX4_levelFarthestOff_19 (by decide) ?_
        refine lv_icmp_ge (tgt := 59) hx hb dX4_levelFarthestOff_20 (by decide) (fun _ => ?_) (fun c_20 => absurd (by decide) c_20)
        refine lv_iinc (v := nI (i + 1)) (lv' := [(4, .int (nI (i + 1))), (5, .int 2), (3, .int ((qWl S k (2 * (i + 1))).1)), (2, .int ((qWl S k (2 * (i + 1))).2)), (6, .int (qOff S k i 1)), (0, .ref (ad 0)), (1, .int (nI k))]) hx hb dX4_levelFarthestOff_59 hl (k := 6) rfl (nI_1 i) (by decide) rfl (fun ls hl => ?_)
        refine lv_goto (tgt := 7) hx hb dX4_levelFarthestOff_62 (by decide) ?_
        exact ih7 (i + 1) _ _ _ (by omega) ⟨by omega, hP, hS, lv_sub hl [5, 6, 3, 2, 0] rfl⟩
    · refine lv_iload hx hb dX4_levelFarthestOff_47 (lv_at hl 0 rfl) ?_
      refine lv_istore_n (lv' := [(2, .int (qOff S k i 0)), (6, .int (qOff S k i 0)), (5, .int 0), (0, .ref (ad 0)), (1, .int (nI k)), (3, .int ((qWl S k (2 * i)).1)), (4, .int (nI i))]) hx hb dX4_levelFarthestOff_49 rfl hl (by decide) rfl (fun ls hl => ?_)
      refine lv_iload hx hb dX4_levelFarthestOff_50 (lv_at hl 6 rfl) ?_
      refine lv_istore_n (lv' := [(3, .int (nI i)), (2, .int (qOff S k i 0)), (6, .int (qOff S k i 0)), (5, .int 0), (0, .ref (ad 0)), (1, .int (nI k)), (4, .int (nI i))]) hx hb dX4_levelFarthestOff_52 rfl hl (by decide) rfl (fun ls hl => ?_)
      have hl : lv_has ls 7 [(3, .int (nI i)), (2, .int ((qWl S k (2 * i + 1)).2)), (6, .int (qOff S k i 0)), (5, .int 0), (0, .ref (ad 0)), (1, .int (nI k)), (4, .int (nI i))] := by rw [show ((qWl S k (2 * i + 1)).2 : Int32) = qOff S k i 0 from (by rw [(show qWl S k (2 * i + 1) = (nI i, qOff S k i 0) from by rw [show 2 * i + 1 = 2 * i + 1 from by omega]; exact qWl_yes (by omega) (by omega) (zz_lt c_44))] : (qOff S k i 0 : Int32) = (qWl S k (2 * i + 1)).2).symm]; exact hl
      have hl : lv_has ls 7 [(3, .int ((qWl S k (2 * i + 1)).1)), (2, .int ((qWl S k (2 * i + 1)).2)), (6, .int (qOff S k i 0)), (5, .int 0), (0, .ref (ad 0)), (1, .int (nI k)), (4, .int (nI i))] := by rw [show ((qWl S k (2 * i + 1)).1 : Int32) = nI i from (by rw [(show qWl S k (2 * i + 1) = (nI i, qOff S k i 0) from by rw [show 2 * i + 1 = 2 * i + 1 from by omega]; exact qWl_yes (by omega) (by omega) (zz_lt c_44))] : (nI i : Int32) = (qWl S k (2 * i + 1)).1).symm]; exact hl
      refine lv_iinc (v := 1) (lv' := [(5, .int 1), (3, .int ((qWl S k (2 * i + 1)).1)), (2, .int ((qWl S k (2 * i + 1)).2)), (6, .int (qOff S k i 0)), (0, .ref (ad 0)), (1, .int (nI k)), (4, .int (nI i))]) hx hb dX4_levelFarthestOff_53 hl (k := 3) rfl (by decide) (by decide) rfl (fun ls hl => ?_)
      refine lv_goto (tgt := 17) hx hb dX4_levelFarthestOff_56 (by decide) ?_
      refine lv_iload hx hb dX4_levelFarthestOff_17 (lv_at hl 0 rfl) ?_
      refine lv_iconst (v := 2) hx hb dX4_levelFarthestOff_19 (by decide) ?_
      refine lv_icmp_ge (tgt := 59) hx hb dX4_levelFarthestOff_20 (by decide) (fun c_20 => absurd c_20 (by decide)) (fun _ => ?_)
      refine lv_aload_n hx hb dX4_levelFarthestOff_23 rfl (lv_at hl 4 rfl) ?_
      refine va_get (D := D) (ci := 4) (v := .ref (ad 54)) (C := RX4) (T := TX4) (N := 8) hx hb htg iX4 hown hK hP 0 rfl rfl 4 (by decide) (htg _ tw_101) (fun _ h9 => h9) rfl dX4_levelFarthestOff_24 ?_
      refine va_get (D := D) (ci := 0) (v := .ref (ad 75)) (C := RX0) (T := TX0) (N := 6) hx hb htg iX0 hown hK hP 8 rfl rfl 1 (by decide) (htg _ tw_199) (fun _ h9 => h9) rfl dX4_levelFarthestOff_27 ?_
      refine lv_iload_n hx hb dX4_levelFarthestOff_30 rfl (lv_at hl 5 rfl) ?_
      refine lv_iload hx hb dX4_levelFarthestOff_31 (lv_at hl 6 rfl) ?_
      refine lv_iload hx hb dX4_levelFarthestOff_33 (lv_at hl 0 rfl) ?_
      refine zr_calli (va_runS (As := [.int (nI k), .int (nI i), .int 1]) (rest := [.ref (ad 75)]) ⟨hx, hb, hml, hown, hts⟩ (mX4_tiltAt l k i 1) (va_cwS 3 hts (zgS tw_188 tw_29 tw_23 tw_30) rfl rfl rfl (by decide +kernel) ⟨Nat.le_of_ble_eq_true rfl, Nat.le_of_ble_eq_true rfl⟩) zP_pre rfl rfl hl.1 rfl (lv_room (Nat.le_of_ble_eq_true rfl)) dX4_levelFarthestOff_35 ⟨Nat.zero_le _, Nat.zero_le _⟩) hS (fun r_3 H locs hw_35 hT hS => ?_)
      replace hP := hT _ _ hP
      obtain rfl : r_3 = nI (32 * k + 2 * i + 1) := hw_35
      refine va_iald hx hb hK hP 13 0 rfl rfl (vp_in_nI (by omega) (by decide)) dX4_levelFarthestOff_38 ?_
      refine zz_top (y := (zOf cm) (32 * k + 2 * i + 1)) (congrArg (zOf cm) (nI_clamp (by omega))) ?_
      refine zz_top (y := qOff S k i 1) (hC.2 k i 1 hk (by omega) (by decide)) ?_
      refine lv_istore (lv' := [(6, .int (qOff S k i 1)), (5, .int 1), (3, .int ((qWl S k (2 * i + 1)).1)), (2, .int ((qWl S k (2 * i + 1)).2)), (0, .ref (ad 0)), (1, .int (nI k)), (4, .int (nI i))]) hx hb dX4_levelFarthestOff_39 hl (by decide) rfl (fun ls hl => ?_)
      refine lv_iload hx hb dX4_levelFarthestOff_41 (lv_at hl 0 rfl) ?_
      refine lv_iload_n hx hb dX4_levelFarthestOff_43 rfl (lv_at hl 3 rfl) ?_
      refine lv_icmp_le (tgt := 53) hx hb dX4_levelFarthestOff_44 (by decide) (fun c_44 => ?_) (fun c_44 => ?_)
      · have hl : lv_has ls 7 [(6, .int (qOff S k i 1)), (5, .int 1), (3, .int ((qWl S k (2 * i + 1)).1)), (2, .int ((qWl S k (2 * (i + 1))).2)), (0, .ref (ad 0)), (1, .int (nI k)), (4, .int (nI i))] := by rw [show ((qWl S k (2 * (i + 1))).2 : Int32) = (qWl S k (2 * i + 1)).2 from (by rw [(show qWl S k (2 * (i + 1)) = qWl S k (2 * i + 1) from by rw [show 2 * (i + 1) = 2 * i + 1 + 1 from by omega]; exact qWl_no (by omega) (by omega) (zz_le c_44))] : ((qWl S k (2 * i + 1)).2 : Int32) = (qWl S k (2 * (i + 1))).2).symm]; exact hl
        have hl : lv_has ls 7 [(6, .int (qOff S k i 1)), (5, .int 1), (3, .int ((qWl S k (2 * (i + 1))).1)), (2, .int ((qWl S k (2 * (i + 1))).2)), (0, .ref (ad 0)), (1, .int (nI k)), (4, .int (nI i))] := by rw [show ((qWl S k (2 * (i + 1))).1 : Int32) = (qWl S k (2 * i + 1)).1 from (by rw [(show qWl S k (2 * (i + 1)) = qWl S k (2 * i + 1) from by rw [show 2 * (i + 1) = 2 * i + 1 + 1 from by omega]; exact qWl_no (by omega) (by omega) (zz_le c_44))] : ((qWl S k (2 * i + 1)).1 : Int32) = (qWl S k (2 * (i + 1))).1).symm]; exact hl
        refine lv_iinc (v := 2) (lv' := [(5, .int 2), (6, .int (qOff S k i 1)), (3, .int ((qWl S k (2 * (i + 1))).1)), (2, .int ((qWl S k (2 * (i + 1))).2)), (0, .ref (ad 0)), (1, .int (nI k)), (4, .int (nI i))]) hx hb dX4_levelFarthestOff_53 hl (k := 1) rfl (by decide) (by decide) rfl (fun ls hl => ?_)
        refine lv_goto (tgt := 17) hx hb dX4_levelFarthestOff_56 (by decide) ?_
        refine lv_iload hx hb dX4_levelFarthestOff_17 (lv_at hl 0 rfl) ?_
        refine lv_iconst (v := 2) hx hb dX4_levelFarthestOff_19 (by decide) ?_
        refine lv_icmp_ge (tgt := 59) hx hb dX4_levelFarthestOff_20 (by decide) (fun _ => ?_) (fun c_20 => absurd (by decide) c_20)
        refine lv_iinc (v := nI (i + 1)) (lv' := [(4, .int (nI (i + 1))), (5, .int 2), (6, .int (qOff S k i 1)), (3, .int ((qWl S k (2 * (i + 1))).1)), (2, .int ((qWl S k (2 * (i + 1))).2)), (0, .ref (ad 0)), (1, .int (nI k))]) hx hb dX4_levelFarthestOff_59 hl (k := 6) rfl (nI_1 i) (by decide) rfl (fun ls hl => ?_)
        refine lv_goto (tgt := 7) hx hb dX4_levelFarthestOff_62 (by decide) ?_
        exact ih7 (i + 1) _ _ _ (by omega) ⟨by omega, hP, hS, lv_sub hl [5, 6, 4, 3, 0] rfl⟩
      · refine lv_iload hx hb dX4_levelFarthestOff_47 (lv_at hl 0 rfl) ?_
        refine lv_istore_n (lv' := [(2, .int (qOff S k i 1)), (6, .int (qOff S k i 1)), (5, .int 1), (3, .int ((qWl S k (2 * i + 1)).1)), (0, .ref (ad 0)), (1, .int (nI k)), (4, .int (nI i))]) hx hb dX4_levelFarthestOff_49 rfl hl (by decide) rfl (fun ls hl => ?_)
        refine lv_iload hx hb dX4_levelFarthestOff_50 (lv_at hl 6 rfl) ?_
        refine lv_istore_n (lv' := [(3, .int (nI i)), (2, .int (qOff S k i 1)), (6, .int (qOff S k i 1)), (5, .int 1), (0, .ref (ad 0)), (1, .int (nI k)), (4, .int (nI i))]) hx hb dX4_levelFarthestOff_52 rfl hl (by decide) rfl (fun ls hl => ?_)
        have hl : lv_has ls 7 [(3, .int (nI i)), (2, .int ((qWl S k (2 * (i + 1))).2)), (6, .int (qOff S k i 1)), (5, .int 1), (0, .ref (ad 0)), (1, .int (nI k)), (4, .int (nI i))] := by rw [show ((qWl S k (2 * (i + 1))).2 : Int32) = qOff S k i 1 from (by rw [(show qWl S k (2 * (i + 1)) = (nI i, qOff S k i 1) from by rw [show 2 * (i + 1) = 2 * i + 1 + 1 from by omega]; exact qWl_yes (by omega) (by omega) (zz_lt c_44))] : (qOff S k i 1 : Int32) = (qWl S k (2 * (i + 1))).2).symm]; exact hl
        have hl : lv_has ls 7 [(3, .int ((qWl S k (2 * (i + 1))).1)), (2, .int ((qWl S k (2 * (i + 1))).2)), (6, .int (qOff S k i 1)), (5, .int 1), (0, .ref (ad 0)), (1, .int (nI k)), (4, .int (nI i))] := by rw [show ((qWl S k (2 * (i + 1))).1 : Int32) = nI i from (by rw [(show qWl S k (2 * (i + 1)) = (nI i, qOff S k i 1) from by rw [show 2 * (i + 1) = 2 * i + 1 + 1 from by omega]; exact qWl_yes (by omega) (by omega) (zz_lt c_44))] : (nI i : Int32) = (qWl S k (2 * (i + 1))).1).symm]; exact hl
        refine lv_iinc (v := 2) (lv' := [(5, .int 2), (3, .int ((qWl S k (2 * (i + 1))).1)), (2, .int ((qWl S k (2 * (i + 1))).2)), (6, .int (qOff S k i 1)), (0, .ref (ad 0)), (1, .int (nI k)), (4, .int (nI i))]) hx hb dX4_levelFarthestOff_53 hl (k := 3) rfl (by decide) (by decide) rfl (fun ls hl => ?_)
        refine lv_goto (tgt := 17) hx hb dX4_levelFarthestOff_56 (by decide) ?_
        refine lv_iload hx hb dX4_levelFarthestOff_17 (lv_at hl 0 rfl) ?_
        refine lv_iconst (v := 2) hx hb dX4_levelFarthestOff_19 (by decide) ?_
        refine lv_icmp_ge (tgt := 59) hx hb dX4_levelFarthestOff_20 (by decide) (fun _ => ?_) (fun c_20 => absurd (by decide) c_20)
        refine lv_iinc (v := nI (i + 1)) (lv' := [(4, .int (nI (i + 1))), (5, .int 2), (3, .int ((qWl S k (2 * (i + 1))).1)), (2, .int ((qWl S k (2 * (i + 1))).2)), (6, .int (qOff S k i 1)), (0, .ref (ad 0)), (1, .int (nI k))]) hx hb dX4_levelFarthestOff_59 hl (k := 6) rfl (nI_1 i) (by decide) rfl (fun ls hl => ?_)
        refine lv_goto (tgt := 7) hx hb dX4_levelFarthestOff_62 (by decide) ?_
        exact ih7 (i + 1) _ _ _ (by omega) ⟨by omega, hP, hS, lv_sub hl [5, 6, 3, 2, 0] rfl⟩
