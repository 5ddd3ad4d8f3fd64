set_option maxHeartbeats 4000000 in
set_option maxRecDepth 100000 in
theorem mX0_isSuspicious (l : Launch) (D : va_G) (y : Nat → ClassId) (fa : Nat → Nat) (a : Nat → Nat) (S : Nat → Int32) (cm : Nat → Int32) (rd : Nat → Int32) (td : Nat → Int32) (od : Nat → Int32) (of : Nat → Int32) (fr : Int32) (k : Nat) (v : Nat) (o : Nat) (hk : k < 6) (hv : v < 16) (ho : o < 2) (hof : of (32 * k + 2 * v + o) = qOff S k v o) : Met l yX0_isSuspicious (ws_ yX0_isSuspicious cX0_isSuspicious 5 (some .boolean)) ({ frames := 1, cells := 0, slots := 0, locals := 22 }) (va_Pc [.ref (fa 0), .ref (a 0), .int (nI k), .int (nI v), .int (nI o)] (zRO D y [((fa 0), .inr (0, [.ref (fa 1), .ref (fa 21), .ref (fa 2), .ref (fa 3), .ref (fa 4), .int fr])), ((fa 1), .inl (y 0, 12, .inl cm)), ((fa 2), .inl (y 0, 192, .inl rd)), ((fa 3), .inl (y 0, 192, .inl td)), ((fa 4), .inl (y 0, 16, .inl od)), ((fa 21), .inl (y 0, 192, .inl of)), ((a 0), .inr (2, [.ref (a 1), .ref (a 2), .ref (a 3), .ref (a 4), .ref (a 5), .ref (a 6), .int (S 0), .int (S 1), .int (S 4), .int (S 5)])), ((a 1), .inl (y 0, 32, .inl (zT S))), ((a 2), .inl (y 0, 16, .inl (zU S))), ((a 3), .inl (y 0, 2, .inl (zB S))), ((a 4), .inl (y 0, 3, .inl (zE S))), ((a 5), .inl (y 0, 384, .inl (zR S))), ((a 6), .inl (y 0, 6, .inl (zY S)))])) (va_Qi (fun (r : Int32) (_ : Unit) => r = (if S 6 < qOff S k v o then 1 else 0)) (fun _ _ => True) (fun _ => False)) 0 0 (fun _ => False) := by
  refine Met.ofW (cc := cX0_isSuspicious) (maxL := 5) (ret := (some .boolean)) (by decide) rfl ?_
  intro p e s m args below meth c s₁ B hml hpre9
  obtain ⟨rfl, hP, hKN⟩ := hpre9
  have hK := hKN.1
  have hx := B.exec
  have hb := B.bytes
  have hr := B.returns
  have hts := atoms_spec (ws := (ws_ yX0_isSuspicious cX0_isSuspicious 5 (some .boolean))) B.pre
  have htg : ∀ w ∈ gT, w.before _ s = true := fun w h => hts w (List.mem_cons_of_mem _ h)
  have hown : s.vm.findClass RX0 = some m.cls := findClass_of_methodNamed B.named
  have hlocks := B.notSynchronized
  have hS : va_S (fun _ => False) s.heap s.heap [] := va_S.rf
  have hP : va_P D vwCl [((fa 0), .inr (0, [.ref (fa 1), .ref (fa 21), .ref (fa 2), .ref (fa 3), .ref (fa 4), .int fr])), ((fa 1), .inl (y 0, 12, .inl cm)), ((fa 2), .inl (y 0, 192, .inl rd)), ((fa 3), .inl (y 0, 192, .inl td)), ((fa 4), .inl (y 0, 16, .inl od)), ((fa 21), .inl (y 0, 192, .inl of)), ((a 0), .inr (2, [.ref (a 1), .ref (a 2), .ref (a 3), .ref (a 4), .ref (a 5), .ref (a 6), .int (S 0), .int (S 1), .int (S 4), .int (S 5)])), ((a 1), .inl (y 0, 32, .inl (zT S))), ((a 2), .inl (y 0, 16, .inl (zU S))), ((a 3), .inl (y 0, 2, .inl (zB S))), ((a 4), .inl (y 0, 3, .inl (zE S))), ((a 5), .inl (y 0, 384, .inl (zR S))), ((a 6), .inl (y 0, 6, .inl (zY S)))] s.heap := hP
  have hl := lv_entry ([.ref (fa 0), .ref (a 0), .int (nI k), .int (nI v), .int (nI o)]) (n := 5) (Nat.le_of_ble_eq_true rfl)
  rw [lg_entry_eq]
  generalize (lg_sl ([.ref (fa 0), .ref (a 0), .int (nI k), .int (nI v), .int (nI o)]) ++ List.replicate (5 - (lg_sl ([.ref (fa 0), .ref (a 0), .int (nI k), .int (nI v), .int (nI o)])).length) Slot.unset).toArray = ls at hl ⊢
  have hl : lv_has ls 5 [(0, .ref (fa 0)), (1, .ref (a 0)), (2, .int (nI k)), (3, .int (nI v)), (4, .int (nI o))] := hl
  refine lv_aload_n hx hb dX0_isSuspicious_0 rfl (lv_at hl 0 rfl) ?_
  refine va_get (D := D) (ci := 0) (v := .ref (fa 21)) (C := RX0) (T := TX0) (N := 6) hx hb htg iX0 hown hK hP 0 rfl rfl 1 (by decide) (htg _ tw_6) (fun _ h9 => h9) rfl dX0_isSuspicious_1 ?_
  refine lv_iload_n hx hb dX0_isSuspicious_4 rfl (lv_at hl 2 rfl) ?_
  refine lv_iload_n hx hb dX0_isSuspicious_5 rfl (lv_at hl 3 rfl) ?_
  refine lv_iload hx hb dX0_isSuspicious_6 (lv_at hl 4 rfl) ?_
  refine zr_calli (va_runSN (As := [.int (nI k), .int (nI v), .int (nI o)]) (rest := [.ref (fa 21)]) ⟨hx, hb, hml, hown, hts⟩ (mX4_tiltAt l k v o) ⟨va_cnB 3 hts (zgI tw_30) rfl rfl rfl hKN.2.2.1 (htg _ tw_23) (by decide +kernel) ⟨Nat.le_of_ble_eq_true rfl, Nat.le_of_ble_eq_true rfl⟩, (htg _ tw_29), trivial⟩ zP_pre rfl rfl hl.1 rfl (lv_room (Nat.le_of_ble_eq_true rfl)) dX0_isSuspicious_8 ⟨Nat.zero_le _, Nat.zero_le _⟩) hS (fun r_1 H locs hw_8 hT hS => ?_)
  replace hP := hT _ _ hP
  obtain rfl : r_1 = nI (32 * k + 2 * v + o) := hw_8
  refine va_iald hx hb hK hP 5 0 rfl rfl (vp_in_nI (by omega) (by decide)) dX0_isSuspicious_11 ?_
  refine zz_top (y := of (32 * k + 2 * v + o)) (congrArg of (nI_clamp (by omega))) ?_
  refine zz_top (y := qOff S k v o) (hof) ?_
  refine lv_aload_n hx hb dX0_isSuspicious_12 rfl (lv_at hl 1 rfl) ?_
  refine va_get (D := D) (ci := 2) (v := .ref (a 4)) (C := RX2) (T := TX2) (N := 10) hx hb htg iX2 hown hK hP 6 rfl rfl 3 (by decide) (htg _ tw_36) (fun _ h9 => h9) rfl dX0_isSuspicious_13 ?_
  refine lv_iconst (v := 0) hx hb dX0_isSuspicious_16 (by decide) ?_
  refine va_iald hx hb hK hP 10 0 rfl rfl (vp_in_nI (n := 0) (by decide) (by decide)) dX0_isSuspicious_17 ?_
  refine zz_top (y := (zE S) 0) (congrArg (zE S) (by decide)) ?_
  refine zz_top (y := S 6) (rfl) ?_
  refine lv_icmp_le (tgt := 25) hx hb dX0_isSuspicious_18 (by decide) (fun c_18 => ?_) (fun c_18 => ?_)
  · have e9 : (0 : Int32) = (if S 6 < qOff S k v o then 1 else 0) := (if_neg (Int32.not_lt.mpr c_18)).symm
    refine lv_iconst (v := 0) hx hb dX0_isSuspicious_25 (by decide) ?_
    exact W.zret (v := 0) hx hb hr (by first | rfl | (split <;> rfl)) (fun t ht hW => ⟨⟨0, (), rfl, e9, trivial⟩, hS.F ht⟩) hS.2.2 dX0_isSuspicious_26
  · have e9 : (1 : Int32) = (if S 6 < qOff S k v o then 1 else 0) := (if_pos (Int32.not_le.mp c_18)).symm
    refine lv_iconst (v := 1) hx hb dX0_isSuspicious_21 (by decide) ?_
    refine lv_goto (tgt := 26) hx hb dX0_isSuspicious_22 (by decide) ?_
    exact W.zret (v := 1) hx hb hr (by first | rfl | (split <;> rfl)) (fun t ht hW => ⟨⟨1, (), rfl, e9, trivial⟩, hS.F ht⟩) hS.2.2 dX0_isSuspicious_26

set_option maxHeartbeats 4000000 in
set_option maxRecDepth 100000 in
theorem mX0_tiltRead (l : Launch) (D : va_G) (y : Nat → ClassId) (fa : Nat → Nat) (a : Nat → Nat) (S : Nat → Int32) (cm : Nat → Int32) (rd : Nat → Int32) (td : Nat → Int32) (od : Nat → Int32) (of : Nat → Int32) (fr : Int32) (k : Nat) (v : Nat) (o : Nat) (hk : k < 6) (hv : v < 16) (ho : o < 2) (hcm : cm (2 * k + o) = qCm S k o) (hof : of (32 * k + 2 * v + o) = qOff S k v o) (hrd : ¬ k = 0 → rd (32 * (k - 1) + 2 * v + o) = qTr S (k - 1) v o) : Met l yX0_tiltRead (ws_ yX0_tiltRead cX0_tiltRead 12 (some .int)) ({ frames := 2, cells := 0, slots := 0, locals := 46 }) (va_Pc [.ref (fa 0), .ref (a 0), .int (nI k), .int (nI v), .int (nI o)] (zRO D y [((fa 0), .inr (0, [.ref (fa 1), .ref (fa 21), .ref (fa 2), .ref (fa 3), .ref (fa 4), .int fr])), ((fa 1), .inl (y 0, 12, .inl cm)), ((fa 2), .inl (y 0, 192, .inl rd)), ((fa 3), .inl (y 0, 192, .inl td)), ((fa 4), .inl (y 0, 16, .inl od)), ((fa 21), .inl (y 0, 192, .inl of)), ((a 0), .inr (2, [.ref (a 1), .ref (a 2), .ref (a 3), .ref (a 4), .ref (a 5), .ref (a 6), .int (S 0), .int (S 1), .int (S 4), .int (S 5)])), ((a 1), .inl (y 0, 32, .inl (zT S))), ((a 2), .inl (y 0, 16, .inl (zU S))), ((a 3), .inl (y 0, 2, .inl (zB S))), ((a 4), .inl (y 0, 3, .inl (zE S))), ((a 5), .inl (y 0, 384, .inl (zR S))), ((a 6), .inl (y 0, 6, .inl (zY S)))])) (va_Qi (fun (r : Int32) (_ : Unit) => r = qTr S k v o) (fun _ _ => True) (fun _ => False)) 0 0 (fun _ => False) := by
  refine Met.ofW (cc := cX0_tiltRead) (maxL := 12) (ret := (some .int)) (by decide) rfl ?_
  intro p e s m args below meth c s₁ B hml hpre9
  obtain ⟨rfl, hP, hKN⟩ := hpre9
  have hK := hKN.1
  have hx := B.exec
  have hb := B.bytes
  have hr := B.returns
  have hts := atoms_spec (ws := (ws_ yX0_tiltRead cX0_tiltRead 12 (some .int))) B.pre
  have htg : ∀ w ∈ gT, w.before _ s = true := fun w h => hts w (List.mem_cons_of_mem _ h)
  have hown : s.vm.findClass RX0 = some m.cls := findClass_of_methodNamed B.named
  have hlocks := B.notSynchronized
  have hS : va_S (fun _ => False) s.heap s.heap [] := va_S.rf
  have hP : va_P D vwCl [((fa 0), .inr (0, [.ref (fa 1), .ref (fa 21), .ref (fa 2), .ref (fa 3), .ref (fa 4), .int fr])), ((fa 1), .inl (y 0, 12, .inl cm)), ((fa 2), .inl (y 0, 192, .inl rd)), ((fa 3), .inl (y 0, 192, .inl td)), ((fa 4), .inl (y 0, 16, .inl od)), ((fa 21), .inl (y 0, 192, .inl of)), ((a 0), .inr (2, [.ref (a 1), .ref (a 2), .ref (a 3), .ref (a 4), .ref (a 5), .ref (a 6), .int (S 0), .int (S 1), .int (S 4), .int (S 5)])), ((a 1), .inl (y 0, 32, .inl (zT S))), ((a 2), .inl (y 0, 16, .inl (zU S))), ((a 3), .inl (y 0, 2, .inl (zB S))), ((a 4), .inl (y 0, 3, .inl (zE S))), ((a 5), .inl (y 0, 384, .inl (zR S))), ((a 6), .inl (y 0, 6, .inl (zY S)))] s.heap := hP
  have hl := lv_entry ([.ref (fa 0), .ref (a 0), .int (nI k), .int (nI v), .int (nI o)]) (n := 12) (Nat.le_of_ble_eq_true rfl)
  rw [lg_entry_eq]
  generalize (lg_sl ([.ref (fa 0), .ref (a 0), .int (nI k), .int (nI v), .int (nI o)]) ++ List.replicate (12 - (lg_sl ([.ref (fa 0), .ref (a 0), .int (nI k), .int (nI v), .int (nI o)])).length) Slot.unset).toArray = ls at hl ⊢
  have hl : lv_has ls 12 [(0, .ref (fa 0)), (1, .ref (a 0)), (2, .int (nI k)), (3, .int (nI v)), (4, .int (nI o))] := hl
  refine lv_iload_n hx hb dX0_tiltRead_0 rfl (lv_at hl 2 rfl) ?_
  refine lv_iload_n hx hb dX0_tiltRead_1 rfl (lv_at hl 3 rfl) ?_
  refine lv_iload hx hb dX0_tiltRead_2 (lv_at hl 4 rfl) ?_
  refine lv_iconst (v := 0) hx hb dX0_tiltRead_4 (by decide) ?_
  refine zr_calli (va_runSN (As := [.int (nI k), .int (nI v), .int (nI o), .int 0]) (rest := []) ⟨hx, hb, hml, hown, hts⟩ (mX4_readingAt l k v o 0) ⟨va_cnB 4 hts (zgI tw_28) rfl rfl rfl hKN.2.2.2.1 (htg _ tw_23) (by decide +kernel) ⟨Nat.le_of_ble_eq_true rfl, Nat.le_of_ble_eq_true rfl⟩, (htg _ tw_27), trivial⟩ zP_pre rfl rfl hl.1 rfl (lv_room (Nat.le_of_ble_eq_true rfl)) dX0_tiltRead_5 ⟨Nat.zero_le _, Nat.zero_le _⟩) hS (fun r_1 H locs hw_5 hT hS => ?_)
  replace hP := hT _ _ hP
  obtain rfl : r_1 = nI (64 * k + 4 * v + 2 * o + 0) := hw_5
  refine lv_istore (lv' := [(5, .int (nI (64 * k + 4 * v + 2 * o + 0))), (0, .ref (fa 0)), (1, .ref (a 0)), (2, .int (nI k)), (3, .int (nI v)), (4, .int (nI o))]) hx hb dX0_tiltRead_8 hl (by decide) rfl (fun ls hl => ?_)
  refine lv_aload_n hx hb dX0_tiltRead_10 rfl (lv_at hl 2 rfl) ?_
  refine va_get (D := D) (ci := 2) (v := .ref (a 5)) (C := RX2) (T := TX2) (N := 10) hx hb htg iX2 hown hK hP 6 rfl rfl 4 (by decide) (htg _ tw_35) (fun _ h9 => h9) rfl dX0_tiltRead_11 ?_
  refine lv_iload hx hb dX0_tiltRead_14 (lv_at hl 0 rfl) ?_
  refine va_iald hx hb hK hP 11 0 rfl rfl (vp_in_nI (by omega) (by decide)) dX0_tiltRead_16 ?_
  refine zz_top (y := (zR S) (64 * k + 4 * v + 2 * o + 0)) (congrArg (zR S) (nI_clamp (by omega))) ?_
  refine zz_top (y := qRd S k v o 0) (congrArg S (by omega)) ?_
  refine lv_istore (lv' := [(6, .int (qRd S k v o 0)), (5, .int (nI (64 * k + 4 * v + 2 * o + 0))), (0, .ref (fa 0)), (1, .ref (a 0)), (2, .int (nI k)), (3, .int (nI v)), (4, .int (nI o))]) hx hb dX0_tiltRead_17 hl (by decide) rfl (fun ls hl => ?_)
  refine lv_aload_n hx hb dX0_tiltRead_19 rfl (lv_at hl 3 rfl) ?_
  refine va_get (D := D) (ci := 2) (v := .ref (a 5)) (C := RX2) (T := TX2) (N := 10) hx hb htg iX2 hown hK hP 6 rfl rfl 4 (by decide) (htg _ tw_35) (fun _ h9 => h9) rfl dX0_tiltRead_20 ?_
  refine lv_iload hx hb dX0_tiltRead_23 (lv_at hl 1 rfl) ?_
  refine lv_iconst (v := 1) hx hb dX0_tiltRead_25 (by decide) ?_
  refine lv_iadd hx hb dX0_tiltRead_26 ?_
  refine zz_top (y := nI ((64 * k + 4 * v + 2 * o + 0) + 1)) (nI_add (64 * k + 4 * v + 2 * o + 0) 1) ?_
  refine va_iald hx hb hK hP 11 0 rfl rfl (vp_in_nI (by omega) (by decide)) dX0_tiltRead_27 ?_
  refine zz_top (y := (zR S) ((64 * k + 4 * v + 2 * o + 0) + 1)) (congrArg (zR S) (nI_clamp (by omega))) ?_
  refine zz_top (y := qRd S k v o 1) (congrArg S (by omega)) ?_
  refine lv_istore (lv' := [(7, .int (qRd S k v o 1)), (6, .int (qRd S k v o 0)), (5, .int (nI (64 * k + 4 * v + 2 * o + 0))), (0, .ref (fa 0)), (1, .ref (a 0)), (2, .int (nI k)), (3, .int (nI v)), (4, .int (nI o))]) hx hb dX0_tiltRead_28 hl (by decide) rfl (fun ls hl => ?_)
  refine lv_aload_n hx hb dX0_tiltRead_30 rfl (lv_at hl 4 rfl) ?_
  refine va_get (D := D) (ci := 2) (v := .ref (a 4)) (C := RX2) (T := TX2) (N := 10) hx hb htg iX2 hown hK hP 6 rfl rfl 3 (by decide) (htg _ tw_36) (fun _ h9 => h9) rfl dX0_tiltRead_31 ?_
  refine lv_iconst (v := 1) hx hb dX0_tiltRead_34 (by decide) ?_
  refine va_iald hx hb hK hP 10 0 rfl rfl (vp_in_nI (n := 1) (by decide) (by decide)) dX0_tiltRead_35 ?_
  refine zz_top (y := (zE S) 1) (congrArg (zE S) (by decide)) ?_
  refine zz_top (y := S 7) (rfl) ?_
  refine lv_iconst (v := 1) hx hb dX0_tiltRead_36 (by decide) ?_
  refine lv_icmp_ne (tgt := 52) hx hb dX0_tiltRead_37 (by decide) (fun c_37 => ?_) (fun c_37 => ?_)
  · have e9 : (qRd S k v o 0 - qRd S k v o 1) / 2 = qTr S k v o := by rw [qTr, qTs, qFresh, if_neg (fun h => c_37 h.1)]
    refine lv_iload hx hb dX0_tiltRead_52 (lv_at hl 1 rfl) ?_
    refine lv_iload hx hb dX0_tiltRead_54 (lv_at hl 0 rfl) ?_
    refine lv_isub hx hb dX0_tiltRead_56 ?_
    refine lv_iconst (v := 2) hx hb dX0_tiltRead_57 (by decide) ?_
    refine lv_idiv hx hb dX0_tiltRead_58 (by decide) ?_
    exact W.iret (v := (((qRd S k v o 0) - (qRd S k v o 1)) / 2)) hx hb hr (fun t ht hW => ⟨⟨((qRd S k v o 0) - (qRd S k v o 1)) / 2, (), rfl, e9, trivial⟩, hS.F ht⟩) hS.2.2 dX0_tiltRead_59
  · refine lv_aload_n hx hb dX0_tiltRead_40 rfl (lv_at hl 3 rfl) ?_
    refine lv_aload_n hx hb dX0_tiltRead_41 rfl (lv_at hl 4 rfl) ?_
    refine lv_iload_n hx hb dX0_tiltRead_42 rfl (lv_at hl 5 rfl) ?_
    refine lv_iload_n hx hb dX0_tiltRead_43 rfl (lv_at hl 6 rfl) ?_
    refine lv_iload hx hb dX0_tiltRead_44 (lv_at hl 7 rfl) ?_
    refine zr_calli (va_runV (As := [.ref (a 0), .int (nI k), .int (nI v), .int (nI o)]) (rest := []) ⟨hx, hb, hml, hown, hts⟩ (mX0_isSuspicious l D y fa a S cm rd td od of fr k v o (by first | assumption | rfl | omega | decide) (by first | assumption | rfl | omega | decide) (by first | assumption | rfl | omega | decide) (hof)) (cwV 4 hts (zgV tw_37 tw_38 tw_39 tw_20 tw_40) rfl rfl rfl (by decide +kernel) ⟨Nat.le_of_ble_eq_true rfl, Nat.le_of_ble_eq_true rfl⟩) (zRO_preV hKN hP (ci := 0) (q0 := 0) rfl rfl [0, 1, 2, 3, 4, 5, 6, 7, 8, 9, 10, 11, 12] rfl) rfl rfl hl.1 rfl (lv_room (Nat.le_of_ble_eq_true rfl)) dX0_tiltRead_46 ⟨Nat.zero_le _, Nat.zero_le _⟩) hS (fun r_2 H locs hw_46 hT hS => ?_)
    replace hP := hT _ _ hP
    obtain rfl : r_2 = (if S 6 < qOff S k v o then (1 : Int32) else 0) := hw_46
    refine lv_if_ne (tgt := 60) hx hb dX0_tiltRead_49 (by decide) (fun c_49 => ?_) (fun c_49 => ?_)
    · replace c_49 := zb1.mp c_49
      refine lv_aload_n hx hb dX0_tiltRead_60 rfl (lv_at hl 3 rfl) ?_
      refine va_get (D := D) (ci := 0) (v := .ref (fa 1)) (C := RX0) (T := TX0) (N := 6) hx hb htg iX0 hown hK hP 0 rfl rfl 0 (by decide) (htg _ tw_5) (fun _ h9 => h9) rfl dX0_tiltRead_61 ?_
      refine lv_iload_n hx hb dX0_tiltRead_64 rfl (lv_at hl 5 rfl) ?_
      refine lv_iconst (v := 2) hx hb dX0_tiltRead_65 (by decide) ?_
      refine lv_imul hx hb dX0_tiltRead_66 ?_
      refine zz_top (y := nI (k * 2)) (pk_mul k 2) ?_
      refine lv_iload hx hb dX0_tiltRead_67 (lv_at hl 7 rfl) ?_
      refine lv_iadd hx hb dX0_tiltRead_69 ?_
      refine zz_top (y := nI ((k * 2) + o)) (nI_add (k * 2) o) ?_
      refine va_iald hx hb hK hP 1 0 rfl rfl (vp_in_nI (by omega) (by decide)) dX0_tiltRead_70 ?_
      refine zz_top (y := cm ((k * 2) + o)) (congrArg cm (nI_clamp (by omega))) ?_
      refine zz_top (y := qCm S k o) ((congrArg cm (by omega)).trans hcm) ?_
      refine lv_iconst (v := 2) hx hb dX0_tiltRead_71 (by decide) ?_
      refine lv_idiv hx hb dX0_tiltRead_72 (by decide) ?_
      refine lv_istore (lv' := [(8, .int ((qCm S k o) / 2)), (7, .int (qRd S k v o 1)), (6, .int (qRd S k v o 0)), (5, .int (nI (64 * k + 4 * v + 2 * o + 0))), (0, .ref (fa 0)), (1, .ref (a 0)), (2, .int (nI k)), (3, .int (nI v)), (4, .int (nI o))]) hx hb dX0_tiltRead_73 hl (by decide) rfl (fun ls hl => ?_)
      refine lv_iload hx hb dX0_tiltRead_75 (lv_at hl 2 rfl) ?_
      refine lv_iload hx hb dX0_tiltRead_77 (lv_at hl 0 rfl) ?_
      refine lv_isub hx hb dX0_tiltRead_79 ?_
      refine lv_istore (lv' := [(9, .int ((qRd S k v o 0) - ((qCm S k o) / 2))), (8, .int ((qCm S k o) / 2)), (7, .int (qRd S k v o 1)), (6, .int (qRd S k v o 0)), (5, .int (nI (64 * k + 4 * v + 2 * o + 0))), (0, .ref (fa 0)), (1, .ref (a 0)), (2, .int (nI k)), (3, .int (nI v)), (4, .int (nI o))]) hx hb dX0_tiltRead_80 hl (by decide) rfl (fun ls hl => ?_)
      refine lv_iload hx hb dX0_tiltRead_82 (lv_at hl 1 rfl) ?_
      refine lv_iload hx hb dX0_tiltRead_84 (lv_at hl 2 rfl) ?_
      refine lv_isub hx hb dX0_tiltRead_86 ?_
      refine lv_istore (lv' := [(10, .int (((qCm S k o) / 2) - (qRd S k v o 1))), (9, .int ((qRd S k v o 0) - ((qCm S k o) / 2))), (8, .int ((qCm S k o) / 2)), (7, .int (qRd S k v o 1)), (6, .int (qRd S k v o 0)), (5, .int (nI (64 * k + 4 * v + 2 * o + 0))), (0, .ref (fa 0)), (1, .ref (a 0)), (2, .int (nI k)), (3, .int (nI v)), (4, .int (nI o))]) hx hb dX0_tiltRead_87 hl (by decide) rfl (fun ls hl => ?_)
      refine lv_iload_n hx hb dX0_tiltRead_89 rfl (lv_at hl 8 rfl) ?_
      refine lv_if_ne (tgt := 96) hx hb dX0_tiltRead_90 (by decide) (fun c_90 => ?_) (fun c_90 => ?_)
      · replace c_90 : ¬ k = 0 := fun h => c_90 ((nI_eq (a := k) (b := 0) (by omega) (by omega)).mpr h)
        refine lv_aload_n hx hb dX0_tiltRead_96 rfl (lv_at hl 6 rfl) ?_
        refine va_get (D := D) (ci := 0) (v := .ref (fa 2)) (C := RX0) (T := TX0) (N := 6) hx hb htg iX0 hown hK hP 0 rfl rfl 2 (by decide) (htg _ tw_7) (fun _ h9 => h9) rfl dX0_tiltRead_97 ?_
        refine lv_iload_n hx hb dX0_tiltRead_100 rfl (lv_at hl 8 rfl) ?_
        refine lv_iconst (v := 1) hx hb dX0_tiltRead_101 (by decide) ?_
        refine lv_isub hx hb dX0_tiltRead_102 ?_
        refine zz_top (y := nI (k - 1)) (pk_sub (a := k) (b := 1) (by omega)) ?_
        refine lv_iload_n hx hb dX0_tiltRead_103 rfl (lv_at hl 9 rfl) ?_
        refine lv_iload hx hb dX0_tiltRead_104 (lv_at hl 10 rfl) ?_
        refine zr_calli (va_runSN (As := [.int (nI (k - 1)), .int (nI v), .int (nI o)]) (rest := [.ref (fa 2)]) ⟨hx, hb, hml, hown, hts⟩ (mX4_tiltAt l (k - 1) v o) ⟨va_cnB 3 hts (zgI tw_30) rfl rfl rfl hKN.2.2.1 (htg _ tw_23) (by decide +kernel) ⟨Nat.le_of_ble_eq_true rfl, Nat.le_of_ble_eq_true rfl⟩, (htg _ tw_29), trivial⟩ zP_pre rfl rfl hl.1 rfl (lv_room (Nat.le_of_ble_eq_true rfl)) dX0_tiltRead_106 ⟨Nat.zero_le _, Nat.zero_le _⟩) hS (fun r_3 H locs hw_106 hT hS => ?_)
        replace hP := hT _ _ hP
        obtain rfl : r_3 = nI (32 * (k - 1) + 2 * v + o) := hw_106
        refine va_iald hx hb hK hP 2 0 rfl rfl (vp_in_nI (by omega) (by decide)) dX0_tiltRead_109 ?_
        refine zz_top (y := rd (32 * (k - 1) + 2 * v + o)) (congrArg rd (nI_clamp (by omega))) ?_
        refine zz_top (y := qTr S (k - 1) v o) (hrd c_90) ?_
        refine lv_istore (lv' := [(11, .int (qTr S (k - 1) v o)), (10, .int (((qCm S k o) / 2) - (qRd S k v o 1))), (9, .int ((qRd S k v o 0) - ((qCm S k o) / 2))), (8, .int ((qCm S k o) / 2)), (7, .int (qRd S k v o 1)), (6, .int (qRd S k v o 0)), (5, .int (nI (64 * k + 4 * v + 2 * o + 0))), (0, .ref (fa 0)), (1, .ref (a 0)), (2, .int (nI k)), (3, .int (nI v)), (4, .int (nI o))]) hx hb dX0_tiltRead_110 hl (by decide) rfl (fun ls hl => ?_)
        refine lv_iload hx hb dX0_tiltRead_112 (lv_at hl 1 rfl) ?_
        refine lv_iload hx hb dX0_tiltRead_114 (lv_at hl 0 rfl) ?_
        refine lv_isub hx hb dX0_tiltRead_116 ?_
        refine va_mabs hx hb (hml.trans hl.1.symm) hown (htg _ tw_13) (htg _ tw_14) (htg _ tw_15) (htg _ tw_16) (Nat.le_of_ble_eq_true rfl) (Nat.le_of_ble_eq_true rfl) (Nat.zero_le _) (Nat.zero_le _) dX0_tiltRead_117 ?_
        refine zz_top (y := qAbs (qCm S k o / 2 - qRd S k v o 1 - qTr S (k - 1) v o)) (rfl) ?_
        refine lv_iload hx hb dX0_tiltRead_120 (lv_at hl 2 rfl) ?_
        refine lv_iload hx hb dX0_tiltRead_122 (lv_at hl 0 rfl) ?_
        refine lv_isub hx hb dX0_tiltRead_124 ?_
        refine va_mabs hx hb (hml.trans hl.1.symm) hown (htg _ tw_13) (htg _ tw_14) (htg _ tw_15) (htg _ tw_16) (Nat.le_of_ble_eq_true rfl) (Nat.le_of_ble_eq_true rfl) (Nat.zero_le _) (Nat.zero_le _) dX0_tiltRead_125 ?_
        refine zz_top (y := qAbs (qRd S k v o 0 - qCm S k o / 2 - qTr S (k - 1) v o)) (rfl) ?_
        refine lv_icmp_ge (tgt := 136) hx hb dX0_tiltRead_128 (by decide) (fun c_128 => ?_) (fun c_128 => ?_)
        · have e9 : qRd S k v o 0 - qCm S k o / 2 = qTr S k v o := by rw [qTr_pos c_90, qFresh, if_pos ⟨c_37, c_49⟩, if_neg (fun h => absurd h.2 (Int32.not_lt.mpr c_128))]
          refine lv_iload hx hb dX0_tiltRead_136 (lv_at hl 2 rfl) ?_
          exact W.iret (v := ((qRd S k v o 0) - ((qCm S k o) / 2))) hx hb hr (fun t ht hW => ⟨⟨(qRd S k v o 0) - ((qCm S k o) / 2), (), rfl, e9, trivial⟩, hS.F ht⟩) hS.2.2 dX0_tiltRead_138
        · have e9 : qCm S k o / 2 - qRd S k v o 1 = qTr S k v o := by rw [qTr_pos c_90, qFresh, if_pos ⟨c_37, c_49⟩, if_pos ⟨by omega, Int32.not_le.mp c_128⟩]
          refine lv_iload hx hb dX0_tiltRead_131 (lv_at hl 1 rfl) ?_
          refine lv_goto (tgt := 138) hx hb dX0_tiltRead_133 (by decide) ?_
          exact W.iret (v := (((qCm S k o) / 2) - (qRd S k v o 1))) hx hb hr (fun t ht hW => ⟨⟨((qCm S k o) / 2) - (qRd S k v o 1), (), rfl, e9, trivial⟩, hS.F ht⟩) hS.2.2 dX0_tiltRead_138
      · replace c_90 : k = 0 := (nI_eq (a := k) (b := 0) (by omega) (by omega)).mp c_90
        have e9 : qRd S k v o 0 - qCm S k o / 2 = qTr S k v o := by rw [qTr, qTs, qFresh, if_pos ⟨c_37, c_49⟩, if_neg (fun h => absurd h.1 (by omega))]
        refine lv_iload hx hb dX0_tiltRead_93 (lv_at hl 1 rfl) ?_
        exact W.iret (v := ((qRd S k v o 0) - ((qCm S k o) / 2))) hx hb hr (fun t ht hW => ⟨⟨(qRd S k v o 0) - ((qCm S k o) / 2), (), rfl, e9, trivial⟩, hS.F ht⟩) hS.2.2 dX0_tiltRead_95
    · replace c_49 := zb0.mp c_49
      have e9 : (qRd S k v o 0 - qRd S k v o 1) / 2 = qTr S k v o := by rw [qTr, qTs, qFresh, if_neg (fun h => c_49 h.2)]
      refine lv_iload hx hb dX0_tiltRead_52 (lv_at hl 1 rfl) ?_
      refine lv_iload hx hb dX0_tiltRead_54 (lv_at hl 0 rfl) ?_
      refine lv_isub hx hb dX0_tiltRead_56 ?_
      refine lv_iconst (v := 2) hx hb dX0_tiltRead_57 (by decide) ?_
      refine lv_idiv hx hb dX0_tiltRead_58 (by decide) ?_
      exact W.iret (v := (((qRd S k v o 0) - (qRd S k v o 1)) / 2)) hx hb hr (fun t ht hW => ⟨⟨((qRd S k v o 0) - (qRd S k v o 1)) / 2, (), rfl, e9, trivial⟩, hS.F ht⟩) hS.2.2 dX0_tiltRead_59

set_option maxHeartbeats 4000000 in
set_option maxRecDepth 100000 in
theorem mX0_tellLevel (l : Launch) (D : va_G) (y : Nat → ClassId) (sz : Nat) (fa : Nat → Nat) (a : Nat → Nat) (S : Nat → Int32) (cm : Nat → Int32) (rd : Nat → Int32) (td : Nat → Int32) (od : Nat → Int32) (of : Nat → Int32) (fr : Int32) (k : Nat) (v : Nat) (hk : k < 6) (hv : v < 16) (h8 : S 8 = 0 ∨ S 8 = 1) (htn : S (11 + 3 * v) = 0 ∨ S (11 + 3 * v) = 1 ∨ S (11 + 3 * v) = 2 ∨ S (11 + 3 * v) = 3) (hr0 : rd (32 * k + 2 * v + 0) = qTr S k v 0) (hr1 : rd (32 * k + 2 * v + 1) = qTr S k v 1) : Met l yX0_tellLevel (ws_ yX0_tellLevel cX0_tellLevel 7 none) ({ frames := 1, cells := 0, slots := 0, locals := 23 }) (va_Pc [.ref (fa 0), .ref (a 0), .int (nI k), .int (nI v)] (zRW D y [((fa 0), .inr (0, [.ref (fa 1), .ref (fa 21), .ref (fa 2), .ref (fa 3), .ref (fa 4), .int fr])), ((fa 1), .inl (y 0, 12, .inl cm)), ((fa 2), .inl (y 0, 192, .inl rd)), ((fa 3), .inl (y 0, 192, .inl td)), ((fa 4), .inl (y 0, 16, .inl od)), ((fa 21), .inl (y 0, 192, .inl of)), ((a 0), .inr (2, [.ref (a 1), .ref (a 2), .ref (a 3), .ref (a 4), .ref (a 5), .ref (a 6), .int (S 0), .int (S 1), .int (S 4), .int (S 5)])), ((a 1), .inl (y 0, 32, .inl (zT S))), ((a 2), .inl (y 0, 16, .inl (zU S))), ((a 3), .inl (y 0, 2, .inl (zB S))), ((a 4), .inl (y 0, 3, .inl (zE S))), ((a 5), .inl (y 0, 384, .inl (zR S))), ((a 6), .inl (y 0, 6, .inl (zY S)))] sz)) (va_Qv (fun (_ : Unit) => True) (fun (_ : Unit) t => zOut D (va_A [((fa 0), .inr (0, [.ref (fa 1), .ref (fa 21), .ref (fa 2), .ref (fa 3), .ref (fa 4), .int fr])), ((fa 1), .inl (y 0, 12, .inl cm)), ((fa 2), .inl (y 0, 192, .inl rd)), ((fa 3), .inl (y 0, 192, .inl td)), ((fa 4), .inl (y 0, 16, .inl od)), ((fa 21), .inl (y 0, 192, .inl of)), ((a 0), .inr (2, [.ref (a 1), .ref (a 2), .ref (a 3), .ref (a 4), .ref (a 5), .ref (a 6), .int (S 0), .int (S 1), .int (S 4), .int (S 5)])), ((a 1), .inl (y 0, 32, .inl (zT S))), ((a 2), .inl (y 0, 16, .inl (zU S))), ((a 3), .inl (y 0, 2, .inl (zB S))), ((a 4), .inl (y 0, 3, .inl (zE S))), ((a 5), .inl (y 0, 384, .inl (zR S))), ((a 6), .inl (y 0, 6, .inl (zY S)))] sz) [((fa 0), .inr (0, [.ref (fa 1), .ref (fa 21), .ref (fa 2), .ref (fa 3), .ref (fa 4), .int fr])), ((fa 1), .inl (y 0, 12, .inl cm)), ((fa 2), .inl (y 0, 192, .inl rd)), ((fa 3), .inl (y 0, 192, .inl (upd (upd td (32 * k + 2 * v + 0) (qTt S k v 0)) (32 * k + 2 * v + 1) (qTt S k v 1)))), ((fa 4), .inl (y 0, 16, .inl od)), ((fa 21), .inl (y 0, 192, .inl of)), ((a 0), .inr (2, [.ref (a 1), .ref (a 2), .ref (a 3), .ref (a 4), .ref (a 5), .ref (a 6), .int (S 0), .int (S 1), .int (S 4), .int (S 5)])), ((a 1), .inl (y 0, 32, .inl (zT S))), ((a 2), .inl (y 0, 16, .inl (zU S))), ((a 3), .inl (y 0, 2, .inl (zB S))), ((a 4), .inl (y 0, 3, .inl (zE S))), ((a 5), .inl (y 0, 384, .inl (zR S))), ((a 6), .inl (y 0, 6, .inl (zY S)))] t) (va_A [((fa 0), .inr (0, [.ref (fa 1), .ref (fa 21), .ref (fa 2), .ref (fa 3), .ref (fa 4), .int fr])), ((fa 1), .inl (y 0, 12, .inl cm)), ((fa 2), .inl (y 0, 192, .inl rd)), ((fa 3), .inl (y 0, 192, .inl td)), ((fa 4), .inl (y 0, 16, .inl od)), ((fa 21), .inl (y 0, 192, .inl of)), ((a 0), .inr (2, [.ref (a 1), .ref (a 2), .ref (a 3), .ref (a 4), .ref (a 5), .ref (a 6), .int (S 0), .int (S 1), .int (S 4), .int (S 5)])), ((a 1), .inl (y 0, 32, .inl (zT S))), ((a 2), .inl (y 0, 16, .inl (zU S))), ((a 3), .inl (y 0, 2, .inl (zB S))), ((a 4), .inl (y 0, 3, .inl (zE S))), ((a 5), .inl (y 0, 384, .inl (zR S))), ((a 6), .inl (y 0, 6, .inl (zY S)))] sz)) 0 0 (va_A [((fa 0), .inr (0, [.ref (fa 1), .ref (fa 21), .ref (fa 2), .ref (fa 3), .ref (fa 4), .int fr])), ((fa 1), .inl (y 0, 12, .inl cm)), ((fa 2), .inl (y 0, 192, .inl rd)), ((fa 3), .inl (y 0, 192, .inl td)), ((fa 4), .inl (y 0, 16, .inl od)), ((fa 21), .inl (y 0, 192, .inl of)), ((a 0), .inr (2, [.ref (a 1), .ref (a 2), .ref (a 3), .ref (a 4), .ref (a 5), .ref (a 6), .int (S 0), .int (S 1), .int (S 4), .int (S 5)])), ((a 1), .inl (y 0, 32, .inl (zT S))), ((a 2), .inl (y 0, 16, .inl (zU S))), ((a 3), .inl (y 0, 2, .inl (zB S))), ((a 4), .inl (y 0, 3, .inl (zE S))), ((a 5), .inl (y 0, 384, .inl (zR S))), ((a 6), .inl (y 0, 6, .inl (zY S)))] sz) := by
  refine Met.ofW (cc := cX0_tellLevel) (maxL := 7) (ret := none) (by decide) rfl ?_
  intro p e s m args below meth c s₁ B hml hpre9
  obtain ⟨rfl, hsz, hP, hKN, hD0⟩ := hpre9
  have hK := hKN.1
  have hx := B.exec
  have hb := B.bytes
  have hr := B.returns
  have hts := atoms_spec (ws := (ws_ yX0_tellLevel cX0_tellLevel 7 none)) B.pre
  have htg : ∀ w ∈ gT, w.before _ s = true := fun w h => hts w (List.mem_cons_of_mem _ h)
  have hown : s.vm.findClass RX0 = some m.cls := findClass_of_methodNamed B.named
  have hlocks := B.notSynchronized
  subst hsz
  have hD := hD0.self (sz := s.heap.size)
  clear hD0
  generalize hAe : va_A [((fa 0), .inr (0, [.ref (fa 1), .ref (fa 21), .ref (fa 2), .ref (fa 3), .ref (fa 4), .int fr])), ((fa 1), .inl (y 0, 12, .inl cm)), ((fa 2), .inl (y 0, 192, .inl rd)), ((fa 3), .inl (y 0, 192, .inl td)), ((fa 4), .inl (y 0, 16, .inl od)), ((fa 21), .inl (y 0, 192, .inl of)), ((a 0), .inr (2, [.ref (a 1), .ref (a 2), .ref (a 3), .ref (a 4), .ref (a 5), .ref (a 6), .int (S 0), .int (S 1), .int (S 4), .int (S 5)])), ((a 1), .inl (y 0, 32, .inl (zT S))), ((a 2), .inl (y 0, 16, .inl (zU S))), ((a 3), .inl (y 0, 2, .inl (zB S))), ((a 4), .inl (y 0, 3, .inl (zE S))), ((a 5), .inl (y 0, 384, .inl (zR S))), ((a 6), .inl (y 0, 6, .inl (zY S)))] s.heap.size = A at hD ⊢
  have hA : ∀ q : Nat, s.heap.size ≤ q → A q := fun q h => by rw [← hAe]; exact Or.inr h
  have hS : va_S A s.heap s.heap [] := va_S.rf
  have hP : va_P D vwCl [((fa 0), .inr (0, [.ref (fa 1), .ref (fa 21), .ref (fa 2), .ref (fa 3), .ref (fa 4), .int fr])), ((fa 1), .inl (y 0, 12, .inl cm)), ((fa 2), .inl (y 0, 192, .inl rd)), ((fa 3), .inl (y 0, 192, .inl td)), ((fa 4), .inl (y 0, 16, .inl od)), ((fa 21), .inl (y 0, 192, .inl of)), ((a 0), .inr (2, [.ref (a 1), .ref (a 2), .ref (a 3), .ref (a 4), .ref (a 5), .ref (a 6), .int (S 0), .int (S 1), .int (S 4), .int (S 5)])), ((a 1), .inl (y 0, 32, .inl (zT S))), ((a 2), .inl (y 0, 16, .inl (zU S))), ((a 3), .inl (y 0, 2, .inl (zB S))), ((a 4), .inl (y 0, 3, .inl (zE S))), ((a 5), .inl (y 0, 384, .inl (zR S))), ((a 6), .inl (y 0, 6, .inl (zY S)))] s.heap := hP
  have hl := lv_entry ([.ref (fa 0), .ref (a 0), .int (nI k), .int (nI v)]) (n := 7) (Nat.le_of_ble_eq_true rfl)
  rw [lg_entry_eq]
  generalize (lg_sl ([.ref (fa 0), .ref (a 0), .int (nI k), .int (nI v)]) ++ List.replicate (7 - (lg_sl ([.ref (fa 0), .ref (a 0), .int (nI k), .int (nI v)])).length) Slot.unset).toArray = ls at hl ⊢
  have hl : lv_has ls 7 [(0, .ref (fa 0)), (1, .ref (a 0)), (2, .int (nI k)), (3, .int (nI v))] := hl
  refine lv_aload_n hx hb dX0_tellLevel_0 rfl (lv_at hl 1 rfl) ?_
  refine va_get (D := D) (ci := 2) (v := .ref (a 4)) (C := RX2) (T := TX2) (N := 10) hx hb htg iX2 hown hK hP 6 rfl rfl 3 (by decide) (htg _ tw_36) (fun _ h9 => h9) rfl dX0_tellLevel_1 ?_
  refine lv_iconst (v := 2) hx hb dX0_tellLevel_4 (by decide) ?_
  refine va_iald hx hb hK hP 10 0 rfl rfl (vp_in_nI (n := 2) (by decide) (by decide)) dX0_tellLevel_5 ?_
  refine zz_top (y := (zE S) 2) (congrArg (zE S) (by decide)) ?_
  refine zz_top (y := S 8) (rfl) ?_
  refine lv_iconst (v := 1) hx hb dX0_tellLevel_6 (by decide) ?_
  refine lv_icmp_ne (tgt := 23) hx hb dX0_tellLevel_7 (by decide) (fun c_7 => ?_) (fun c_7 => ?_)
  · refine lv_iconst (v := 0) hx hb dX0_tellLevel_23 (by decide) ?_
    refine lv_istore (lv' := [(4, .int 0), (0, .ref (fa 0)), (1, .ref (a 0)), (2, .int (nI k)), (3, .int (nI v))]) hx hb dX0_tellLevel_24 hl (by decide) rfl (fun ls hl => ?_)
    refine lv_iload_n hx hb dX0_tellLevel_26 rfl (lv_at hl 3 rfl) ?_
    refine lv_iload_n hx hb dX0_tellLevel_27 rfl (lv_at hl 4 rfl) ?_
    refine lv_iconst (v := 0) hx hb dX0_tellLevel_28 (by decide) ?_
    refine zr_calli (va_runSN (As := [.int (nI k), .int (nI v), .int 0]) (rest := []) ⟨hx, hb, hml, hown, hts⟩ (mX4_tiltAt l k v 0) ⟨va_cnB 3 hts (zgI tw_30) rfl rfl rfl hKN.2.2.1 (htg _ tw_23) (by decide +kernel) ⟨Nat.le_of_ble_eq_true rfl, Nat.le_of_ble_eq_true rfl⟩, (htg _ tw_29), trivial⟩ zP_pre rfl rfl hl.1 rfl (lv_room (Nat.le_of_ble_eq_true rfl)) dX0_tellLevel_29 ⟨Nat.zero_le _, Nat.zero_le _⟩) hS (fun r_1 H locs hw_29 hT hS => ?_)
    replace hP := hT _ _ hP
    obtain rfl : r_1 = nI (32 * k + 2 * v + 0) := hw_29
    refine lv_istore (lv' := [(5, .int (nI (32 * k + 2 * v + 0))), (4, .int 0), (0, .ref (fa 0)), (1, .ref (a 0)), (2, .int (nI k)), (3, .int (nI v))]) hx hb dX0_tellLevel_32 hl (by decide) rfl (fun ls hl => ?_)
    refine lv_iconst (v := 0) hx hb dX0_tellLevel_34 (by decide) ?_
    refine lv_istore (lv' := [(6, .int 0), (5, .int (nI (32 * k + 2 * v + 0))), (4, .int 0), (0, .ref (fa 0)), (1, .ref (a 0)), (2, .int (nI k)), (3, .int (nI v))]) hx hb dX0_tellLevel_35 hl (by decide) rfl (fun ls hl => ?_)
    refine lv_iload hx hb dX0_tellLevel_37 (lv_at hl 0 rfl) ?_
    refine lv_iconst (v := 2) hx hb dX0_tellLevel_39 (by decide) ?_
    refine lv_icmp_ge (tgt := 82) hx hb dX0_tellLevel_40 (by decide) (fun c_40 => absurd c_40 (by decide)) (fun _ => ?_)
    refine lv_aload_n hx hb dX0_tellLevel_43 rfl (lv_at hl 3 rfl) ?_
    refine va_get (D := D) (ci := 0) (v := .ref (fa 3)) (C := RX0) (T := TX0) (N := 6) hx hb htg iX0 hown hK hP 0 rfl rfl 3 (by decide) (htg _ tw_8) (fun _ h9 => h9) rfl dX0_tellLevel_44 ?_
    refine lv_iload hx hb dX0_tellLevel_47 (lv_at hl 1 rfl) ?_
    refine lv_iload hx hb dX0_tellLevel_49 (lv_at hl 0 rfl) ?_
    refine lv_iadd hx hb dX0_tellLevel_51 ?_
    refine zz_top (y := nI ((32 * k + 2 * v + 0) + 0)) (nI_add (32 * k + 2 * v + 0) 0) ?_
    refine lv_iload hx hb dX0_tellLevel_52 (lv_at hl 2 rfl) ?_
    refine lv_aload_n hx hb dX0_tellLevel_54 rfl (lv_at hl 3 rfl) ?_
    refine va_get (D := D) (ci := 0) (v := .ref (fa 2)) (C := RX0) (T := TX0) (N := 6) hx hb htg iX0 hown hK hP 0 rfl rfl 2 (by decide) (htg _ tw_7) (fun _ h9 => h9) rfl dX0_tellLevel_55 ?_
    refine lv_iload hx hb dX0_tellLevel_58 (lv_at hl 1 rfl) ?_
    refine va_iald hx hb hK hP 2 0 rfl rfl (vp_in_nI (by omega) (by decide)) dX0_tellLevel_60 ?_
    refine zz_top (y := rd (32 * k + 2 * v + 0)) (congrArg rd (nI_clamp (by omega))) ?_
    refine zz_top (y := qTr S k v 0) ((congrArg rd (by omega)).trans hr0) ?_
    refine lv_aload_n hx hb dX0_tellLevel_61 rfl (lv_at hl 3 rfl) ?_
    refine va_get (D := D) (ci := 0) (v := .ref (fa 2)) (C := RX0) (T := TX0) (N := 6) hx hb htg iX0 hown hK hP 0 rfl rfl 2 (by decide) (htg _ tw_7) (fun _ h9 => h9) rfl dX0_tellLevel_62 ?_
    refine lv_iload hx hb dX0_tellLevel_65 (lv_at hl 1 rfl) ?_
    refine lv_iconst (v := 1) hx hb dX0_tellLevel_67 (by decide) ?_
    refine lv_iadd hx hb dX0_tellLevel_68 ?_
    refine zz_top (y := nI ((32 * k + 2 * v + 0) + 1)) (nI_add (32 * k + 2 * v + 0) 1) ?_
    refine va_iald hx hb hK hP 2 0 rfl rfl (vp_in_nI (by omega) (by decide)) dX0_tellLevel_69 ?_
    refine zz_top (y := rd ((32 * k + 2 * v + 0) + 1)) (congrArg rd (nI_clamp (by omega))) ?_
    refine zz_top (y := qTr S k v 1) ((congrArg rd (by omega)).trans hr1) ?_
    refine lv_iload hx hb dX0_tellLevel_70 (lv_at hl 0 rfl) ?_
    refine zr_calli (va_runSN (As := [.int 0, .int (qTr S k v 0), .int (qTr S k v 1), .int 0]) (rest := [.int (nI ((32 * k + 2 * v + 0) + 0)), .ref (fa 3)]) ⟨hx, hb, hml, hown, hts⟩ (mX4_turnedTilt l 0 (qTr S k v 0) (qTr S k v 1) 0 (by first | assumption | rfl | omega | decide)) ⟨va_cnB 4 hts (zgI tw_47) rfl rfl rfl hKN.2.2.2.2 (htg _ tw_23) (by decide +kernel) ⟨Nat.le_of_ble_eq_true rfl, Nat.le_of_ble_eq_true rfl⟩, (htg _ tw_46), trivial⟩ zP_pre rfl rfl hl.1 rfl (lv_room (Nat.le_of_ble_eq_true rfl)) dX0_tellLevel_72 ⟨Nat.zero_le _, Nat.zero_le _⟩) hS (fun r_2 H locs hw_72 hT hS => ?_)
    replace hP := hT _ _ hP
    obtain rfl : r_2 = zTurn 0 (qTr S k v 0) (qTr S k v 1) 0 := hw_72
    refine zz_top (y := qTt S k v 0) (zTt_off c_7 h8 (by decide)) ?_
    refine va_iast hx hb hK hP hD hS 3 0 rfl rfl (vp_in_nI (by omega) (by decide)) dX0_tellLevel_75 (fun H locs hP hD hS => ?_)
    rw [show (nI ((32 * k + 2 * v + 0) + 0)).toNatClampNeg = (32 * k + 2 * v + 0) + 0 from (nI_clamp (by omega))] at hP hD
    have hP : va_P D vwCl [((fa 0), .inr (0, [.ref (fa 1), .ref (fa 21), .ref (fa 2), .ref (fa 3), .ref (fa 4), .int fr])), ((fa 1), .inl (y 0, 12, .inl cm)), ((fa 2), .inl (y 0, 192, .inl rd)), ((fa 3), .inl (y 0, 192, .inl (upd td ((32 * k + 2 * v + 0) + 0) (qTt S k v 0)))), ((fa 4), .inl (y 0, 16, .inl od)), ((fa 21), .inl (y 0, 192, .inl of)), ((a 0), .inr (2, [.ref (a 1), .ref (a 2), .ref (a 3), .ref (a 4), .ref (a 5), .ref (a 6), .int (S 0), .int (S 1), .int (S 4), .int (S 5)])), ((a 1), .inl (y 0, 32, .inl (zT S))), ((a 2), .inl (y 0, 16, .inl (zU S))), ((a 3), .inl (y 0, 2, .inl (zB S))), ((a 4), .inl (y 0, 3, .inl (zE S))), ((a 5), .inl (y 0, 384, .inl (zR S))), ((a 6), .inl (y 0, 6, .inl (zY S)))] H := hP
    have hD : va_D A [((fa 0), .inr (0, [.ref (fa 1), .ref (fa 21), .ref (fa 2), .ref (fa 3), .ref (fa 4), .int fr])), ((fa 1), .inl (y 0, 12, .inl cm)), ((fa 2), .inl (y 0, 192, .inl rd)), ((fa 3), .inl (y 0, 192, .inl (upd td ((32 * k + 2 * v + 0) + 0) (qTt S k v 0)))), ((fa 4), .inl (y 0, 16, .inl od)), ((fa 21), .inl (y 0, 192, .inl of)), ((a 0), .inr (2, [.ref (a 1), .ref (a 2), .ref (a 3), .ref (a 4), .ref (a 5), .ref (a 6), .int (S 0), .int (S 1), .int (S 4), .int (S 5)])), ((a 1), .inl (y 0, 32, .inl (zT S))), ((a 2), .inl (y 0, 16, .inl (zU S))), ((a 3), .inl (y 0, 2, .inl (zB S))), ((a 4), .inl (y 0, 3, .inl (zE S))), ((a 5), .inl (y 0, 384, .inl (zR S))), ((a 6), .inl (y 0, 6, .inl (zY S)))] := hD
    refine lv_iinc (v := 1) (lv' := [(6, .int 1), (5, .int (nI (32 * k + 2 * v + 0))), (4, .int 0), (0, .ref (fa 0)), (1, .ref (a 0)), (2, .int (nI k)), (3, .int (nI v))]) hx hb dX0_tellLevel_76 hl (k := 0) rfl (by decide) (by decide) rfl (fun ls hl => ?_)
    refine lv_goto (tgt := 37) hx hb dX0_tellLevel_79 (by decide) ?_
    refine lv_iload hx hb dX0_tellLevel_37 (lv_at hl 0 rfl) ?_
    refine lv_iconst (v := 2) hx hb dX0_tellLevel_39 (by decide) ?_
    refine lv_icmp_ge (tgt := 82) hx hb dX0_tellLevel_40 (by decide) (fun c_40 => absurd c_40 (by decide)) (fun _ => ?_)
    refine lv_aload_n hx hb dX0_tellLevel_43 rfl (lv_at hl 3 rfl) ?_
    refine va_get (D := D) (ci := 0) (v := .ref (fa 3)) (C := RX0) (T := TX0) (N := 6) hx hb htg iX0 hown hK hP 0 rfl rfl 3 (by decide) (htg _ tw_8) (fun _ h9 => h9) rfl dX0_tellLevel_44 ?_
    refine lv_iload hx hb dX0_tellLevel_47 (lv_at hl 1 rfl) ?_
    refine lv_iload hx hb dX0_tellLevel_49 (lv_at hl 0 rfl) ?_
    refine lv_iadd hx hb dX0_tellLevel_51 ?_
    refine zz_top (y := nI ((32 * k + 2 * v + 0) + 1)) (nI_add (32 * k + 2 * v + 0) 1) ?_
    refine lv_iload hx hb dX0_tellLevel_52 (lv_at hl 2 rfl) ?_
    refine lv_aload_n hx hb dX0_tellLevel_54 rfl (lv_at hl 3 rfl) ?_
    refine va_get (D := D) (ci := 0) (v := .ref (fa 2)) (C := RX0) (T := TX0) (N := 6) hx hb htg iX0 hown hK hP 0 rfl rfl 2 (by decide) (htg _ tw_7) (fun _ h9 => h9) rfl dX0_tellLevel_55 ?_
    refine lv_iload hx hb dX0_tellLevel_58 (lv_at hl 1 rfl) ?_
    refine va_iald hx hb hK hP 2 0 rfl rfl (vp_in_nI (by omega) (by decide)) dX0_tellLevel_60 ?_
    refine zz_top (y := rd (32 * k + 2 * v + 0)) (congrArg rd (nI_clamp (by omega))) ?_
    refine zz_top (y := qTr S k v 0) ((congrArg rd (by omega)).trans hr0) ?_
    refine lv_aload_n hx hb dX0_tellLevel_61 rfl (lv_at hl 3 rfl) ?_
    refine va_get (D := D) (ci := 0) (v := .ref (fa 2)) (C := RX0) (T := TX0) (N := 6) hx hb htg iX0 hown hK hP 0 rfl rfl 2 (by decide) (htg _ tw_7) (fun _ h9 => h9) rfl dX0_tellLevel_62 ?_
    refine lv_iload hx hb dX0_tellLevel_65 (lv_at hl 1 rfl) ?_
    refine lv_iconst (v := 1) hx hb dX0_tellLevel_67 (by decide) ?_
    refine lv_iadd hx hb dX0_tellLevel_68 ?_
    refine zz_top (y := nI ((32 * k + 2 * v + 0) + 1)) (nI_add (32 * k + 2 * v + 0) 1) ?_
    refine va_iald hx hb hK hP 2 0 rfl rfl (vp_in_nI (by omega) (by decide)) dX0_tellLevel_69 ?_
    refine zz_top (y := rd ((32 * k + 2 * v + 0) + 1)) (congrArg rd (nI_clamp (by omega))) ?_
    refine zz_top (y := qTr S k v 1) ((congrArg rd (by omega)).trans hr1) ?_
    refine lv_iload hx hb dX0_tellLevel_70 (lv_at hl 0 rfl) ?_
    refine zr_calli (va_runSN (As := [.int 0, .int (qTr S k v 0), .int (qTr S k v 1), .int 1]) (rest := [.int (nI ((32 * k + 2 * v + 0) + 1)), .ref (fa 3)]) ⟨hx, hb, hml, hown, hts⟩ (mX4_turnedTilt l 0 (qTr S k v 0) (qTr S k v 1) 1 (by first | assumption | rfl | omega | decide)) ⟨va_cnB 4 hts (zgI tw_47) rfl rfl rfl hKN.2.2.2.2 (htg _ tw_23) (by decide +kernel) ⟨Nat.le_of_ble_eq_true rfl, Nat.le_of_ble_eq_true rfl⟩, (htg _ tw_46), trivial⟩ zP_pre rfl rfl hl.1 rfl (lv_room (Nat.le_of_ble_eq_true rfl)) dX0_tellLevel_72 ⟨Nat.zero_le _, Nat.zero_le _⟩) hS (fun r_3 H locs hw_72 hT hS => ?_)
    replace hP := hT _ _ hP
    obtain rfl : r_3 = zTurn 0 (qTr S k v 0) (qTr S k v 1) 1 := hw_72
    refine zz_top (y := qTt S k v 1) (zTt_off c_7 h8 (by decide)) ?_
    refine va_iast hx hb hK hP hD hS 3 0 rfl rfl (vp_in_nI (by omega) (by decide)) dX0_tellLevel_75 (fun H locs hP hD hS => ?_)
    rw [show (nI ((32 * k + 2 * v + 0) + 1)).toNatClampNeg = (32 * k + 2 * v + 0) + 1 from (nI_clamp (by omega))] at hP hD
    have hP : va_P D vwCl [((fa 0), .inr (0, [.ref (fa 1), .ref (fa 21), .ref (fa 2), .ref (fa 3), .ref (fa 4), .int fr])), ((fa 1), .inl (y 0, 12, .inl cm)), ((fa 2), .inl (y 0, 192, .inl rd)), ((fa 3), .inl (y 0, 192, .inl (upd (upd td ((32 * k + 2 * v + 0) + 0) (qTt S k v 0)) ((32 * k + 2 * v + 0) + 1) (qTt S k v 1)))), ((fa 4), .inl (y 0, 16, .inl od)), ((fa 21), .inl (y 0, 192, .inl of)), ((a 0), .inr (2, [.ref (a 1), .ref (a 2), .ref (a 3), .ref (a 4), .ref (a 5), .ref (a 6), .int (S 0), .int (S 1), .int (S 4), .int (S 5)])), ((a 1), .inl (y 0, 32, .inl (zT S))), ((a 2), .inl (y 0, 16, .inl (zU S))), ((a 3), .inl (y 0, 2, .inl (zB S))), ((a 4), .inl (y 0, 3, .inl (zE S))), ((a 5), .inl (y 0, 384, .inl (zR S))), ((a 6), .inl (y 0, 6, .inl (zY S)))] H := hP
    have hD : va_D A [((fa 0), .inr (0, [.ref (fa 1), .ref (fa 21), .ref (fa 2), .ref (fa 3), .ref (fa 4), .int fr])), ((fa 1), .inl (y 0, 12, .inl cm)), ((fa 2), .inl (y 0, 192, .inl rd)), ((fa 3), .inl (y 0, 192, .inl (upd (upd td ((32 * k + 2 * v + 0) + 0) (qTt S k v 0)) ((32 * k + 2 * v + 0) + 1) (qTt S k v 1)))), ((fa 4), .inl (y 0, 16, .inl od)), ((fa 21), .inl (y 0, 192, .inl of)), ((a 0), .inr (2, [.ref (a 1), .ref (a 2), .ref (a 3), .ref (a 4), .ref (a 5), .ref (a 6), .int (S 0), .int (S 1), .int (S 4), .int (S 5)])), ((a 1), .inl (y 0, 32, .inl (zT S))), ((a 2), .inl (y 0, 16, .inl (zU S))), ((a 3), .inl (y 0, 2, .inl (zB S))), ((a 4), .inl (y 0, 3, .inl (zE S))), ((a 5), .inl (y 0, 384, .inl (zR S))), ((a 6), .inl (y 0, 6, .inl (zY S)))] := hD
    refine lv_iinc (v := 2) (lv' := [(6, .int 2), (5, .int (nI (32 * k + 2 * v + 0))), (4, .int 0), (0, .ref (fa 0)), (1, .ref (a 0)), (2, .int (nI k)), (3, .int (nI v))]) hx hb dX0_tellLevel_76 hl (k := 0) rfl (by decide) (by decide) rfl (fun ls hl => ?_)
    refine lv_goto (tgt := 37) hx hb dX0_tellLevel_79 (by decide) ?_
    refine lv_iload hx hb dX0_tellLevel_37 (lv_at hl 0 rfl) ?_
    refine lv_iconst (v := 2) hx hb dX0_tellLevel_39 (by decide) ?_
    refine lv_icmp_ge (tgt := 82) hx hb dX0_tellLevel_40 (by decide) (fun _ => ?_) (fun c_40 => absurd (by decide) c_40)
    refine W.widen (k := 0) (n := 0) (by first | exact Nat.le_of_ble_eq_true rfl | omega) (by first | exact Nat.le_of_ble_eq_true rfl | omega) ?_
    exact W.vret hx hb hr (fun t ht hW => ⟨⟨(), rfl, by first | rfl | trivial | simp_all, ⟨by rw [ht]; exact hP, hD⟩⟩, hS.F ht⟩) hS.2.2 dX0_tellLevel_82
  · refine lv_iconst (v := 4) hx hb dX0_tellLevel_10 (by decide) ?_
    refine lv_aload_n hx hb dX0_tellLevel_11 rfl (lv_at hl 1 rfl) ?_
    refine va_get (D := D) (ci := 2) (v := .ref (a 2)) (C := RX2) (T := TX2) (N := 10) hx hb htg iX2 hown hK hP 6 rfl rfl 1 (by decide) (htg _ tw_45) (fun _ h9 => h9) rfl dX0_tellLevel_12 ?_
    refine lv_iload_n hx hb dX0_tellLevel_15 rfl (lv_at hl 3 rfl) ?_
    refine va_iald hx hb hK hP 8 0 rfl rfl (vp_in_nI (by omega) (by decide)) dX0_tellLevel_16 ?_
    refine zz_top (y := (zU S) v) (congrArg (zU S) (nI_clamp (by omega))) ?_
    refine zz_top (y := S (11 + 3 * v)) (rfl) ?_
    refine lv_isub hx hb dX0_tellLevel_17 ?_
    refine lv_iconst (v := 4) hx hb dX0_tellLevel_18 (by decide) ?_
    refine lv_irem hx hb dX0_tellLevel_19 (by decide) ?_
    refine lv_goto (tgt := 24) hx hb dX0_tellLevel_20 (by decide) ?_
    refine lv_istore (lv' := [(4, .int ((4 - (S (11 + 3 * v))) - (4 - (S (11 + 3 * v))) / 4 * 4)), (0, .ref (fa 0)), (1, .ref (a 0)), (2, .int (nI k)), (3, .int (nI v))]) hx hb dX0_tellLevel_24 hl (by decide) rfl (fun ls hl => ?_)
    refine lv_iload_n hx hb dX0_tellLevel_26 rfl (lv_at hl 3 rfl) ?_
    refine lv_iload_n hx hb dX0_tellLevel_27 rfl (lv_at hl 4 rfl) ?_
    refine lv_iconst (v := 0) hx hb dX0_tellLevel_28 (by decide) ?_
    refine zr_calli (va_runSN (As := [.int (nI k), .int (nI v), .int 0]) (rest := []) ⟨hx, hb, hml, hown, hts⟩ (mX4_tiltAt l k v 0) ⟨va_cnB 3 hts (zgI tw_30) rfl rfl rfl hKN.2.2.1 (htg _ tw_23) (by decide +kernel) ⟨Nat.le_of_ble_eq_true rfl, Nat.le_of_ble_eq_true rfl⟩, (htg _ tw_29), trivial⟩ zP_pre rfl rfl hl.1 rfl (lv_room (Nat.le_of_ble_eq_true rfl)) dX0_tellLevel_29 ⟨Nat.zero_le _, Nat.zero_le _⟩) hS (fun r_4 H locs hw_29 hT hS => ?_)
    replace hP := hT _ _ hP
    obtain rfl : r_4 = nI (32 * k + 2 * v + 0) := hw_29
    refine lv_istore (lv' := [(5, .int (nI (32 * k + 2 * v + 0))), (4, .int ((4 - (S (11 + 3 * v))) - (4 - (S (11 + 3 * v))) / 4 * 4)), (0, .ref (fa 0)), (1, .ref (a 0)), (2, .int (nI k)), (3, .int (nI v))]) hx hb dX0_tellLevel_32 hl (by decide) rfl (fun ls hl => ?_)
    refine lv_iconst (v := 0) hx hb dX0_tellLevel_34 (by decide) ?_
    refine lv_istore (lv' := [(6, .int 0), (5, .int (nI (32 * k + 2 * v + 0))), (4, .int ((4 - (S (11 + 3 * v))) - (4 - (S (11 + 3 * v))) / 4 * 4)), (0, .ref (fa 0)), (1, .ref (a 0)), (2, .int (nI k)), (3, .int (nI v))]) hx hb dX0_tellLevel_35 hl (by decide) rfl (fun ls hl => ?_)
    refine lv_iload hx hb dX0_tellLevel_37 (lv_at hl 0 rfl) ?_
    refine lv_iconst (v := 2) hx hb dX0_tellLevel_39 (by decide) ?_
    refine lv_icmp_ge (tgt := 82) hx hb dX0_tellLevel_40 (by decide) (fun c_40 => absurd c_40 (by decide)) (fun _ => ?_)
    refine lv_aload_n hx hb dX0_tellLevel_43 rfl (lv_at hl 3 rfl) ?_
    refine va_get (D := D) (ci := 0) (v := .ref (fa 3)) (C := RX0) (T := TX0) (N := 6) hx hb htg iX0 hown hK hP 0 rfl rfl 3 (by decide) (htg _ tw_8) (fun _ h9 => h9) rfl dX0_tellLevel_44 ?_
    refine lv_iload hx hb dX0_tellLevel_47 (lv_at hl 1 rfl) ?_
    refine lv_iload hx hb dX0_tellLevel_49 (lv_at hl 0 rfl) ?_
    refine lv_iadd hx hb dX0_tellLevel_51 ?_
    refine zz_top (y := nI ((32 * k + 2 * v + 0) + 0)) (nI_add (32 * k + 2 * v + 0) 0) ?_
    refine lv_iload hx hb dX0_tellLevel_52 (lv_at hl 2 rfl) ?_
    refine lv_aload_n hx hb dX0_tellLevel_54 rfl (lv_at hl 3 rfl) ?_
    refine va_get (D := D) (ci := 0) (v := .ref (fa 2)) (C := RX0) (T := TX0) (N := 6) hx hb htg iX0 hown hK hP 0 rfl rfl 2 (by decide) (htg _ tw_7) (fun _ h9 => h9) rfl dX0_tellLevel_55 ?_
    refine lv_iload hx hb dX0_tellLevel_58 (lv_at hl 1 rfl) ?_
    refine va_iald hx hb hK hP 2 0 rfl rfl (vp_in_nI (by omega) (by decide)) dX0_tellLevel_60 ?_
    refine zz_top (y := rd (32 * k + 2 * v + 0)) (congrArg rd (nI_clamp (by omega))) ?_
    refine zz_top (y := qTr S k v 0) ((congrArg rd (by omega)).trans hr0) ?_
    refine lv_aload_n hx hb dX0_tellLevel_61 rfl (lv_at hl 3 rfl) ?_
    refine va_get (D := D) (ci := 0) (v := .ref (fa 2)) (C := RX0) (T := TX0) (N := 6) hx hb htg iX0 hown hK hP 0 rfl rfl 2 (by decide) (htg _ tw_7) (fun _ h9 => h9) rfl dX0_tellLevel_62 ?_
    refine lv_iload hx hb dX0_tellLevel_65 (lv_at hl 1 rfl) ?_
    refine lv_iconst (v := 1) hx hb dX0_tellLevel_67 (by decide) ?_
    refine lv_iadd hx hb dX0_tellLevel_68 ?_
    refine zz_top (y := nI ((32 * k + 2 * v + 0) + 1)) (nI_add (32 * k + 2 * v + 0) 1) ?_
    refine va_iald hx hb hK hP 2 0 rfl rfl (vp_in_nI (by omega) (by decide)) dX0_tellLevel_69 ?_
    refine zz_top (y := rd ((32 * k + 2 * v + 0) + 1)) (congrArg rd (nI_clamp (by omega))) ?_
    refine zz_top (y := qTr S k v 1) ((congrArg rd (by omega)).trans hr1) ?_
    refine lv_iload hx hb dX0_tellLevel_70 (lv_at hl 0 rfl) ?_
    refine zr_calli (va_runSN (As := [.int ((4 - (S (11 + 3 * v))) - (4 - (S (11 + 3 * v))) / 4 * 4), .int (qTr S k v 0), .int (qTr S k v 1), .int 0]) (rest := [.int (nI ((32 * k + 2 * v + 0) + 0)), .ref (fa 3)]) ⟨hx, hb, hml, hown, hts⟩ (mX4_turnedTilt l ((4 - (S (11 + 3 * v))) - (4 - (S (11 + 3 * v))) / 4 * 4) (qTr S k v 0) (qTr S k v 1) 0 (by first | assumption | rfl | omega | decide)) ⟨va_cnB 4 hts (zgI tw_47) rfl rfl rfl hKN.2.2.2.2 (htg _ tw_23) (by decide +kernel) ⟨Nat.le_of_ble_eq_true rfl, Nat.le_of_ble_eq_true rfl⟩, (htg _ tw_46), trivial⟩ zP_pre rfl rfl hl.1 rfl (lv_room (Nat.le_of_ble_eq_true rfl)) dX0_tellLevel_72 ⟨Nat.zero_le _, Nat.zero_le _⟩) hS (fun r_5 H locs hw_72 hT hS => ?_)
    replace hP := hT _ _ hP
    obtain rfl : r_5 = zTurn ((4 - (S (11 + 3 * v))) - (4 - (S (11 + 3 * v))) / 4 * 4) (qTr S k v 0) (qTr S k v 1) 0 := hw_72
    refine zz_top (y := qTt S k v 0) (zTt_on c_7 htn) ?_
    refine va_iast hx hb hK hP hD hS 3 0 rfl rfl (vp_in_nI (by omega) (by decide)) dX0_tellLevel_75 (fun H locs hP hD hS => ?_)
    rw [show (nI ((32 * k + 2 * v + 0) + 0)).toNatClampNeg = (32 * k + 2 * v + 0) + 0 from (nI_clamp (by omega))] at hP hD
    have hP : va_P D vwCl [((fa 0), .inr (0, [.ref (fa 1), .ref (fa 21), .ref (fa 2), .ref (fa 3), .ref (fa 4), .int fr])), ((fa 1), .inl (y 0, 12, .inl cm)), ((fa 2), .inl (y 0, 192, .inl rd)), ((fa 3), .inl (y 0, 192, .inl (upd td ((32 * k + 2 * v + 0) + 0) (qTt S k v 0)))), ((fa 4), .inl (y 0, 16, .inl od)), ((fa 21), .inl (y 0, 192, .inl of)), ((a 0), .inr (2, [.ref (a 1), .ref (a 2), .ref (a 3), .ref (a 4), .ref (a 5), .ref (a 6), .int (S 0), .int (S 1), .int (S 4), .int (S 5)])), ((a 1), .inl (y 0, 32, .inl (zT S))), ((a 2), .inl (y 0, 16, .inl (zU S))), ((a 3), .inl (y 0, 2, .inl (zB S))), ((a 4), .inl (y 0, 3, .inl (zE S))), ((a 5), .inl (y 0, 384, .inl (zR S))), ((a 6), .inl (y 0, 6, .inl (zY S)))] H := hP
    have hD : va_D A [((fa 0), .inr (0, [.ref (fa 1), .ref (fa 21), .ref (fa 2), .ref (fa 3), .ref (fa 4), .int fr])), ((fa 1), .inl (y 0, 12, .inl cm)), ((fa 2), .inl (y 0, 192, .inl rd)), ((fa 3), .inl (y 0, 192, .inl (upd td ((32 * k + 2 * v + 0) + 0) (qTt S k v 0)))), ((fa 4), .inl (y 0, 16, .inl od)), ((fa 21), .inl (y 0, 192, .inl of)), ((a 0), .inr (2, [.ref (a 1), .ref (a 2), .ref (a 3), .ref (a 4), .ref (a 5), .ref (a 6), .int (S 0), .int (S 1), .int (S 4), .int (S 5)])), ((a 1), .inl (y 0, 32, .inl (zT S))), ((a 2), .inl (y 0, 16, .inl (zU S))), ((a 3), .inl (y 0, 2, .inl (zB S))), ((a 4), .inl (y 0, 3, .inl (zE S))), ((a 5), .inl (y 0, 384, .inl (zR S))), ((a 6), .inl (y 0, 6, .inl (zY S)))] := hD
    refine lv_iinc (v := 1) (lv' := [(6, .int 1), (5, .int (nI (32 * k + 2 * v + 0))), (4, .int ((4 - (S (11 + 3 * v))) - (4 - (S (11 + 3 * v))) / 4 * 4)), (0, .ref (fa 0)), (1, .ref (a 0)), (2, .int (nI k)), (3, .int (nI v))]) hx hb dX0_tellLevel_76 hl (k := 0) rfl (by decide) (by decide) rfl (fun ls hl => ?_)
    refine lv_goto (tgt := 37) hx hb dX0_tellLevel_79 (by decide) ?_
    refine lv_iload hx hb dX0_tellLevel_37 (lv_at hl 0 rfl) ?_
    refine lv_iconst (v := 2) hx hb dX0_tellLevel_39 (by decide) ?_
    refine lv_icmp_ge (tgt := 82) hx hb dX0_tellLevel_40 (by decide) (fun c_40 => absurd c_40 (by decide)) (fun _ => ?_)
    refine lv_aload_n hx hb dX0_tellLevel_43 rfl (lv_at hl 3 rfl) ?_
    refine va_get (D := D) (ci := 0) (v := .ref (fa 3)) (C := RX0) (T := TX0) (N := 6) hx hb htg iX0 hown hK hP 0 rfl rfl 3 (by decide) (htg _ tw_8) (fun _ h9 => h9) rfl dX0_tellLevel_44 ?_
    refine lv_iload hx hb dX0_tellLevel_47 (lv_at hl 1 rfl) ?_
    refine lv_iload hx hb dX0_tellLevel_49 (lv_at hl 0 rfl) ?_
    refine lv_iadd hx hb dX0_tellLevel_51 ?_
    refine zz_top (y := nI ((32 * k + 2 * v + 0) + 1)) (nI_add (32 * k + 2 * v + 0) 1) ?_
    refine lv_iload hx hb dX0_tellLevel_52 (lv_at hl 2 rfl) ?_
    refine lv_aload_n hx hb dX0_tellLevel_54 rfl (lv_at hl 3 rfl) ?_
    refine va_get (D := D) (ci := 0) (v := .ref (fa 2)) (C := RX0) (T := TX0) (N := 6) hx hb htg iX0 hown hK hP 0 rfl rfl 2 (by decide) (htg _ tw_7) (fun _ h9 => h9) rfl dX0_tellLevel_55 ?_
    refine lv_iload hx hb dX0_tellLevel_58 (lv_at hl 1 rfl) ?_
    refine va_iald hx hb hK hP 2 0 rfl rfl (vp_in_nI (by omega) (by decide)) dX0_tellLevel_60 ?_
    refine zz_top (y := rd (32 * k + 2 * v + 0)) (congrArg rd (nI_clamp (by omega))) ?_
    refine zz_top (y := qTr S k v 0) ((congrArg rd (by omega)).trans hr0) ?_
    refine lv_aload_n hx hb dX0_tellLevel_61 rfl (lv_at hl 3 rfl) ?_
    refine va_get (D := D) (ci := 0) (v := .ref (fa 2)) (C := RX0) (T := TX0) (N := 6) hx hb htg iX0 hown hK hP 0 rfl rfl 2 (by decide) (htg _ tw_7) (fun _ h9 => h9) rfl dX0_tellLevel_62 ?_
    refine lv_iload hx hb dX0_tellLevel_65 (lv_at hl 1 rfl) ?_
    refine lv_iconst (v := 1) hx hb dX0_tellLevel_67 (by decide) ?_
    refine lv_iadd hx hb dX0_tellLevel_68 ?_
    refine zz_top (y := nI ((32 * k + 2 * v + 0) + 1)) (nI_add (32 * k + 2 * v + 0) 1) ?_
    refine va_iald hx hb hK hP 2 0 rfl rfl (vp_in_nI (by omega) (by decide)) dX0_tellLevel_69 ?_
    refine zz_top (y := rd ((32 * k + 2 * v + 0) + 1)) (congrArg rd (nI_clamp (by omega))) ?_
    refine zz_top (y := qTr S k v 1) ((congrArg rd (by omega)).trans hr1) ?_
    refine lv_iload hx hb dX0_tellLevel_70 (lv_at hl 0 rfl) ?_
    refine zr_calli (va_runSN (As := [.int ((4 - (S (11 + 3 * v))) - (4 - (S (11 + 3 * v))) / 4 * 4), .int (qTr S k v 0), .int (qTr S k v 1), .int 1]) (rest := [.int (nI ((32 * k + 2 * v + 0) + 1)), .ref (fa 3)]) ⟨hx, hb, hml, hown, hts⟩ (mX4_turnedTilt l ((4 - (S (11 + 3 * v))) - (4 - (S (11 + 3 * v))) / 4 * 4) (qTr S k v 0) (qTr S k v 1) 1 (by first | assumption | rfl | omega | decide)) ⟨va_cnB 4 hts (zgI tw_47) rfl rfl rfl hKN.2.2.2.2 (htg _ tw_23) (by decide +kernel) ⟨Nat.le_of_ble_eq_true rfl, Nat.le_of_ble_eq_true rfl⟩, (htg _ tw_46), trivial⟩ zP_pre rfl rfl hl.1 rfl (lv_room (Nat.le_of_ble_eq_true rfl)) dX0_tellLevel_72 ⟨Nat.zero_le _, Nat.zero_le _⟩) hS (fun r_6 H locs hw_72 hT hS => ?_)
    replace hP := hT _ _ hP
    obtain rfl : r_6 = zTurn ((4 - (S (11 + 3 * v))) - (4 - (S (11 + 3 * v))) / 4 * 4) (qTr S k v 0) (qTr S k v 1) 1 := hw_72
    refine zz_top (y := qTt S k v 1) (zTt_on c_7 htn) ?_
    refine va_iast hx hb hK hP hD hS 3 0 rfl rfl (vp_in_nI (by omega) (by decide)) dX0_tellLevel_75 (fun H locs hP hD hS => ?_)
    rw [show (nI ((32 * k + 2 * v + 0) + 1)).toNatClampNeg = (32 * k + 2 * v + 0) + 1 from (nI_clamp (by omega))] at hP hD
    have hP : va_P D vwCl [((fa 0), .inr (0, [.ref (fa 1), .ref (fa 21), .ref (fa 2), .ref (fa 3), .ref (fa 4), .int fr])), ((fa 1), .inl (y 0, 12, .inl cm)), ((fa 2), .inl (y 0, 192, .inl rd)), ((fa 3), .inl (y 0, 192, .inl (upd (upd td ((32 * k + 2 * v + 0) + 0) (qTt S k v 0)) ((32 * k + 2 * v + 0) + 1) (qTt S k v 1)))), ((fa 4), .inl (y 0, 16, .inl od)), ((fa 21), .inl (y 0, 192, .inl of)), ((a 0), .inr (2, [.ref (a 1), .ref (a 2), .ref (a 3), .ref (a 4), .ref (a 5), .ref (a 6), .int (S 0), .int (S 1), .int (S 4), .int (S 5)])), ((a 1), .inl (y 0, 32, .inl (zT S))), ((a 2), .inl (y 0, 16, .inl (zU S))), ((a 3), .inl (y 0, 2, .inl (zB S))), ((a 4), .inl (y 0, 3, .inl (zE S))), ((a 5), .inl (y 0, 384, .inl (zR S))), ((a 6), .inl (y 0, 6, .inl (zY S)))] H := hP
    have hD : va_D A [((fa 0), .inr (0, [.ref (fa 1), .ref (fa 21), .ref (fa 2), .ref (fa 3), .ref (fa 4), .int fr])), ((fa 1), .inl (y 0, 12, .inl cm)), ((fa 2), .inl (y 0, 192, .inl rd)), ((fa 3), .inl (y 0, 192, .inl (upd (upd td ((32 * k + 2 * v + 0) + 0) (qTt S k v 0)) ((32 * k + 2 * v + 0) + 1) (qTt S k v 1)))), ((fa 4), .inl (y 0, 16, .inl od)), ((fa 21), .inl (y 0, 192, .inl of)), ((a 0), .inr (2, [.ref (a 1), .ref (a 2), .ref (a 3), .ref (a 4), .ref (a 5), .ref (a 6), .int (S 0), .int (S 1), .int (S 4), .int (S 5)])), ((a 1), .inl (y 0, 32, .inl (zT S))), ((a 2), .inl (y 0, 16, .inl (zU S))), ((a 3), .inl (y 0, 2, .inl (zB S))), ((a 4), .inl (y 0, 3, .inl (zE S))), ((a 5), .inl (y 0, 384, .inl (zR S))), ((a 6), .inl (y 0, 6, .inl (zY S)))] := hD
    refine lv_iinc (v := 2) (lv' := [(6, .int 2), (5, .int (nI (32 * k + 2 * v + 0))), (4, .int ((4 - (S (11 + 3 * v))) - (4 - (S (11 + 3 * v))) / 4 * 4)), (0, .ref (fa 0)), (1, .ref (a 0)), (2, .int (nI k)), (3, .int (nI v))]) hx hb dX0_tellLevel_76 hl (k := 0) rfl (by decide) (by decide) rfl (fun ls hl => ?_)
    refine lv_goto (tgt := 37) hx hb dX0_tellLevel_79 (by decide) ?_
    refine lv_iload hx hb dX0_tellLevel_37 (lv_at hl 0 rfl) ?_
    refine lv_iconst (v := 2) hx hb dX0_tellLevel_39 (by decide) ?_
    refine lv_icmp_ge (tgt := 82) hx hb dX0_tellLevel_40 (by decide) (fun _ => ?_) (fun c_40 => absurd (by decide) c_40)
    refine W.widen (k := 0) (n := 0) (by first | exact Nat.le_of_ble_eq_true rfl | omega) (by first | exact Nat.le_of_ble_eq_true rfl | omega) ?_
    exact W.vret hx hb hr (fun t ht hW => ⟨⟨(), rfl, by first | rfl | trivial | simp_all, ⟨by rw [ht]; exact hP, hD⟩⟩, hS.F ht⟩) hS.2.2 dX0_tellLevel_82
