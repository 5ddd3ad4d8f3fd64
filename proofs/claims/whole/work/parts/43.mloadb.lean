set_option maxHeartbeats 4000000 in
set_option maxRecDepth 100000 in
theorem mX5_load_b1 (l : Launch) (D : va_G) (y : Nat → ClassId) (sz : Nat) (g : Nat → Nat) (S : (Nat → Int32)) (th : Int32) (sv : Nat) (ln : Nat) (at9 : Nat) (pl : Nat) (va : Int32) (hs : Int64) (hb1 : S 1 = 0) : Met l yX5_load (ws_ yX5_load cX5_load 2 (some .int)) ({ frames := 1, cells := 0, slots := 0, locals := 21 }) (va_Pc [.ref (g 0)] (zRW D y [((g 0), .inr (5, [.int th, .ref (g 1), .int (nI sv), .ref (g 2), .ref (g 3), .int (nI ln), .int (nI at9), .int (nI pl), .int va, .long hs])), ((g 1), .inl (y 0, 4023, .inl S))] sz)) (va_Qi (fun (r : Int32) (_ : Unit) => r = 0) (fun (_ : Unit) t => zOut D (va_A [((g 0), .inr (5, [.int th, .ref (g 1), .int (nI sv), .ref (g 2), .ref (g 3), .int (nI ln), .int (nI at9), .int (nI pl), .int va, .long hs])), ((g 1), .inl (y 0, 4023, .inl S))] sz) [((g 0), .inr (5, [.int 1, .ref (g 1), .int (nI sv), .ref (g 2), .ref (g 3), .int (nI ln), .int (nI at9), .int (nI pl), .int va, .long hs])), ((g 1), .inl (y 0, 4023, .inl S))] t) (va_A [((g 0), .inr (5, [.int th, .ref (g 1), .int (nI sv), .ref (g 2), .ref (g 3), .int (nI ln), .int (nI at9), .int (nI pl), .int va, .long hs])), ((g 1), .inl (y 0, 4023, .inl S))] sz)) 0 0 (va_A [((g 0), .inr (5, [.int th, .ref (g 1), .int (nI sv), .ref (g 2), .ref (g 3), .int (nI ln), .int (nI at9), .int (nI pl), .int va, .long hs])), ((g 1), .inl (y 0, 4023, .inl S))] sz) := by
  refine Met.ofW (cc := cX5_load) (maxL := 2) (ret := (some .int)) (by decide) rfl ?_
  intro p e s m args below meth c s₁ B hml hpre9
  obtain ⟨rfl, hsz, hP, hKN, hD0⟩ := hpre9
  have hK := hKN.1
  have hx := B.exec
  have hb := B.bytes
  have hr := B.returns
  have hts := atoms_spec (ws := (ws_ yX5_load cX5_load 2 (some .int))) B.pre
  have htg : ∀ w ∈ gT, w.before _ s = true := fun w h => hts w (List.mem_cons_of_mem _ h)
  have hown : s.vm.findClass RX5 = some m.cls := findClass_of_methodNamed B.named
  have hlocks := B.notSynchronized
  subst hsz
  have hD := hD0.self (sz := s.heap.size)
  clear hD0
  generalize hAe : va_A [((g 0), .inr (5, [.int th, .ref (g 1), .int (nI sv), .ref (g 2), .ref (g 3), .int (nI ln), .int (nI at9), .int (nI pl), .int va, .long hs])), ((g 1), .inl (y 0, 4023, .inl S))] s.heap.size = A at hD ⊢
  have hA : ∀ q : Nat, s.heap.size ≤ q → A q := fun q h => by rw [← hAe]; exact Or.inr h
  have hS : va_S A s.heap s.heap [] := va_S.rf
  have hP : va_P D vwCl [((g 0), .inr (5, [.int th, .ref (g 1), .int (nI sv), .ref (g 2), .ref (g 3), .int (nI ln), .int (nI at9), .int (nI pl), .int va, .long hs])), ((g 1), .inl (y 0, 4023, .inl S))] s.heap := hP
  have hl := lv_entry ([.ref (g 0)]) (n := 2) (Nat.le_of_ble_eq_true rfl)
  rw [lg_entry_eq]
  generalize (lg_sl ([.ref (g 0)]) ++ List.replicate (2 - (lg_sl ([.ref (g 0)])).length) Slot.unset).toArray = ls at hl ⊢
  have hl : lv_has ls 2 [(0, .ref (g 0))] := hl
  refine lv_aload_n hx hb dX5_load_0 rfl (lv_at hl 0 rfl) ?_
  refine lv_aload_n hx hb dX5_load_1 rfl (lv_at hl 0 rfl) ?_
  refine va_get (D := D) (ci := 5) (v := .ref (g 1)) (C := RX5) (T := TX5) (N := 10) hx hb htg iX5 hown hK hP 0 rfl rfl 1 (by decide) (htg _ tw_359) (fun _ h9 => h9) rfl dX5_load_2 ?_
  refine lv_iconst (v := 1) hx hb dX5_load_5 (by decide) ?_
  refine va_iald hx hb hK hP 1 0 rfl rfl (vp_in_nI (n := 1) (by decide) (by decide)) dX5_load_6 ?_
  refine zz_top (y := S 1) (congrArg S (by decide)) ?_
  refine lv_if_ne (tgt := 14) hx hb dX5_load_7 (by decide) (fun c_7 => absurd (hb1) c_7) (fun _ => ?_)
  refine lv_iconst (v := 1) hx hb dX5_load_10 (by decide) ?_
  refine lv_goto (tgt := 26) hx hb dX5_load_11 (by decide) ?_
  refine zw_calli (wr := [((g 1), .inl (y 0, 4023, .inl S))]) (w1 := (fun _ : Unit => [((g 0), .inr (5, [.int 1, .ref (g 1), .int (nI sv), .ref (g 2), .ref (g 3), .int (nI ln), .int (nI at9), .int (nI pl), .int va, .long hs]))])) hP hD hS hA [0] [1] rfl rfl (by decide +kernel) (by decide +kernel) (va_runV (As := [.int 1]) (rest := []) ⟨hx, hb, hml, hown, hts⟩ (mX5_holds l D y _ g th sv ln at9 pl va hs 1) (cwV 1 hts (zgV tw_431 tw_432 tw_433 tw_369 tw_365) rfl rfl rfl (by decide +kernel) ⟨Nat.le_of_ble_eq_true rfl, Nat.le_of_ble_eq_true rfl⟩) (zRW_preV hKN hP hD (ci := 5) (q0 := 0) rfl rfl [0] rfl (by decide)) rfl rfl hl.1 rfl (lv_room (Nat.le_of_ble_eq_true rfl)) dX5_load_26 ⟨Nat.zero_le _, Nat.zero_le _⟩) (fun r_1 u_2 H locs hw_26 hP hD hS => ?_)
  have hP : va_P D vwCl [((g 1), .inl (y 0, 4023, .inl S)), ((g 0), .inr (5, [.int 1, .ref (g 1), .int (nI sv), .ref (g 2), .ref (g 3), .int (nI ln), .int (nI at9), .int (nI pl), .int va, .long hs]))] H := hP
  have hD : va_D A [((g 1), .inl (y 0, 4023, .inl S)), ((g 0), .inr (5, [.int 1, .ref (g 1), .int (nI sv), .ref (g 2), .ref (g 3), .int (nI ln), .int (nI at9), .int (nI pl), .int va, .long hs]))] := hD
  obtain rfl : r_1 = 0 := hw_26
  refine lv_if_ne (tgt := 34) hx hb dX5_load_29 (by decide) (fun c_29 => absurd (by decide) c_29) (fun _ => ?_)
  refine lv_iconst (v := 0) hx hb dX5_load_32 (by decide) ?_
  have hP := hP.sub (ws' := [((g 0), .inr (5, [.int 1, .ref (g 1), .int (nI sv), .ref (g 2), .ref (g 3), .int (nI ln), .int (nI at9), .int (nI pl), .int va, .long hs])), ((g 1), .inl (y 0, 4023, .inl S))]) [1, 0] rfl
  have hD := hD.sub (ws' := [((g 0), .inr (5, [.int 1, .ref (g 1), .int (nI sv), .ref (g 2), .ref (g 3), .int (nI ln), .int (nI at9), .int (nI pl), .int va, .long hs])), ((g 1), .inl (y 0, 4023, .inl S))]) [1, 0] (by decide) rfl
  refine W.widen (k := 0) (n := 0) (by first | exact Nat.le_of_ble_eq_true rfl | omega) (by first | exact Nat.le_of_ble_eq_true rfl | omega) ?_
  exact W.iret (v := 0) hx hb hr (fun t ht hW => ⟨⟨0, (), rfl, by first | rfl | trivial | simp_all, ⟨by rw [ht]; exact hP, hD⟩⟩, hS.F ht⟩) hS.2.2 dX5_load_33

set_option maxHeartbeats 4000000 in
set_option maxRecDepth 100000 in
theorem mX5_load_b2 (l : Launch) (D : va_G) (y : Nat → ClassId) (sz : Nat) (g : Nat → Nat) (S : (Nat → Int32)) (th : Int32) (sv : Nat) (ln : Nat) (at9 : Nat) (pl : Nat) (va : Int32) (hs : Int64) (tx : (Nat → Nat)) (hn : ln ≤ 60) (htx : ∀ i : Nat, i < ln → tx i < 127) (hb1 : ¬ S 1 = 0) (hb2 : ¬ (rErr tx z0 ln ln ∧ rRun tx z0 ln 0 = 6)) : Met l yX5_load (ws_ yX5_load cX5_load 2 (some .int)) ({ frames := 4, cells := 0, slots := 0, locals := 89 }) (va_Pc [.ref (g 0)] (zRW D y [((g 0), .inr (5, [.int th, .ref (g 1), .int (nI sv), .ref (g 2), .ref (g 3), .int (nI ln), .int (nI at9), .int (nI pl), .int va, .long hs])), ((g 1), .inl (y 0, 4023, .inl S)), ((g 3), .inl (y 0, 60, .inl (zX tx)))] sz)) (va_Qi (fun (r : Int32) (u : (Nat × Nat × Int32)) => r = 0) (fun (u : (Nat × Nat × Int32)) t => zOut D (va_A [((g 0), .inr (5, [.int th, .ref (g 1), .int (nI sv), .ref (g 2), .ref (g 3), .int (nI ln), .int (nI at9), .int (nI pl), .int va, .long hs])), ((g 1), .inl (y 0, 4023, .inl S)), ((g 3), .inl (y 0, 60, .inl (zX tx)))] sz) [((g 0), .inr (5, [.int 2, .ref (g 1), .int (nI sv), .ref (g 2), .ref (g 3), .int (nI ln), .int (nI u.1), .int (nI u.2.1), .int u.2.2, .long hs])), ((g 1), .inl (y 0, 4023, .inl S)), ((g 3), .inl (y 0, 60, .inl (zX tx)))] t) (va_A [((g 0), .inr (5, [.int th, .ref (g 1), .int (nI sv), .ref (g 2), .ref (g 3), .int (nI ln), .int (nI at9), .int (nI pl), .int va, .long hs])), ((g 1), .inl (y 0, 4023, .inl S)), ((g 3), .inl (y 0, 60, .inl (zX tx)))] sz)) 0 0 (va_A [((g 0), .inr (5, [.int th, .ref (g 1), .int (nI sv), .ref (g 2), .ref (g 3), .int (nI ln), .int (nI at9), .int (nI pl), .int va, .long hs])), ((g 1), .inl (y 0, 4023, .inl S)), ((g 3), .inl (y 0, 60, .inl (zX tx)))] sz) := by
  refine Met.ofW (cc := cX5_load) (maxL := 2) (ret := (some .int)) (by decide) rfl ?_
  intro p e s m args below meth c s₁ B hml hpre9
  obtain ⟨rfl, hsz, hP, hKN, hD0⟩ := hpre9
  have hK := hKN.1
  have hx := B.exec
  have hb := B.bytes
  have hr := B.returns
  have hts := atoms_spec (ws := (ws_ yX5_load cX5_load 2 (some .int))) B.pre
  have htg : ∀ w ∈ gT, w.before _ s = true := fun w h => hts w (List.mem_cons_of_mem _ h)
  have hown : s.vm.findClass RX5 = some m.cls := findClass_of_methodNamed B.named
  have hlocks := B.notSynchronized
  subst hsz
  have hD := hD0.self (sz := s.heap.size)
  clear hD0
  generalize hAe : va_A [((g 0), .inr (5, [.int th, .ref (g 1), .int (nI sv), .ref (g 2), .ref (g 3), .int (nI ln), .int (nI at9), .int (nI pl), .int va, .long hs])), ((g 1), .inl (y 0, 4023, .inl S)), ((g 3), .inl (y 0, 60, .inl (zX tx)))] s.heap.size = A at hD ⊢
  have hA : ∀ q : Nat, s.heap.size ≤ q → A q := fun q h => by rw [← hAe]; exact Or.inr h
  have hS : va_S A s.heap s.heap [] := va_S.rf
  have hP : va_P D vwCl [((g 0), .inr (5, [.int th, .ref (g 1), .int (nI sv), .ref (g 2), .ref (g 3), .int (nI ln), .int (nI at9), .int (nI pl), .int va, .long hs])), ((g 1), .inl (y 0, 4023, .inl S)), ((g 3), .inl (y 0, 60, .inl (zX tx)))] s.heap := hP
  have hl := lv_entry ([.ref (g 0)]) (n := 2) (Nat.le_of_ble_eq_true rfl)
  rw [lg_entry_eq]
  generalize (lg_sl ([.ref (g 0)]) ++ List.replicate (2 - (lg_sl ([.ref (g 0)])).length) Slot.unset).toArray = ls at hl ⊢
  have hl : lv_has ls 2 [(0, .ref (g 0))] := hl
  refine lv_aload_n hx hb dX5_load_0 rfl (lv_at hl 0 rfl) ?_
  refine lv_aload_n hx hb dX5_load_1 rfl (lv_at hl 0 rfl) ?_
  refine va_get (D := D) (ci := 5) (v := .ref (g 1)) (C := RX5) (T := TX5) (N := 10) hx hb htg iX5 hown hK hP 0 rfl rfl 1 (by decide) (htg _ tw_359) (fun _ h9 => h9) rfl dX5_load_2 ?_
  refine lv_iconst (v := 1) hx hb dX5_load_5 (by decide) ?_
  refine va_iald hx hb hK hP 1 0 rfl rfl (vp_in_nI (n := 1) (by decide) (by decide)) dX5_load_6 ?_
  refine zz_top (y := S 1) (congrArg S (by decide)) ?_
  refine lv_if_ne (tgt := 14) hx hb dX5_load_7 (by decide) (fun _ => ?_) (fun c_7 => absurd c_7 (hb1))
  refine lv_aload_n hx hb dX5_load_14 rfl (lv_at hl 0 rfl) ?_
  refine zw_calli (wr := [((g 1), .inl (y 0, 4023, .inl S))]) (w1 := (fun u : (Nat × Nat × Int32) => [((g 0), .inr (5, [.int th, .ref (g 1), .int (nI sv), .ref (g 2), .ref (g 3), .int (nI ln), .int (nI u.1), .int (nI u.2.1), .int u.2.2, .long hs])), ((g 3), .inl (y 0, 60, .inl (zX tx)))])) hP hD hS hA [0, 2] [1] rfl rfl (by decide +kernel) (by decide +kernel) (va_runV (As := []) (rest := [.ref (g 0)]) ⟨hx, hb, hml, hown, hts⟩ (mX5_areReadings l D y _ g th sv ln at9 pl va hs tx (by first | assumption | rfl | omega | decide) (by first | assumption | rfl | omega | decide)) (cwV 0 hts (zgV tw_472 tw_473 tw_474 tw_369 tw_467) rfl rfl rfl (by decide +kernel) ⟨Nat.le_of_ble_eq_true rfl, Nat.le_of_ble_eq_true rfl⟩) (zRW_preV hKN hP hD (ci := 5) (q0 := 0) rfl rfl [0, 2] rfl (by decide)) rfl rfl hl.1 rfl (lv_room (Nat.le_of_ble_eq_true rfl)) dX5_load_15 ⟨Nat.zero_le _, Nat.zero_le _⟩) (fun r_1 u_2 H locs hw_15 hP hD hS => ?_)
  have hP : va_P D vwCl [((g 1), .inl (y 0, 4023, .inl S)), ((g 0), .inr (5, [.int th, .ref (g 1), .int (nI sv), .ref (g 2), .ref (g 3), .int (nI ln), .int (nI u_2.1), .int (nI u_2.2.1), .int u_2.2.2, .long hs])), ((g 3), .inl (y 0, 60, .inl (zX tx)))] H := hP
  have hD : va_D A [((g 1), .inl (y 0, 4023, .inl S)), ((g 0), .inr (5, [.int th, .ref (g 1), .int (nI sv), .ref (g 2), .ref (g 3), .int (nI ln), .int (nI u_2.1), .int (nI u_2.2.1), .int u_2.2.2, .long hs])), ((g 3), .inl (y 0, 60, .inl (zX tx)))] := hD
  try dsimp only at hw_15
  rcases hw_15 with ⟨er, hB⟩ | ⟨er, -, hE⟩
  rotate_left
  · exact absurd hE hb2
  refine zz_top (y := 0) er ?_
  refine lv_if_ne (tgt := 25) hx hb dX5_load_18 (by decide) (fun c_18 => absurd (by decide) c_18) (fun _ => ?_)
  refine lv_iconst (v := 2) hx hb dX5_load_21 (by decide) ?_
  refine lv_goto (tgt := 26) hx hb dX5_load_22 (by decide) ?_
  refine zw_calli (wr := [((g 1), .inl (y 0, 4023, .inl S)), ((g 3), .inl (y 0, 60, .inl (zX tx)))]) (w1 := (fun _ : Unit => [((g 0), .inr (5, [.int 2, .ref (g 1), .int (nI sv), .ref (g 2), .ref (g 3), .int (nI ln), .int (nI u_2.1), .int (nI u_2.2.1), .int u_2.2.2, .long hs]))])) hP hD hS hA [1] [0, 2] rfl rfl (by decide +kernel) (by decide +kernel) (va_runV (As := [.int 2]) (rest := []) ⟨hx, hb, hml, hown, hts⟩ (mX5_holds l D y _ g th sv ln u_2.1 u_2.2.1 u_2.2.2 hs 2) (cwV 1 hts (zgV tw_431 tw_432 tw_433 tw_369 tw_365) rfl rfl rfl (by decide +kernel) ⟨Nat.le_of_ble_eq_true rfl, Nat.le_of_ble_eq_true rfl⟩) (zRW_preV hKN hP hD (ci := 5) (q0 := 1) rfl rfl [1] rfl (by decide)) rfl rfl hl.1 rfl (lv_room (Nat.le_of_ble_eq_true rfl)) dX5_load_26 ⟨Nat.zero_le _, Nat.zero_le _⟩) (fun r_3 u_4 H locs hw_26 hP hD hS => ?_)
  have hP : va_P D vwCl [((g 1), .inl (y 0, 4023, .inl S)), ((g 3), .inl (y 0, 60, .inl (zX tx))), ((g 0), .inr (5, [.int 2, .ref (g 1), .int (nI sv), .ref (g 2), .ref (g 3), .int (nI ln), .int (nI u_2.1), .int (nI u_2.2.1), .int u_2.2.2, .long hs]))] H := hP
  have hD : va_D A [((g 1), .inl (y 0, 4023, .inl S)), ((g 3), .inl (y 0, 60, .inl (zX tx))), ((g 0), .inr (5, [.int 2, .ref (g 1), .int (nI sv), .ref (g 2), .ref (g 3), .int (nI ln), .int (nI u_2.1), .int (nI u_2.2.1), .int u_2.2.2, .long hs]))] := hD
  obtain rfl : r_3 = 0 := hw_26
  refine lv_if_ne (tgt := 34) hx hb dX5_load_29 (by decide) (fun c_29 => absurd (by decide) c_29) (fun _ => ?_)
  refine lv_iconst (v := 0) hx hb dX5_load_32 (by decide) ?_
  have hP := hP.sub (ws' := [((g 0), .inr (5, [.int 2, .ref (g 1), .int (nI sv), .ref (g 2), .ref (g 3), .int (nI ln), .int (nI u_2.1), .int (nI u_2.2.1), .int u_2.2.2, .long hs])), ((g 1), .inl (y 0, 4023, .inl S)), ((g 3), .inl (y 0, 60, .inl (zX tx)))]) [2, 0, 1] rfl
  have hD := hD.sub (ws' := [((g 0), .inr (5, [.int 2, .ref (g 1), .int (nI sv), .ref (g 2), .ref (g 3), .int (nI ln), .int (nI u_2.1), .int (nI u_2.2.1), .int u_2.2.2, .long hs])), ((g 1), .inl (y 0, 4023, .inl S)), ((g 3), .inl (y 0, 60, .inl (zX tx)))]) [2, 0, 1] (by decide) rfl
  refine W.widen (k := 0) (n := 0) (by first | exact Nat.le_of_ble_eq_true rfl | omega) (by first | exact Nat.le_of_ble_eq_true rfl | omega) ?_
  exact W.iret (v := 0) hx hb hr (fun t ht hW => ⟨⟨0, (u_2.1, u_2.2.1, u_2.2.2), rfl, by first | rfl | trivial | simp_all, ⟨by rw [ht]; exact hP, hD⟩⟩, hS.F ht⟩) hS.2.2 dX5_load_33
