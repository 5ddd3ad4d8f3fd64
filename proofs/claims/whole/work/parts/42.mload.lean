set_option maxHeartbeats 4000000 in
set_option maxRecDepth 100000 in
theorem mX5_readsNumber_e (l : Launch) (D : va_G) (y : Nat → ClassId) (sz : Nat) (g : Nat → Nat) (th : Int32) (sv : Nat) (ln : Nat) (at9 : Nat) (pl : Nat) (va : Int32) (hs : Int64) (tx : (Nat → Nat)) (lo : Nat) (hi9 : Nat) (hn : ln ≤ 60) (htx : ∀ i : Nat, i < ln → tx i < 127) (hat : at9 ≤ ln) (hlo : lo ≤ 1) (hend : at9 = ln) : Met l yX5_readsNumber (ws_ yX5_readsNumber cX5_readsNumber 3 (some .boolean)) ({ frames := 1, cells := 0, slots := 0, locals := 22 }) (va_Pc [.ref (g 0), .int (nI lo), .int (nI hi9)] (zRW D y [((g 0), .inr (5, [.int th, .ref (g 1), .int (nI sv), .ref (g 2), .ref (g 3), .int (nI ln), .int (nI at9), .int (nI pl), .int va, .long hs])), ((g 3), .inl (y 0, 60, .inl (zX tx)))] sz)) (va_Qi (fun (r : Int32) (_ : Unit) => r = 0) (fun (_ : Unit) t => zOut D (va_A [((g 0), .inr (5, [.int th, .ref (g 1), .int (nI sv), .ref (g 2), .ref (g 3), .int (nI ln), .int (nI at9), .int (nI pl), .int va, .long hs])), ((g 3), .inl (y 0, 60, .inl (zX tx)))] sz) [((g 0), .inr (5, [.int th, .ref (g 1), .int (nI sv), .ref (g 2), .ref (g 3), .int (nI ln), .int (nI at9), .int (nI pl), .int va, .long hs])), ((g 3), .inl (y 0, 60, .inl (zX tx)))] t) (va_A [((g 0), .inr (5, [.int th, .ref (g 1), .int (nI sv), .ref (g 2), .ref (g 3), .int (nI ln), .int (nI at9), .int (nI pl), .int va, .long hs])), ((g 3), .inl (y 0, 60, .inl (zX tx)))] sz)) 0 0 (va_A [((g 0), .inr (5, [.int th, .ref (g 1), .int (nI sv), .ref (g 2), .ref (g 3), .int (nI ln), .int (nI at9), .int (nI pl), .int va, .long hs])), ((g 3), .inl (y 0, 60, .inl (zX tx)))] sz) := by
  refine Met.ofW (cc := cX5_readsNumber) (maxL := 3) (ret := (some .boolean)) (by decide) rfl ?_
  intro p e s m args below meth c s₁ B hml hpre9
  obtain ⟨rfl, hsz, hP, hKN, hD0⟩ := hpre9
  have hK := hKN.1
  have hx := B.exec
  have hb := B.bytes
  have hr := B.returns
  have hts := atoms_spec (ws := (ws_ yX5_readsNumber cX5_readsNumber 3 (some .boolean))) B.pre
  have htg : ∀ w ∈ gT, w.before _ s = true := fun w h => hts w (List.mem_cons_of_mem _ h)
  have hown : s.vm.findClass RX5 = some m.cls := findClass_of_methodNamed B.named
  have hlocks := B.notSynchronized
  subst hsz
  have hD := hD0.self (sz := s.heap.size)
  clear hD0
  generalize hAe : va_A [((g 0), .inr (5, [.int th, .ref (g 1), .int (nI sv), .ref (g 2), .ref (g 3), .int (nI ln), .int (nI at9), .int (nI pl), .int va, .long hs])), ((g 3), .inl (y 0, 60, .inl (zX tx)))] s.heap.size = A at hD ⊢
  have hA : ∀ q : Nat, s.heap.size ≤ q → A q := fun q h => by rw [← hAe]; exact Or.inr h
  have hS : va_S A s.heap s.heap [] := va_S.rf
  have hP : va_P D vwCl [((g 0), .inr (5, [.int th, .ref (g 1), .int (nI sv), .ref (g 2), .ref (g 3), .int (nI ln), .int (nI at9), .int (nI pl), .int va, .long hs])), ((g 3), .inl (y 0, 60, .inl (zX tx)))] s.heap := hP
  have hl := lv_entry ([.ref (g 0), .int (nI lo), .int (nI hi9)]) (n := 3) (Nat.le_of_ble_eq_true rfl)
  rw [lg_entry_eq]
  generalize (lg_sl ([.ref (g 0), .int (nI lo), .int (nI hi9)]) ++ List.replicate (3 - (lg_sl ([.ref (g 0), .int (nI lo), .int (nI hi9)])).length) Slot.unset).toArray = ls at hl ⊢
  have hl : lv_has ls 3 [(0, .ref (g 0)), (1, .int (nI lo)), (2, .int (nI hi9))] := hl
  have h7 : sg tx ln at9 = 0 := by rw [hend]; exact sg_end
  refine lv_aload_n hx hb dX5_readsNumber_0 rfl (lv_at hl 0 rfl) ?_
  refine zr_calli (va_runV (As := []) (rest := []) ⟨hx, hb, hml, hown, hts⟩ (mX5_sign l D y g th sv ln at9 pl va hs tx (by first | assumption | rfl | omega | decide) (by first | assumption | rfl | omega | decide) (by first | assumption | rfl | omega | decide)) (cwV 0 hts (zgV tw_454 tw_455 tw_456 tw_369 tw_451) rfl rfl rfl (by decide +kernel) ⟨Nat.le_of_ble_eq_true rfl, Nat.le_of_ble_eq_true rfl⟩) (zRO_preV hKN hP (ci := 5) (q0 := 0) rfl rfl [0, 1] rfl) rfl rfl hl.1 rfl (lv_room (Nat.le_of_ble_eq_true rfl)) dX5_readsNumber_1 ⟨Nat.zero_le _, Nat.zero_le _⟩) hS (fun r_1 H locs hw_1 hT hS => ?_)
  replace hP := hT _ _ hP
  obtain rfl : r_1 = nI (sg tx ln at9) := hw_1
  refine lv_bipush (v := 48) hx hb dX5_readsNumber_4 (by decide) ?_
  refine lv_iload_n hx hb dX5_readsNumber_6 rfl (lv_at hl 1 rfl) ?_
  refine lv_iadd hx hb dX5_readsNumber_7 ?_
  refine zz_top (y := nI (48 + lo)) (nI_add 48 lo) ?_
  refine lv_bipush (v := 57) hx hb dX5_readsNumber_8 (by decide) ?_
  refine zr_calli (va_runS (As := [.int (nI (sg tx ln at9)), .int (nI (48 + lo)), .int 57]) (rest := []) ⟨hx, hb, hml, hown, hts⟩ (mX5_in l (nI (sg tx ln at9)) (nI (48 + lo)) 57) (va_cwS 3 hts (zgS tw_367 tw_368 tw_369 tw_364) rfl rfl rfl (by decide +kernel) ⟨Nat.le_of_ble_eq_true rfl, Nat.le_of_ble_eq_true rfl⟩) zP_pre rfl rfl hl.1 rfl (lv_room (Nat.le_of_ble_eq_true rfl)) dX5_readsNumber_10 ⟨Nat.zero_le _, Nat.zero_le _⟩) hS (fun r_2 H locs hw_10 hT hS => ?_)
  replace hP := hT _ _ hP
  obtain rfl : r_2 = (if ¬ (nI (sg tx ln at9)) < (nI (48 + lo)) ∧ ¬ 57 < (nI (sg tx ln at9)) then (1 : Int32) else 0) := hw_10
  refine lv_if_ne (tgt := 18) hx hb dX5_readsNumber_13 (by decide) (fun c_13 => absurd (zb0.mpr (fun h => by have := (zin_a (by omega) hlo).mp h; omega)) c_13) (fun _ => ?_)
  refine lv_iconst (v := 0) hx hb dX5_readsNumber_16 (by decide) ?_
  refine W.widen (k := 0) (n := 0) (by first | exact Nat.le_of_ble_eq_true rfl | omega) (by first | exact Nat.le_of_ble_eq_true rfl | omega) ?_
  exact W.zret (v := 0) hx hb hr (rfl) (fun t ht hW => ⟨⟨0, (), rfl, by first | rfl | trivial | simp_all, ⟨by rw [ht]; exact hP, hD⟩⟩, hS.F ht⟩) hS.2.2 dX5_readsNumber_17

set_option maxHeartbeats 4000000 in
set_option maxRecDepth 100000 in
theorem mX5_readsReading_e (l : Launch) (D : va_G) (y : Nat → ClassId) (sz : Nat) (g : Nat → Nat) (th : Int32) (sv : Nat) (ln : Nat) (at9 : Nat) (pl : Nat) (va : Int32) (hs : Int64) (tx : (Nat → Nat)) (hn : ln ≤ 60) (htx : ∀ i : Nat, i < ln → tx i < 127) (hat : at9 ≤ ln) (hend : at9 = ln) : Met l yX5_readsReading (ws_ yX5_readsReading cX5_readsReading 6 (some .boolean)) ({ frames := 2, cells := 0, slots := 0, locals := 44 }) (va_Pc [.ref (g 0)] (zRW D y [((g 0), .inr (5, [.int th, .ref (g 1), .int (nI sv), .ref (g 2), .ref (g 3), .int (nI ln), .int (nI at9), .int (nI pl), .int va, .long hs])), ((g 3), .inl (y 0, 60, .inl (zX tx)))] sz)) (va_Qi (fun (r : Int32) (_ : Unit) => r = 0) (fun (_ : Unit) t => zOut D (va_A [((g 0), .inr (5, [.int th, .ref (g 1), .int (nI sv), .ref (g 2), .ref (g 3), .int (nI ln), .int (nI at9), .int (nI pl), .int va, .long hs])), ((g 3), .inl (y 0, 60, .inl (zX tx)))] sz) [((g 0), .inr (5, [.int th, .ref (g 1), .int (nI sv), .ref (g 2), .ref (g 3), .int (nI ln), .int (nI at9), .int (nI pl), .int va, .long hs])), ((g 3), .inl (y 0, 60, .inl (zX tx)))] t) (va_A [((g 0), .inr (5, [.int th, .ref (g 1), .int (nI sv), .ref (g 2), .ref (g 3), .int (nI ln), .int (nI at9), .int (nI pl), .int va, .long hs])), ((g 3), .inl (y 0, 60, .inl (zX tx)))] sz)) 0 0 (va_A [((g 0), .inr (5, [.int th, .ref (g 1), .int (nI sv), .ref (g 2), .ref (g 3), .int (nI ln), .int (nI at9), .int (nI pl), .int va, .long hs])), ((g 3), .inl (y 0, 60, .inl (zX tx)))] sz) := by
  refine Met.ofW (cc := cX5_readsReading) (maxL := 6) (ret := (some .boolean)) (by decide) rfl ?_
  intro p e s m args below meth c s₁ B hml hpre9
  obtain ⟨rfl, hsz, hP, hKN, hD0⟩ := hpre9
  have hK := hKN.1
  have hx := B.exec
  have hb := B.bytes
  have hr := B.returns
  have hts := atoms_spec (ws := (ws_ yX5_readsReading cX5_readsReading 6 (some .boolean))) B.pre
  have htg : ∀ w ∈ gT, w.before _ s = true := fun w h => hts w (List.mem_cons_of_mem _ h)
  have hown : s.vm.findClass RX5 = some m.cls := findClass_of_methodNamed B.named
  have hlocks := B.notSynchronized
  subst hsz
  have hD := hD0.self (sz := s.heap.size)
  clear hD0
  generalize hAe : va_A [((g 0), .inr (5, [.int th, .ref (g 1), .int (nI sv), .ref (g 2), .ref (g 3), .int (nI ln), .int (nI at9), .int (nI pl), .int va, .long hs])), ((g 3), .inl (y 0, 60, .inl (zX tx)))] s.heap.size = A at hD ⊢
  have hA : ∀ q : Nat, s.heap.size ≤ q → A q := fun q h => by rw [← hAe]; exact Or.inr h
  have hS : va_S A s.heap s.heap [] := va_S.rf
  have hP : va_P D vwCl [((g 0), .inr (5, [.int th, .ref (g 1), .int (nI sv), .ref (g 2), .ref (g 3), .int (nI ln), .int (nI at9), .int (nI pl), .int va, .long hs])), ((g 3), .inl (y 0, 60, .inl (zX tx)))] s.heap := hP
  have hl := lv_entry ([.ref (g 0)]) (n := 6) (Nat.le_of_ble_eq_true rfl)
  rw [lg_entry_eq]
  generalize (lg_sl ([.ref (g 0)]) ++ List.replicate (6 - (lg_sl ([.ref (g 0)])).length) Slot.unset).toArray = ls at hl ⊢
  have hl : lv_has ls 6 [(0, .ref (g 0))] := hl
  refine lv_aload_n hx hb dX5_readsReading_0 rfl (lv_at hl 0 rfl) ?_
  refine lv_iconst (v := 0) hx hb dX5_readsReading_1 (by decide) ?_
  refine lv_bipush (v := 15) hx hb dX5_readsReading_2 (by decide) ?_
  refine zw_calli (wr := []) (w1 := (fun _ : Unit => [((g 0), .inr (5, [.int th, .ref (g 1), .int (nI sv), .ref (g 2), .ref (g 3), .int (nI ln), .int (nI at9), .int (nI pl), .int va, .long hs])), ((g 3), .inl (y 0, 60, .inl (zX tx)))])) hP hD hS hA [0, 1] [] rfl rfl (by decide +kernel) (by decide +kernel) (va_runV (As := [.int 0, .int 15]) (rest := []) ⟨hx, hb, hml, hown, hts⟩ (mX5_readsNumber_e l D y _ g th sv ln at9 pl va hs tx 0 15 (by first | assumption | rfl | omega | decide) (by first | assumption | rfl | omega | decide) (by first | assumption | rfl | omega | decide) (by first | assumption | rfl | omega | decide) (by first | assumption | rfl | omega | decide)) (cwV 2 hts (zgV tw_461 tw_462 tw_463 tw_369 tw_457) rfl rfl rfl (by decide +kernel) ⟨Nat.le_of_ble_eq_true rfl, Nat.le_of_ble_eq_true rfl⟩) (zRW_preV hKN hP hD (ci := 5) (q0 := 0) rfl rfl [0, 1] rfl (by decide)) rfl rfl hl.1 rfl (lv_room (Nat.le_of_ble_eq_true rfl)) dX5_readsReading_4 ⟨Nat.zero_le _, Nat.zero_le _⟩) (fun r_1 u_2 H locs hw_4 hP hD hS => ?_)
  have hP : va_P D vwCl [((g 0), .inr (5, [.int th, .ref (g 1), .int (nI sv), .ref (g 2), .ref (g 3), .int (nI ln), .int (nI at9), .int (nI pl), .int va, .long hs])), ((g 3), .inl (y 0, 60, .inl (zX tx)))] H := hP
  have hD : va_D A [((g 0), .inr (5, [.int th, .ref (g 1), .int (nI sv), .ref (g 2), .ref (g 3), .int (nI ln), .int (nI at9), .int (nI pl), .int va, .long hs])), ((g 3), .inl (y 0, 60, .inl (zX tx)))] := hD
  obtain rfl : r_1 = 0 := hw_4
  refine lv_if_ne (tgt := 12) hx hb dX5_readsReading_7 (by decide) (fun c_7 => absurd (by decide) c_7) (fun _ => ?_)
  refine lv_iconst (v := 0) hx hb dX5_readsReading_10 (by decide) ?_
  refine W.widen (k := 0) (n := 0) (by first | exact Nat.le_of_ble_eq_true rfl | omega) (by first | exact Nat.le_of_ble_eq_true rfl | omega) ?_
  exact W.zret (v := 0) hx hb hr (rfl) (fun t ht hW => ⟨⟨0, (), rfl, by first | rfl | trivial | simp_all, ⟨by rw [ht]; exact hP, hD⟩⟩, hS.F ht⟩) hS.2.2 dX5_readsReading_11

set_option maxHeartbeats 4000000 in
set_option maxRecDepth 100000 in
theorem mX5_load (l : Launch) (D : va_G) (y : Nat → ClassId) (sz : Nat) (g : Nat → Nat) (S : (Nat → Int32)) (th : Int32) (sv : Nat) (ln : Nat) (at9 : Nat) (pl : Nat) (va : Int32) (hs : Int64) (tx : (Nat → Nat)) (ns : Nat) (hn : ln ≤ 60) (htx : ∀ i : Nat, i < ln → tx i < 127) (hv : sv ≤ 6) (hns : 0 < ns) (hs6 : ns ≤ 6) (hS1 : S 1 = nI ns) (he : rErr tx z0 ln ln) (h6 : rRun tx z0 ln 0 = 6) : Met l yX5_load (ws_ yX5_load cX5_load 2 (some .int)) ({ frames := 4, cells := 0, slots := 0, locals := 89 }) (va_Pc [.ref (g 0)] (zRW D y [((g 0), .inr (5, [.int th, .ref (g 1), .int (nI sv), .ref (g 2), .ref (g 3), .int (nI ln), .int (nI at9), .int (nI pl), .int va, .long hs])), ((g 1), .inl (y 0, 4023, .inl S)), ((g 3), .inl (y 0, 60, .inl (zX tx)))] sz)) (va_Qi (fun (r : Int32) (u : (Nat × Nat × Int32)) => r = nI (rCnt tx ln ln)) (fun (u : (Nat × Nat × Int32)) t => zOut D (va_A [((g 0), .inr (5, [.int th, .ref (g 1), .int (nI sv), .ref (g 2), .ref (g 3), .int (nI ln), .int (nI at9), .int (nI pl), .int va, .long hs])), ((g 1), .inl (y 0, 4023, .inl S)), ((g 3), .inl (y 0, 60, .inl (zX tx)))] sz) [((g 0), .inr (5, [.int 0, .ref (g 1), .int (nI (sv2 sv)), .ref (g 2), .ref (g 3), .int 0, .int (nI u.1), .int (nI u.2.1), .int u.2.2, .long hs])), ((g 1), .inl (y 0, 4023, .inl (upd (rPut (svS S sv) (ns - 1) tx z0 ln ln) 5 ((rPut (svS S sv) (ns - 1) tx z0 ln ln) 5 + nI (rCnt tx ln ln))))), ((g 3), .inl (y 0, 60, .inl (zX tx)))] t) (va_A [((g 0), .inr (5, [.int th, .ref (g 1), .int (nI sv), .ref (g 2), .ref (g 3), .int (nI ln), .int (nI at9), .int (nI pl), .int va, .long hs])), ((g 1), .inl (y 0, 4023, .inl S)), ((g 3), .inl (y 0, 60, .inl (zX tx)))] sz)) 0 0 (va_A [((g 0), .inr (5, [.int th, .ref (g 1), .int (nI sv), .ref (g 2), .ref (g 3), .int (nI ln), .int (nI at9), .int (nI pl), .int va, .long hs])), ((g 1), .inl (y 0, 4023, .inl S)), ((g 3), .inl (y 0, 60, .inl (zX tx)))] sz) := by
  refine Met.ofW (cc := cX5_load) (maxL := 2) (ret := (some .int)) (by decide) rfl ?_
  intro p e s m args below meth c s₁ B hml hpre9
  obtain ⟨rfl, hsz, hP, hKN, hD0⟩ := hpre9
  have hK := hKN.1
  have hx := B.exec
  have hb := B.bytes
  have hr := B.returns
  have hts := atoms_spec (ws := (ws_ yX5_load cX5_load 2 (some .int))) B.pre
  have htg : ∀ w ∈ gT, w.before _ s = true := fun w h => hts w (List.mem_cons_of_mem _ h)
  have hown : s.vm.findClass RX5 = some m.cls := findClass_of_methodNamed B.named
  have hlocks := B.notSynchronized
  subst hsz
  have hD := hD0.self (sz := s.heap.size)
  clear hD0
  generalize hAe : va_A [((g 0), .inr (5, [.int th, .ref (g 1), .int (nI sv), .ref (g 2), .ref (g 3), .int (nI ln), .int (nI at9), .int (nI pl), .int va, .long hs])), ((g 1), .inl (y 0, 4023, .inl S)), ((g 3), .inl (y 0, 60, .inl (zX tx)))] s.heap.size = A at hD ⊢
  have hA : ∀ q : Nat, s.heap.size ≤ q → A q := fun q h => by rw [← hAe]; exact Or.inr h
  have hS : va_S A s.heap s.heap [] := va_S.rf
  have hP : va_P D vwCl [((g 0), .inr (5, [.int th, .ref (g 1), .int (nI sv), .ref (g 2), .ref (g 3), .int (nI ln), .int (nI at9), .int (nI pl), .int va, .long hs])), ((g 1), .inl (y 0, 4023, .inl S)), ((g 3), .inl (y 0, 60, .inl (zX tx)))] s.heap := hP
  have hl := lv_entry ([.ref (g 0)]) (n := 2) (Nat.le_of_ble_eq_true rfl)
  rw [lg_entry_eq]
  generalize (lg_sl ([.ref (g 0)]) ++ List.replicate (2 - (lg_sl ([.ref (g 0)])).length) Slot.unset).toArray = ls at hl ⊢
  have hl : lv_has ls 2 [(0, .ref (g 0))] := hl
  have hgr : ∀ i, i < ln → rGood (rRun tx z0 (i + 1)) := fun i hi => rRun_good zGood_z0 (fun j hj => he.2.1 j (by omega))
  refine lv_aload_n hx hb dX5_load_0 rfl (lv_at hl 0 rfl) ?_
  refine lv_aload_n hx hb dX5_load_1 rfl (lv_at hl 0 rfl) ?_
  refine va_get (D := D) (ci := 5) (v := .ref (g 1)) (C := RX5) (T := TX5) (N := 10) hx hb htg iX5 hown hK hP 0 rfl rfl 1 (by decide) (htg _ tw_359) (fun _ h9 => h9) rfl dX5_load_2 ?_
  refine lv_iconst (v := 1) hx hb dX5_load_5 (by decide) ?_
  refine va_iald hx hb hK hP 1 0 rfl rfl (vp_in_nI (n := 1) (by decide) (by decide)) dX5_load_6 ?_
  refine zz_top (y := S 1) (congrArg S (by decide)) ?_
  refine zz_top (y := nI ns) (hS1) ?_
  refine lv_if_ne (tgt := 14) hx hb dX5_load_7 (by decide) (fun c_7 => ?_) (fun c_7 => ?_)
  · replace c_7 : ¬ ns = 0 := fun h => c_7 ((nI_eq (a := ns) (b := 0) (by omega) (by omega)).mpr h)
    refine lv_aload_n hx hb dX5_load_14 rfl (lv_at hl 0 rfl) ?_
    refine zw_calli (wr := [((g 1), .inl (y 0, 4023, .inl S))]) (w1 := (fun u : (Nat × Nat × Int32) => [((g 0), .inr (5, [.int th, .ref (g 1), .int (nI sv), .ref (g 2), .ref (g 3), .int (nI ln), .int (nI u.1), .int (nI u.2.1), .int u.2.2, .long hs])), ((g 3), .inl (y 0, 60, .inl (zX tx)))])) hP hD hS hA [0, 2] [1] rfl rfl (by decide +kernel) (by decide +kernel) (va_runV (As := []) (rest := [.ref (g 0)]) ⟨hx, hb, hml, hown, hts⟩ (mX5_areReadings l D y _ g th sv ln at9 pl va hs tx (by first | assumption | rfl | omega | decide) (by first | assumption | rfl | omega | decide)) (cwV 0 hts (zgV tw_472 tw_473 tw_474 tw_369 tw_467) rfl rfl rfl (by decide +kernel) ⟨Nat.le_of_ble_eq_true rfl, Nat.le_of_ble_eq_true rfl⟩) (zRW_preV hKN hP hD (ci := 5) (q0 := 0) rfl rfl [0, 2] rfl (by decide)) rfl rfl hl.1 rfl (lv_room (Nat.le_of_ble_eq_true rfl)) dX5_load_15 ⟨Nat.zero_le _, Nat.zero_le _⟩) (fun r_1 u_2 H locs hw_15 hP hD hS => ?_)
    have hP : va_P D vwCl [((g 1), .inl (y 0, 4023, .inl S)), ((g 0), .inr (5, [.int th, .ref (g 1), .int (nI sv), .ref (g 2), .ref (g 3), .int (nI ln), .int (nI u_2.1), .int (nI u_2.2.1), .int u_2.2.2, .long hs])), ((g 3), .inl (y 0, 60, .inl (zX tx)))] H := hP
    have hD : va_D A [((g 1), .inl (y 0, 4023, .inl S)), ((g 0), .inr (5, [.int th, .ref (g 1), .int (nI sv), .ref (g 2), .ref (g 3), .int (nI ln), .int (nI u_2.1), .int (nI u_2.2.1), .int u_2.2.2, .long hs])), ((g 3), .inl (y 0, 60, .inl (zX tx)))] := hD
    try dsimp only at hw_15
    rcases hw_15 with ⟨er, hB⟩ | ⟨er, hE⟩
    · exact absurd ⟨rErr_eq hB.1 he, h6⟩ hB.2
    refine zz_top (y := 1) er ?_
    refine lv_if_ne (tgt := 25) hx hb dX5_load_18 (by decide) (fun _ => ?_) (fun c_18 => absurd c_18 (by decide))
    refine lv_iconst (v := 0) hx hb dX5_load_25 (by decide) ?_
    refine zw_calli (wr := [((g 1), .inl (y 0, 4023, .inl S)), ((g 3), .inl (y 0, 60, .inl (zX tx)))]) (w1 := (fun _ : Unit => [((g 0), .inr (5, [.int 0, .ref (g 1), .int (nI sv), .ref (g 2), .ref (g 3), .int (nI ln), .int (nI u_2.1), .int (nI u_2.2.1), .int u_2.2.2, .long hs]))])) hP hD hS hA [1] [0, 2] rfl rfl (by decide +kernel) (by decide +kernel) (va_runV (As := [.int 0]) (rest := []) ⟨hx, hb, hml, hown, hts⟩ (mX5_holds l D y _ g th sv ln u_2.1 u_2.2.1 u_2.2.2 hs 0) (cwV 1 hts (zgV tw_431 tw_432 tw_433 tw_369 tw_365) rfl rfl rfl (by decide +kernel) ⟨Nat.le_of_ble_eq_true rfl, Nat.le_of_ble_eq_true rfl⟩) (zRW_preV hKN hP hD (ci := 5) (q0 := 1) rfl rfl [1] rfl (by decide)) rfl rfl hl.1 rfl (lv_room (Nat.le_of_ble_eq_true rfl)) dX5_load_26 ⟨Nat.zero_le _, Nat.zero_le _⟩) (fun r_3 u_4 H locs hw_26 hP hD hS => ?_)
    have hP : va_P D vwCl [((g 1), .inl (y 0, 4023, .inl S)), ((g 3), .inl (y 0, 60, .inl (zX tx))), ((g 0), .inr (5, [.int 0, .ref (g 1), .int (nI sv), .ref (g 2), .ref (g 3), .int (nI ln), .int (nI u_2.1), .int (nI u_2.2.1), .int u_2.2.2, .long hs]))] H := hP
    have hD : va_D A [((g 1), .inl (y 0, 4023, .inl S)), ((g 3), .inl (y 0, 60, .inl (zX tx))), ((g 0), .inr (5, [.int 0, .ref (g 1), .int (nI sv), .ref (g 2), .ref (g 3), .int (nI ln), .int (nI u_2.1), .int (nI u_2.2.1), .int u_2.2.2, .long hs]))] := hD
    obtain rfl : r_3 = 1 := hw_26
    refine lv_if_ne (tgt := 34) hx hb dX5_load_29 (by decide) (fun _ => ?_) (fun c_29 => absurd c_29 (by decide))
    refine lv_aload_n hx hb dX5_load_34 rfl (lv_at hl 0 rfl) ?_
    refine zw_callv (wr := [((g 3), .inl (y 0, 60, .inl (zX tx)))]) (w1 := (fun _ : Unit => [((g 0), .inr (5, [.int 0, .ref (g 1), .int (nI (sv2 sv)), .ref (g 2), .ref (g 3), .int (nI ln), .int (nI u_2.1), .int (nI u_2.2.1), .int u_2.2.2, .long hs])), ((g 1), .inl (y 0, 4023, .inl (svS S sv)))])) hP hD hS hA [2, 0] [1] rfl rfl (by decide +kernel) (by decide +kernel) (va_runV (As := []) (rest := []) ⟨hx, hb, hml, hown, hts⟩ (mX5_save l D y _ g S 0 sv ln u_2.1 u_2.2.1 u_2.2.2 hs (by first | assumption | rfl | omega | decide)) (cwV 0 hts (zgV tw_423 tw_424 tw_425 tw_369 tw_417) rfl rfl rfl (by decide +kernel) ⟨Nat.le_of_ble_eq_true rfl, Nat.le_of_ble_eq_true rfl⟩) (zRW_preV hKN hP hD (ci := 5) (q0 := 2) rfl rfl [2, 0] rfl (by decide)) rfl rfl hl.1 rfl (lv_room (Nat.le_of_ble_eq_true rfl)) dX5_load_35 ⟨Nat.zero_le _, Nat.zero_le _⟩) (fun u_5 H locs hw_35 hP hD hS => ?_)
    have hP : va_P D vwCl [((g 3), .inl (y 0, 60, .inl (zX tx))), ((g 0), .inr (5, [.int 0, .ref (g 1), .int (nI (sv2 sv)), .ref (g 2), .ref (g 3), .int (nI ln), .int (nI u_2.1), .int (nI u_2.2.1), .int u_2.2.2, .long hs])), ((g 1), .inl (y 0, 4023, .inl (svS S sv)))] H := hP
    have hD : va_D A [((g 3), .inl (y 0, 60, .inl (zX tx))), ((g 0), .inr (5, [.int 0, .ref (g 1), .int (nI (sv2 sv)), .ref (g 2), .ref (g 3), .int (nI ln), .int (nI u_2.1), .int (nI u_2.2.1), .int u_2.2.2, .long hs])), ((g 1), .inl (y 0, 4023, .inl (svS S sv)))] := hD
    refine lv_aload_n hx hb dX5_load_38 rfl (lv_at hl 0 rfl) ?_
    refine lv_iconst (v := 0) hx hb dX5_load_39 (by decide) ?_
    refine va_put (D := D) (ci := 5) (v := .int 0) (ty := .int) (C := RX5) (T := TX5) (N := 10) hx hb htg iX5 tyX5 tyX5_ok nmX5 hown hK hP hD hS 1 rfl rfl 6 (by decide) (htg _ tw_452) (fun _ h9 => h9) rfl (tyX5_ok 6 (by decide)) (rfl) (rfl) (Nat.le_of_ble_eq_true rfl) dX5_load_40 (fun H locs hP hD hS => ?_)
    have hP : va_P D vwCl [((g 3), .inl (y 0, 60, .inl (zX tx))), ((g 0), .inr (5, [.int 0, .ref (g 1), .int (nI (sv2 sv)), .ref (g 2), .ref (g 3), .int (nI ln), .int 0, .int (nI u_2.2.1), .int u_2.2.2, .long hs])), ((g 1), .inl (y 0, 4023, .inl (svS S sv)))] H := hP
    have hD : va_D A [((g 3), .inl (y 0, 60, .inl (zX tx))), ((g 0), .inr (5, [.int 0, .ref (g 1), .int (nI (sv2 sv)), .ref (g 2), .ref (g 3), .int (nI ln), .int 0, .int (nI u_2.2.1), .int u_2.2.2, .long hs])), ((g 1), .inl (y 0, 4023, .inl (svS S sv)))] := hD
    refine lv_iconst (v := 0) hx hb dX5_load_43 (by decide) ?_
    refine lv_istore_n (lv' := [(1, .int 0), (0, .ref (g 0))]) hx hb dX5_load_44 rfl hl (by decide) rfl (fun ls hl => ?_)
    refine zloop (fun i : Nat => ln + 1 - i) (fun i H locs ls => ∃ p2 : Nat, ∃ x2 : Int32, i ≤ ln ∧ zAt tx i ∧ (i = ln ∨ rRun tx z0 i 0 = 0) ∧ va_P D vwCl [((g 3), .inl (y 0, 60, .inl (zX tx))), ((g 0), .inr (5, [.int 0, .ref (g 1), .int (nI (sv2 sv)), .ref (g 2), .ref (g 3), .int (nI ln), .int (nI i), .int (nI p2), .int x2, .long hs])), ((g 1), .inl (y 0, 4023, .inl (rPut (svS S sv) (ns - 1) tx z0 ln i)))] H ∧ va_D A [((g 3), .inl (y 0, 60, .inl (zX tx))), ((g 0), .inr (5, [.int 0, .ref (g 1), .int (nI (sv2 sv)), .ref (g 2), .ref (g 3), .int (nI ln), .int (nI i), .int (nI p2), .int x2, .long hs])), ((g 1), .inl (y 0, 4023, .inl (rPut (svS S sv) (ns - 1) tx z0 ln i)))] ∧ va_S A s.heap H locs ∧ lv_has ls 2 [(0, .ref (g 0)), (1, .int (nI (rCnt tx ln i)))]) 45 (fun _ => 0) (fun _ => 0) ?_ (0) ⟨u_2.2.1, u_2.2.2, Nat.zero_le _, (fun j h => absurd h (Nat.not_lt_zero j)), Or.inr rfl, hP, hD, hS, lv_sub hl [1, 0] rfl⟩
    clear hl hS hP hD
    rintro i H locs ls ⟨p2, x2, hi, hz, hc, hP, hD, hS, hl⟩ ih45
    refine lv_aload_n hx hb dX5_load_45 rfl (lv_at hl 0 rfl) ?_
    rcases (show i = ln ∨ ¬ i = ln by omega) with h9 | h9
    · have hgE := h9
      refine zw_calli (wr := [((g 1), .inl (y 0, 4023, .inl (rPut (svS S sv) (ns - 1) tx z0 ln i)))]) (w1 := (fun _ : Unit => [((g 0), .inr (5, [.int 0, .ref (g 1), .int (nI (sv2 sv)), .ref (g 2), .ref (g 3), .int (nI ln), .int (nI i), .int (nI p2), .int x2, .long hs])), ((g 3), .inl (y 0, 60, .inl (zX tx)))])) hP hD hS hA [1, 0] [2] rfl rfl (by decide +kernel) (by decide +kernel) (va_runV (As := []) (rest := []) ⟨hx, hb, hml, hown, hts⟩ (mX5_readsReading_e l D y _ g 0 (sv2 sv) ln i p2 x2 hs tx (by first | assumption | rfl | omega | decide) (by first | assumption | rfl | omega | decide) (by first | assumption | rfl | omega | decide) (by first | assumption | rfl | omega | decide)) (cwV 0 hts (zgV tw_468 tw_469 tw_470 tw_369 tw_459) rfl rfl rfl (by decide +kernel) ⟨Nat.le_of_ble_eq_true rfl, Nat.le_of_ble_eq_true rfl⟩) (zRW_preV hKN hP hD (ci := 5) (q0 := 1) rfl rfl [1, 0] rfl (by decide)) rfl rfl hl.1 rfl (lv_room (Nat.le_of_ble_eq_true rfl)) dX5_load_46 ⟨Nat.zero_le _, Nat.zero_le _⟩) (fun r_6 u_7 H locs hw_46 hP hD hS => ?_)
      have hP : va_P D vwCl [((g 1), .inl (y 0, 4023, .inl (rPut (svS S sv) (ns - 1) tx z0 ln i))), ((g 0), .inr (5, [.int 0, .ref (g 1), .int (nI (sv2 sv)), .ref (g 2), .ref (g 3), .int (nI ln), .int (nI i), .int (nI p2), .int x2, .long hs])), ((g 3), .inl (y 0, 60, .inl (zX tx)))] H := hP
      have hD : va_D A [((g 1), .inl (y 0, 4023, .inl (rPut (svS S sv) (ns - 1) tx z0 ln i))), ((g 0), .inr (5, [.int 0, .ref (g 1), .int (nI (sv2 sv)), .ref (g 2), .ref (g 3), .int (nI ln), .int (nI i), .int (nI p2), .int x2, .long hs])), ((g 3), .inl (y 0, 60, .inl (zX tx)))] := hD
      obtain rfl : r_6 = 0 := hw_46
      refine lv_if_eq (tgt := 93) hx hb dX5_load_49 (by decide) (fun _ => ?_) (fun c_49 => absurd (by decide) c_49)
      rw [hgE] at hP hD
      have hP : va_P D vwCl [((g 1), .inl (y 0, 4023, .inl (rPut (svS S sv) (ns - 1) tx z0 ln ln))), ((g 0), .inr (5, [.int 0, .ref (g 1), .int (nI (sv2 sv)), .ref (g 2), .ref (g 3), .int (nI ln), .int (nI ln), .int (nI p2), .int x2, .long hs])), ((g 3), .inl (y 0, 60, .inl (zX tx)))] H := hP
      have hD : va_D A [((g 1), .inl (y 0, 4023, .inl (rPut (svS S sv) (ns - 1) tx z0 ln ln))), ((g 0), .inr (5, [.int 0, .ref (g 1), .int (nI (sv2 sv)), .ref (g 2), .ref (g 3), .int (nI ln), .int (nI ln), .int (nI p2), .int x2, .long hs])), ((g 3), .inl (y 0, 60, .inl (zX tx)))] := hD
      have hl : lv_has ls 2 [(0, .ref (g 0)), (1, .int (nI (rCnt tx ln ln)))] := by rw [show (nI (rCnt tx ln ln) : Int32) = nI (rCnt tx ln i) from (by rw [hgE] : (nI (rCnt tx ln i) : Int32) = nI (rCnt tx ln ln)).symm]; exact hl
      refine lv_aload_n hx hb dX5_load_93 rfl (lv_at hl 0 rfl) ?_
      refine va_get (D := D) (ci := 5) (v := .ref (g 1)) (C := RX5) (T := TX5) (N := 10) hx hb htg iX5 hown hK hP 1 rfl rfl 1 (by decide) (htg _ tw_359) (fun _ h9 => h9) rfl dX5_load_94 ?_
      refine lv_iconst (v := 5) hx hb dX5_load_97 (by decide) ?_
      refine lv_dup2_11 hx hb dX5_load_98 rfl rfl ?_
      refine va_iald hx hb hK hP 0 0 rfl rfl (vp_in_nI (n := 5) (by decide) (by decide)) dX5_load_99 ?_
      refine zz_top (y := (rPut (svS S sv) (ns - 1) tx z0 ln ln) 5) (congrArg (rPut (svS S sv) (ns - 1) tx z0 ln ln) (by decide)) ?_
      refine lv_iload_n hx hb dX5_load_100 rfl (lv_at hl 1 rfl) ?_
      refine lv_iadd hx hb dX5_load_101 ?_
      refine va_iast hx hb hK hP hD hS 0 0 rfl rfl (vp_in_nI (n := 5) (by decide) (by decide)) dX5_load_102 (fun H locs hP hD hS => ?_)
      rw [show ((5 : Int32)).toNatClampNeg = 5 from (by decide)] at hP hD
      have hP : va_P D vwCl [((g 1), .inl (y 0, 4023, .inl (upd (rPut (svS S sv) (ns - 1) tx z0 ln ln) 5 (((rPut (svS S sv) (ns - 1) tx z0 ln ln) 5) + (nI (rCnt tx ln ln)))))), ((g 0), .inr (5, [.int 0, .ref (g 1), .int (nI (sv2 sv)), .ref (g 2), .ref (g 3), .int (nI ln), .int (nI ln), .int (nI p2), .int x2, .long hs])), ((g 3), .inl (y 0, 60, .inl (zX tx)))] H := hP
      have hD : va_D A [((g 1), .inl (y 0, 4023, .inl (upd (rPut (svS S sv) (ns - 1) tx z0 ln ln) 5 (((rPut (svS S sv) (ns - 1) tx z0 ln ln) 5) + (nI (rCnt tx ln ln)))))), ((g 0), .inr (5, [.int 0, .ref (g 1), .int (nI (sv2 sv)), .ref (g 2), .ref (g 3), .int (nI ln), .int (nI ln), .int (nI p2), .int x2, .long hs])), ((g 3), .inl (y 0, 60, .inl (zX tx)))] := hD
      refine lv_aload_n hx hb dX5_load_103 rfl (lv_at hl 0 rfl) ?_
      refine lv_iconst (v := 0) hx hb dX5_load_104 (by decide) ?_
      refine va_put (D := D) (ci := 5) (v := .int 0) (ty := .int) (C := RX5) (T := TX5) (N := 10) hx hb htg iX5 tyX5 tyX5_ok nmX5 hown hK hP hD hS 1 rfl rfl 5 (by decide) (htg _ tw_449) (fun _ h9 => h9) rfl (tyX5_ok 5 (by decide)) (rfl) (rfl) (Nat.le_of_ble_eq_true rfl) dX5_load_105 (fun H locs hP hD hS => ?_)
      have hP : va_P D vwCl [((g 1), .inl (y 0, 4023, .inl (upd (rPut (svS S sv) (ns - 1) tx z0 ln ln) 5 (((rPut (svS S sv) (ns - 1) tx z0 ln ln) 5) + (nI (rCnt tx ln ln)))))), ((g 0), .inr (5, [.int 0, .ref (g 1), .int (nI (sv2 sv)), .ref (g 2), .ref (g 3), .int 0, .int (nI ln), .int (nI p2), .int x2, .long hs])), ((g 3), .inl (y 0, 60, .inl (zX tx)))] H := hP
      have hD : va_D A [((g 1), .inl (y 0, 4023, .inl (upd (rPut (svS S sv) (ns - 1) tx z0 ln ln) 5 (((rPut (svS S sv) (ns - 1) tx z0 ln ln) 5) + (nI (rCnt tx ln ln)))))), ((g 0), .inr (5, [.int 0, .ref (g 1), .int (nI (sv2 sv)), .ref (g 2), .ref (g 3), .int 0, .int (nI ln), .int (nI p2), .int x2, .long hs])), ((g 3), .inl (y 0, 60, .inl (zX tx)))] := hD
      refine lv_iload_n hx hb dX5_load_108 rfl (lv_at hl 1 rfl) ?_
      have hP := hP.sub (ws' := [((g 0), .inr (5, [.int 0, .ref (g 1), .int (nI (sv2 sv)), .ref (g 2), .ref (g 3), .int 0, .int (nI ln), .int (nI p2), .int x2, .long hs])), ((g 1), .inl (y 0, 4023, .inl (upd (rPut (svS S sv) (ns - 1) tx z0 ln ln) 5 (((rPut (svS S sv) (ns - 1) tx z0 ln ln) 5) + (nI (rCnt tx ln ln)))))), ((g 3), .inl (y 0, 60, .inl (zX tx)))]) [1, 0, 2] rfl
      have hD := hD.sub (ws' := [((g 0), .inr (5, [.int 0, .ref (g 1), .int (nI (sv2 sv)), .ref (g 2), .ref (g 3), .int 0, .int (nI ln), .int (nI p2), .int x2, .long hs])), ((g 1), .inl (y 0, 4023, .inl (upd (rPut (svS S sv) (ns - 1) tx z0 ln ln) 5 (((rPut (svS S sv) (ns - 1) tx z0 ln ln) 5) + (nI (rCnt tx ln ln)))))), ((g 3), .inl (y 0, 60, .inl (zX tx)))]) [1, 0, 2] (by decide) rfl
      refine W.widen (k := 0) (n := 0) (by first | exact Nat.le_of_ble_eq_true rfl | omega) (by first | exact Nat.le_of_ble_eq_true rfl | omega) ?_
      exact W.iret (v := (nI (rCnt tx ln ln))) hx hb hr (fun t ht hW => ⟨⟨nI (rCnt tx ln ln), (ln, p2, x2), rfl, by first | rfl | trivial | simp_all, ⟨by rw [ht]; exact hP, hD⟩⟩, hS.F ht⟩) hS.2.2 dX5_load_109
    · have h0 := hc.resolve_left h9
      refine zw_calli (wr := [((g 1), .inl (y 0, 4023, .inl (rPut (svS S sv) (ns - 1) tx z0 ln i)))]) (w1 := (fun u : (Nat × Nat × Int32) => [((g 0), .inr (5, [.int 0, .ref (g 1), .int (nI (sv2 sv)), .ref (g 2), .ref (g 3), .int (nI ln), .int (nI u.1), .int (nI u.2.1), .int u.2.2, .long hs])), ((g 3), .inl (y 0, 60, .inl (zX tx)))])) hP hD hS hA [1, 0] [2] rfl rfl (by decide +kernel) (by decide +kernel) (va_runV (As := []) (rest := []) ⟨hx, hb, hml, hown, hts⟩ (mX5_readsReading l D y _ g 0 (sv2 sv) ln i p2 x2 hs tx (by first | assumption | rfl | omega | decide) (by first | assumption | rfl | omega | decide) (by first | assumption | rfl | omega | decide) (by first | assumption | rfl | omega | decide) (by first | assumption | rfl | omega | decide)) (cwV 0 hts (zgV tw_468 tw_469 tw_470 tw_369 tw_459) rfl rfl rfl (by decide +kernel) ⟨Nat.le_of_ble_eq_true rfl, Nat.le_of_ble_eq_true rfl⟩) (zRW_preV hKN hP hD (ci := 5) (q0 := 1) rfl rfl [1, 0] rfl (by decide)) rfl rfl hl.1 rfl (lv_room (Nat.le_of_ble_eq_true rfl)) dX5_load_46 ⟨Nat.zero_le _, Nat.zero_le _⟩) (fun r_8 u_9 H locs hw_46 hP hD hS => ?_)
      have hP : va_P D vwCl [((g 1), .inl (y 0, 4023, .inl (rPut (svS S sv) (ns - 1) tx z0 ln i))), ((g 0), .inr (5, [.int 0, .ref (g 1), .int (nI (sv2 sv)), .ref (g 2), .ref (g 3), .int (nI ln), .int (nI u_9.1), .int (nI u_9.2.1), .int u_9.2.2, .long hs])), ((g 3), .inl (y 0, 60, .inl (zX tx)))] H := hP
      have hD : va_D A [((g 1), .inl (y 0, 4023, .inl (rPut (svS S sv) (ns - 1) tx z0 ln i))), ((g 0), .inr (5, [.int 0, .ref (g 1), .int (nI (sv2 sv)), .ref (g 2), .ref (g 3), .int (nI ln), .int (nI u_9.1), .int (nI u_9.2.1), .int u_9.2.2, .long hs])), ((g 3), .inl (y 0, 60, .inl (zX tx)))] := hD
      try dsimp only at hw_46
      rcases hw_46 with ⟨er, hB⟩ | ⟨er, hG⟩
      · exact absurd ⟨rErr_eq hB.1 he, h6⟩ hB.2
      refine zz_top (y := 1) er ?_
      obtain ⟨hG1, hG2, hG3, hG4⟩ := zGot_at hG
      obtain ⟨hp1, hp2⟩ := zGot_p hG
      obtain ⟨hq1, hq2⟩ := zGot_put (S := (svS S sv)) (k := ns - 1) he hG
      refine lv_if_eq (tgt := 93) hx hb dX5_load_49 (by decide) (fun c_49 => absurd c_49 (by decide)) (fun _ => ?_)
      refine lv_aload_n hx hb dX5_load_52 rfl (lv_at hl 0 rfl) ?_
      refine va_get (D := D) (ci := 5) (v := .ref (g 1)) (C := RX5) (T := TX5) (N := 10) hx hb htg iX5 hown hK hP 1 rfl rfl 1 (by decide) (htg _ tw_359) (fun _ h9 => h9) rfl dX5_load_53 ?_
      refine lv_bipush (v := 57) hx hb dX5_load_56 (by decide) ?_
      refine lv_bipush (v := 65) hx hb dX5_load_58 (by decide) ?_
      refine lv_aload_n hx hb dX5_load_60 rfl (lv_at hl 0 rfl) ?_
      refine va_get (D := D) (ci := 5) (v := .ref (g 1)) (C := RX5) (T := TX5) (N := 10) hx hb htg iX5 hown hK hP 1 rfl rfl 1 (by decide) (htg _ tw_359) (fun _ h9 => h9) rfl dX5_load_61 ?_
      refine lv_iconst (v := 1) hx hb dX5_load_64 (by decide) ?_
      refine va_iald hx hb hK hP 0 0 rfl rfl (vp_in_nI (n := 1) (by decide) (by decide)) dX5_load_65 ?_
      refine zz_top (y := (rPut (svS S sv) (ns - 1) tx z0 ln i) 1) (congrArg (rPut (svS S sv) (ns - 1) tx z0 ln i) (by decide)) ?_
      refine zz_top (y := nI ns) ((rPut_out hgr (by omega) i (by omega)).trans ((svS_lo (by decide)).trans hS1)) ?_
      refine lv_iconst (v := 1) hx hb dX5_load_66 (by decide) ?_
      refine lv_isub hx hb dX5_load_67 ?_
      refine zz_top (y := nI (ns - 1)) (pk_sub (a := ns) (b := 1) (by omega)) ?_
      refine lv_imul hx hb dX5_load_68 ?_
      refine zz_top (y := nI (65 * (ns - 1))) (pk_mul 65 (ns - 1)) ?_
      refine lv_iadd hx hb dX5_load_69 ?_
      refine zz_top (y := nI (57 + (65 * (ns - 1)))) (nI_add 57 (65 * (ns - 1))) ?_
      refine lv_aload_n hx hb dX5_load_70 rfl (lv_at hl 0 rfl) ?_
      refine va_get (D := D) (ci := 5) (v := .int (nI u_9.2.1)) (C := RX5) (T := TX5) (N := 10) hx hb htg iX5 hown hK hP 1 rfl rfl 7 (by decide) (htg _ tw_460) (fun _ h9 => h9) rfl dX5_load_71 ?_
      refine lv_iadd hx hb dX5_load_74 ?_
      refine zz_top (y := nI ((57 + (65 * (ns - 1))) + u_9.2.1)) (nI_add (57 + (65 * (ns - 1))) u_9.2.1) ?_
      refine lv_aload_n hx hb dX5_load_75 rfl (lv_at hl 0 rfl) ?_
      refine va_get (D := D) (ci := 5) (v := .int u_9.2.2) (C := RX5) (T := TX5) (N := 10) hx hb htg iX5 hown hK hP 1 rfl rfl 8 (by decide) (htg _ tw_458) (fun _ h9 => h9) rfl dX5_load_76 ?_
      refine va_iast hx hb hK hP hD hS 0 0 rfl rfl (vp_in_nI (by omega) (by decide)) dX5_load_79 (fun H locs hP hD hS => ?_)
      rw [show (nI ((57 + (65 * (ns - 1))) + u_9.2.1)).toNatClampNeg = (57 + (65 * (ns - 1))) + u_9.2.1 from (nI_clamp (by omega))] at hP hD
      have hP : va_P D vwCl [((g 1), .inl (y 0, 4023, .inl (upd (rPut (svS S sv) (ns - 1) tx z0 ln i) ((57 + (65 * (ns - 1))) + u_9.2.1) u_9.2.2))), ((g 0), .inr (5, [.int 0, .ref (g 1), .int (nI (sv2 sv)), .ref (g 2), .ref (g 3), .int (nI ln), .int (nI u_9.1), .int (nI u_9.2.1), .int u_9.2.2, .long hs])), ((g 3), .inl (y 0, 60, .inl (zX tx)))] H := hP
      have hD : va_D A [((g 1), .inl (y 0, 4023, .inl (upd (rPut (svS S sv) (ns - 1) tx z0 ln i) ((57 + (65 * (ns - 1))) + u_9.2.1) u_9.2.2))), ((g 0), .inr (5, [.int 0, .ref (g 1), .int (nI (sv2 sv)), .ref (g 2), .ref (g 3), .int (nI ln), .int (nI u_9.1), .int (nI u_9.2.1), .int u_9.2.2, .long hs])), ((g 3), .inl (y 0, 60, .inl (zX tx)))] := hD
      rw [hq1] at hP hD
      have hP : va_P D vwCl [((g 1), .inl (y 0, 4023, .inl (rPut (svS S sv) (ns - 1) tx z0 ln u_9.1))), ((g 0), .inr (5, [.int 0, .ref (g 1), .int (nI (sv2 sv)), .ref (g 2), .ref (g 3), .int (nI ln), .int (nI u_9.1), .int (nI u_9.2.1), .int u_9.2.2, .long hs])), ((g 3), .inl (y 0, 60, .inl (zX tx)))] H := hP
      have hD : va_D A [((g 1), .inl (y 0, 4023, .inl (rPut (svS S sv) (ns - 1) tx z0 ln u_9.1))), ((g 0), .inr (5, [.int 0, .ref (g 1), .int (nI (sv2 sv)), .ref (g 2), .ref (g 3), .int (nI ln), .int (nI u_9.1), .int (nI u_9.2.1), .int u_9.2.2, .long hs])), ((g 3), .inl (y 0, 60, .inl (zX tx)))] := hD
      refine lv_iinc (v := nI (rCnt tx ln i + 1)) (lv' := [(1, .int (nI (rCnt tx ln i + 1))), (0, .ref (g 0))]) hx hb dX5_load_80 hl (k := 1) rfl (nI_1 (rCnt tx ln i)) (by decide) rfl (fun ls hl => ?_)
      have hl : lv_has ls 2 [(1, .int (nI (rCnt tx ln u_9.1))), (0, .ref (g 0))] := by rw [show (nI (rCnt tx ln u_9.1) : Int32) = nI (rCnt tx ln i + 1) from (congrArg nI hq2 : (nI (rCnt tx ln i + 1) : Int32) = nI (rCnt tx ln u_9.1)).symm]; exact hl
      refine lv_aload_n hx hb dX5_load_83 rfl (lv_at hl 1 rfl) ?_
      refine lv_bipush (v := 59) hx hb dX5_load_84 (by decide) ?_
      refine zw_calli (wr := [((g 1), .inl (y 0, 4023, .inl (rPut (svS S sv) (ns - 1) tx z0 ln u_9.1)))]) (w1 := (fun _ : Unit => [((g 0), .inr (5, [.int 0, .ref (g 1), .int (nI (sv2 sv)), .ref (g 2), .ref (g 3), .int (nI ln), .int (nI (u_9.1 + (if sg tx ln u_9.1 = 59 then 1 else 0))), .int (nI u_9.2.1), .int u_9.2.2, .long hs])), ((g 3), .inl (y 0, 60, .inl (zX tx)))])) hP hD hS hA [1, 2] [0] rfl rfl (by decide +kernel) (by decide +kernel) (va_runV (As := [.int 59]) (rest := []) ⟨hx, hb, hml, hown, hts⟩ (mX5_takes l D y _ g 0 (sv2 sv) ln u_9.1 u_9.2.1 u_9.2.2 hs tx 59 (by first | assumption | rfl | omega | decide) (by first | assumption | rfl | omega | decide) (by first | assumption | rfl | omega | decide) (by first | assumption | rfl | omega | decide)) (cwV 1 hts (zgV tw_464 tw_465 tw_466 tw_369 tw_453) rfl rfl rfl (by decide +kernel) ⟨Nat.le_of_ble_eq_true rfl, Nat.le_of_ble_eq_true rfl⟩) (zRW_preV hKN hP hD (ci := 5) (q0 := 1) rfl rfl [1, 2] rfl (by decide)) rfl rfl hl.1 rfl (lv_room (Nat.le_of_ble_eq_true rfl)) dX5_load_86 ⟨Nat.zero_le _, Nat.zero_le _⟩) (fun r_10 u_11 H locs hw_86 hP hD hS => ?_)
      have hP : va_P D vwCl [((g 1), .inl (y 0, 4023, .inl (rPut (svS S sv) (ns - 1) tx z0 ln u_9.1))), ((g 0), .inr (5, [.int 0, .ref (g 1), .int (nI (sv2 sv)), .ref (g 2), .ref (g 3), .int (nI ln), .int (nI (u_9.1 + (if sg tx ln u_9.1 = 59 then 1 else 0))), .int (nI u_9.2.1), .int u_9.2.2, .long hs])), ((g 3), .inl (y 0, 60, .inl (zX tx)))] H := hP
      have hD : va_D A [((g 1), .inl (y 0, 4023, .inl (rPut (svS S sv) (ns - 1) tx z0 ln u_9.1))), ((g 0), .inr (5, [.int 0, .ref (g 1), .int (nI (sv2 sv)), .ref (g 2), .ref (g 3), .int (nI ln), .int (nI (u_9.1 + (if sg tx ln u_9.1 = 59 then 1 else 0))), .int (nI u_9.2.1), .int u_9.2.2, .long hs])), ((g 3), .inl (y 0, 60, .inl (zX tx)))] := hD
      obtain rfl : r_10 = (if sg tx ln u_9.1 = 59 then (1 : Int32) else 0) := hw_86
      refine lv_pop hx hb dX5_load_89 rfl ?_
      rcases (show u_9.1 = ln ∨ u_9.1 < ln by omega) with e1 | e1
      · have e2 : ¬ sg tx ln u_9.1 = 59 := by rw [e1, sg_end]; decide
        rw [if_neg e2, Nat.add_zero] at hP hD
        have hP : va_P D vwCl [((g 1), .inl (y 0, 4023, .inl (rPut (svS S sv) (ns - 1) tx z0 ln u_9.1))), ((g 0), .inr (5, [.int 0, .ref (g 1), .int (nI (sv2 sv)), .ref (g 2), .ref (g 3), .int (nI ln), .int (nI u_9.1), .int (nI u_9.2.1), .int u_9.2.2, .long hs])), ((g 3), .inl (y 0, 60, .inl (zX tx)))] H := hP
        have hD : va_D A [((g 1), .inl (y 0, 4023, .inl (rPut (svS S sv) (ns - 1) tx z0 ln u_9.1))), ((g 0), .inr (5, [.int 0, .ref (g 1), .int (nI (sv2 sv)), .ref (g 2), .ref (g 3), .int (nI ln), .int (nI u_9.1), .int (nI u_9.2.1), .int u_9.2.2, .long hs])), ((g 3), .inl (y 0, 60, .inl (zX tx)))] := hD
        refine lv_goto (tgt := 45) hx hb dX5_load_90 (by decide) ?_
        have hP := hP.sub (ws' := [((g 3), .inl (y 0, 60, .inl (zX tx))), ((g 0), .inr (5, [.int 0, .ref (g 1), .int (nI (sv2 sv)), .ref (g 2), .ref (g 3), .int (nI ln), .int (nI u_9.1), .int (nI u_9.2.1), .int u_9.2.2, .long hs])), ((g 1), .inl (y 0, 4023, .inl (rPut (svS S sv) (ns - 1) tx z0 ln u_9.1)))]) [2, 1, 0] rfl
        have hD := hD.sub (ws' := [((g 3), .inl (y 0, 60, .inl (zX tx))), ((g 0), .inr (5, [.int 0, .ref (g 1), .int (nI (sv2 sv)), .ref (g 2), .ref (g 3), .int (nI ln), .int (nI u_9.1), .int (nI u_9.2.1), .int u_9.2.2, .long hs])), ((g 1), .inl (y 0, 4023, .inl (rPut (svS S sv) (ns - 1) tx z0 ln u_9.1)))]) [2, 1, 0] (by decide) rfl
        exact ih45 (u_9.1) _ _ _ (by omega) ⟨u_9.2.1, u_9.2.2, by omega, hG3, Or.inl e1, hP, hD, hS, lv_sub hl [1, 0] rfl⟩
      · have e2 := (zGot_59 he hG).resolve_left (by omega)
        obtain ⟨ht1, ht2, ht3⟩ := zGot_step (S := (svS S sv)) (k := ns - 1) he h6 hG e1 e2
        rw [if_pos ((sg_y e1).trans e2), ← ht2] at hP hD
        have hP : va_P D vwCl [((g 1), .inl (y 0, 4023, .inl (rPut (svS S sv) (ns - 1) tx z0 ln (u_9.1 + 1)))), ((g 0), .inr (5, [.int 0, .ref (g 1), .int (nI (sv2 sv)), .ref (g 2), .ref (g 3), .int (nI ln), .int (nI (u_9.1 + 1)), .int (nI u_9.2.1), .int u_9.2.2, .long hs])), ((g 3), .inl (y 0, 60, .inl (zX tx)))] H := hP
        have hD : va_D A [((g 1), .inl (y 0, 4023, .inl (rPut (svS S sv) (ns - 1) tx z0 ln (u_9.1 + 1)))), ((g 0), .inr (5, [.int 0, .ref (g 1), .int (nI (sv2 sv)), .ref (g 2), .ref (g 3), .int (nI ln), .int (nI (u_9.1 + 1)), .int (nI u_9.2.1), .int u_9.2.2, .long hs])), ((g 3), .inl (y 0, 60, .inl (zX tx)))] := hD
        have hl : lv_has ls 2 [(1, .int (nI (rCnt tx ln (u_9.1 + 1)))), (0, .ref (g 0))] := by rw [show (nI (rCnt tx ln (u_9.1 + 1)) : Int32) = nI (rCnt tx ln u_9.1) from (congrArg nI ht3.symm : (nI (rCnt tx ln u_9.1) : Int32) = nI (rCnt tx ln (u_9.1 + 1))).symm]; exact hl
        refine lv_goto (tgt := 45) hx hb dX5_load_90 (by decide) ?_
        have hP := hP.sub (ws' := [((g 3), .inl (y 0, 60, .inl (zX tx))), ((g 0), .inr (5, [.int 0, .ref (g 1), .int (nI (sv2 sv)), .ref (g 2), .ref (g 3), .int (nI ln), .int (nI (u_9.1 + 1)), .int (nI u_9.2.1), .int u_9.2.2, .long hs])), ((g 1), .inl (y 0, 4023, .inl (rPut (svS S sv) (ns - 1) tx z0 ln (u_9.1 + 1))))]) [2, 1, 0] rfl
        have hD := hD.sub (ws' := [((g 3), .inl (y 0, 60, .inl (zX tx))), ((g 0), .inr (5, [.int 0, .ref (g 1), .int (nI (sv2 sv)), .ref (g 2), .ref (g 3), .int (nI ln), .int (nI (u_9.1 + 1)), .int (nI u_9.2.1), .int u_9.2.2, .long hs])), ((g 1), .inl (y 0, 4023, .inl (rPut (svS S sv) (ns - 1) tx z0 ln (u_9.1 + 1))))]) [2, 1, 0] (by decide) rfl
        exact ih45 (u_9.1 + 1) _ _ _ (by omega) ⟨u_9.2.1, u_9.2.2, by omega, (zGot_next hG e1 e2).1, Or.inr (zGot_next hG e1 e2).2, hP, hD, hS, lv_sub hl [1, 0] rfl⟩
  · replace c_7 : ns = 0 := (nI_eq (a := ns) (b := 0) (by omega) (by omega)).mp c_7
    exfalso; omega
