/-! the reference's public writers -/
theorem qSld_hi {y : Int32} (h : ¬ y ≤ 99) : (99 : Int32) = qSld y := by
  unfold qSld
  rw [if_neg (fun h' => h (Int32.le_of_lt h')), if_pos (by decide)]
theorem qSld_lo {y : Int32} (h : ¬ (-99) ≤ y) : (-99 : Int32) = qSld y := by
  have h' := Int32.not_le.mp h
  unfold qSld
  rw [if_pos (Int32.lt_trans h' (by decide)), if_neg (Int32.not_lt.mpr (Int32.le_of_lt h'))]
theorem qSld_mid {y : Int32} (h1 : y ≤ 99) (h2 : (-99) ≤ y) : y = qSld y := by
  unfold qSld
  by_cases a : y < 99
  · rw [if_pos a]
    by_cases b : (-99) < y
    · rw [if_pos b]
    · rw [if_neg b]; exact Int32.le_antisymm (Int32.not_lt.mp b) h2
  · rw [if_neg a, if_pos (by decide)]; exact Int32.le_antisymm h1 (Int32.not_lt.mp a)

set_option maxHeartbeats 4000000 in
set_option maxRecDepth 100000 in
theorem mX5_bend (l : Launch) (D : va_G) (y : Nat → ClassId) (sz : Nat) (g : Nat → Nat) (S : (Nat → Int32)) (th : Int32) (sv : Nat) (ln : Nat) (at9 : Nat) (pl : Nat) (va : Int32) (hs : Int64) (v : Nat) (q : Nat) (x : Int32) (hv : sv ≤ 6) (hl9 : v < 16) (hq : q < 2) (hx1 : ¬ x < (-99) ∧ ¬ 99 < x) : Met l yX5_bend (ws_ yX5_bend cX5_bend 5 (some .int)) ({ frames := 3, cells := 0, slots := 0, locals := 67 }) (va_Pc [.ref (g 0), .int (nI v), .int (nI q), .int x] (zRW D y [((g 0), .inr (5, [.int th, .ref (g 1), .int (nI sv), .ref (g 2), .ref (g 3), .int (nI ln), .int (nI at9), .int (nI pl), .int va, .long hs])), ((g 1), .inl (y 0, 4023, .inl S))] sz)) (va_Qi (fun (r : Int32) (_ : Unit) => r = S (9 + 3 * v + q)) (fun (_ : Unit) t => zOut D (va_A [((g 0), .inr (5, [.int th, .ref (g 1), .int (nI sv), .ref (g 2), .ref (g 3), .int (nI ln), .int (nI at9), .int (nI pl), .int va, .long hs])), ((g 1), .inl (y 0, 4023, .inl S))] sz) [((g 0), .inr (5, [.int 0, .ref (g 1), .int (nI (sv2 sv)), .ref (g 2), .ref (g 3), .int (nI ln), .int (nI at9), .int (nI pl), .int va, .long hs])), ((g 1), .inl (y 0, 4023, .inl (upd (svS S sv) (9 + 3 * v + q) x)))] t) (va_A [((g 0), .inr (5, [.int th, .ref (g 1), .int (nI sv), .ref (g 2), .ref (g 3), .int (nI ln), .int (nI at9), .int (nI pl), .int va, .long hs])), ((g 1), .inl (y 0, 4023, .inl S))] sz)) 0 0 (va_A [((g 0), .inr (5, [.int th, .ref (g 1), .int (nI sv), .ref (g 2), .ref (g 3), .int (nI ln), .int (nI at9), .int (nI pl), .int va, .long hs])), ((g 1), .inl (y 0, 4023, .inl S))] sz) := by
  refine Met.ofW (cc := cX5_bend) (maxL := 5) (ret := (some .int)) (by decide) rfl ?_
  intro p e s m args below meth c s₁ B hml hpre9
  obtain ⟨rfl, hsz, hP, hKN, hD0⟩ := hpre9
  have hK := hKN.1
  have hx := B.exec
  have hb := B.bytes
  have hr := B.returns
  have hts := atoms_spec (ws := (ws_ yX5_bend cX5_bend 5 (some .int))) B.pre
  have htg : ∀ w ∈ gT, w.before _ s = true := fun w h => hts w (List.mem_cons_of_mem _ h)
  have hown : s.vm.findClass RX5 = some m.cls := findClass_of_methodNamed B.named
  have hlocks := B.notSynchronized
  subst hsz
  have hD := hD0.self (sz := s.heap.size)
  clear hD0
  generalize hAe : va_A [((g 0), .inr (5, [.int th, .ref (g 1), .int (nI sv), .ref (g 2), .ref (g 3), .int (nI ln), .int (nI at9), .int (nI pl), .int va, .long hs])), ((g 1), .inl (y 0, 4023, .inl S))] s.heap.size = A at hD ⊢
  have hA : ∀ q : Nat, s.heap.size ≤ q → A q := fun q h => by rw [← hAe]; exact Or.inr h
  have hS : va_S A s.heap s.heap [] := va_S.rf
  have hP : va_P D vwCl [((g 0), .inr (5, [.int th, .ref (g 1), .int (nI sv), .ref (g 2), .ref (g 3), .int (nI ln), .int (nI at9), .int (nI pl), .int va, .long hs])), ((g 1), .inl (y 0, 4023, .inl S))] s.heap := hP
  have hl := lv_entry ([.ref (g 0), .int (nI v), .int (nI q), .int x]) (n := 5) (Nat.le_of_ble_eq_true rfl)
  rw [lg_entry_eq]
  generalize (lg_sl ([.ref (g 0), .int (nI v), .int (nI q), .int x]) ++ List.replicate (5 - (lg_sl ([.ref (g 0), .int (nI v), .int (nI q), .int x])).length) Slot.unset).toArray = ls at hl ⊢
  have hl : lv_has ls 5 [(0, .ref (g 0)), (1, .int (nI v)), (2, .int (nI q)), (3, .int x)] := hl
  refine lv_iload_n hx hb dX5_bend_0 rfl (lv_at hl 1 rfl) ?_
  refine zr_calli (va_runS (As := [.int (nI v)]) (rest := []) ⟨hx, hb, hml, hown, hts⟩ (mX5_isLevel l (nI v)) (va_cwS 1 hts (zgS tw_427 tw_428 tw_369 tw_366) rfl rfl rfl (by decide +kernel) ⟨Nat.le_of_ble_eq_true rfl, Nat.le_of_ble_eq_true rfl⟩) zP_pre rfl rfl hl.1 rfl (lv_room (Nat.le_of_ble_eq_true rfl)) dX5_bend_1 ⟨Nat.zero_le _, Nat.zero_le _⟩) hS (fun r_1 H locs hw_1 hT hS => ?_)
  replace hP := hT _ _ hP
  obtain rfl : r_1 = (if ¬ (nI v) < 0 ∧ ¬ 15 < (nI v) then (1 : Int32) else 0) := hw_1
  refine lv_if_eq (tgt := 18) hx hb dX5_bend_4 (by decide) (fun c_4 => absurd c_4 (zb1.mpr ⟨nI_pos (n := v) (by omega), nI_nlt (a := 15) (b := v) (by omega) (by omega)⟩)) (fun _ => ?_)
  refine lv_iload_n hx hb dX5_bend_7 rfl (lv_at hl 2 rfl) ?_
  refine zr_calli (va_runS (As := [.int (nI q)]) (rest := []) ⟨hx, hb, hml, hown, hts⟩ (mX5_isSide l (nI q)) (va_cwS 1 hts (zgS tw_429 tw_430 tw_369 tw_370) rfl rfl rfl (by decide +kernel) ⟨Nat.le_of_ble_eq_true rfl, Nat.le_of_ble_eq_true rfl⟩) zP_pre rfl rfl hl.1 rfl (lv_room (Nat.le_of_ble_eq_true rfl)) dX5_bend_8 ⟨Nat.zero_le _, Nat.zero_le _⟩) hS (fun r_2 H locs hw_8 hT hS => ?_)
  replace hP := hT _ _ hP
  obtain rfl : r_2 = (if ¬ (nI q) < 0 ∧ ¬ 1 < (nI q) then (1 : Int32) else 0) := hw_8
  refine lv_if_eq (tgt := 18) hx hb dX5_bend_11 (by decide) (fun c_11 => absurd c_11 (zb1.mpr ⟨nI_pos (n := q) (by omega), nI_nlt (a := 1) (b := q) (by omega) (by omega)⟩)) (fun _ => ?_)
  refine lv_iconst (v := 1) hx hb dX5_bend_14 (by decide) ?_
  refine lv_goto (tgt := 19) hx hb dX5_bend_15 (by decide) ?_
  refine lv_istore (lv' := [(4, .int 1), (0, .ref (g 0)), (1, .int (nI v)), (2, .int (nI q)), (3, .int x)]) hx hb dX5_bend_19 hl (by decide) rfl (fun ls hl => ?_)
  refine lv_aload_n hx hb dX5_bend_21 rfl (lv_at hl 1 rfl) ?_
  refine lv_iload hx hb dX5_bend_22 (lv_at hl 0 rfl) ?_
  refine lv_if_ne (tgt := 31) hx hb dX5_bend_24 (by decide) (fun _ => ?_) (fun c_24 => absurd c_24 (by decide))
  refine lv_iload_n hx hb dX5_bend_31 rfl (lv_at hl 4 rfl) ?_
  refine lv_bipush (v := (-99)) hx hb dX5_bend_32 (by decide) ?_
  refine lv_bipush (v := 99) hx hb dX5_bend_34 (by decide) ?_
  refine zr_calli (va_runS (As := [.int x, .int (-99), .int 99]) (rest := [.ref (g 0)]) ⟨hx, hb, hml, hown, hts⟩ (mX5_in l x (-99) 99) (va_cwS 3 hts (zgS tw_367 tw_368 tw_369 tw_364) rfl rfl rfl (by decide +kernel) ⟨Nat.le_of_ble_eq_true rfl, Nat.le_of_ble_eq_true rfl⟩) zP_pre rfl rfl hl.1 rfl (lv_room (Nat.le_of_ble_eq_true rfl)) dX5_bend_36 ⟨Nat.zero_le _, Nat.zero_le _⟩) hS (fun r_3 H locs hw_36 hT hS => ?_)
  replace hP := hT _ _ hP
  obtain rfl : r_3 = (if ¬ x < (-99) ∧ ¬ 99 < x then (1 : Int32) else 0) := hw_36
  refine lv_if_ne (tgt := 46) hx hb dX5_bend_39 (by decide) (fun _ => ?_) (fun c_39 => absurd c_39 (zb1.mpr hx1))
  refine lv_iconst (v := 0) hx hb dX5_bend_46 (by decide) ?_
  refine zw_calli (wr := [((g 1), .inl (y 0, 4023, .inl S))]) (w1 := (fun _ : Unit => [((g 0), .inr (5, [.int 0, .ref (g 1), .int (nI sv), .ref (g 2), .ref (g 3), .int (nI ln), .int (nI at9), .int (nI pl), .int va, .long hs]))])) hP hD hS hA [0] [1] rfl rfl (by decide +kernel) (by decide +kernel) (va_runV (As := [.int 0]) (rest := []) ⟨hx, hb, hml, hown, hts⟩ (mX5_holds l D y _ g th sv ln at9 pl va hs 0) (cwV 1 hts (zgV tw_431 tw_432 tw_433 tw_369 tw_365) rfl rfl rfl (by decide +kernel) ⟨Nat.le_of_ble_eq_true rfl, Nat.le_of_ble_eq_true rfl⟩) (zRW_preV hKN hP hD (ci := 5) (q0 := 0) rfl rfl [0] rfl (by decide)) rfl rfl hl.1 rfl (lv_room (Nat.le_of_ble_eq_true rfl)) dX5_bend_47 ⟨Nat.zero_le _, Nat.zero_le _⟩) (fun r_4 u_5 H locs hw_47 hP hD hS => ?_)
  have hP : va_P D vwCl [((g 1), .inl (y 0, 4023, .inl S)), ((g 0), .inr (5, [.int 0, .ref (g 1), .int (nI sv), .ref (g 2), .ref (g 3), .int (nI ln), .int (nI at9), .int (nI pl), .int va, .long hs]))] H := hP
  have hD : va_D A [((g 1), .inl (y 0, 4023, .inl S)), ((g 0), .inr (5, [.int 0, .ref (g 1), .int (nI sv), .ref (g 2), .ref (g 3), .int (nI ln), .int (nI at9), .int (nI pl), .int va, .long hs]))] := hD
  obtain rfl : r_4 = 1 := hw_47
  refine lv_if_eq (tgt := 69) hx hb dX5_bend_50 (by decide) (fun c_50 => absurd c_50 (by decide)) (fun _ => ?_)
  refine lv_aload_n hx hb dX5_bend_53 rfl (lv_at hl 1 rfl) ?_
  refine lv_bipush (v := 9) hx hb dX5_bend_54 (by decide) ?_
  refine lv_iconst (v := 3) hx hb dX5_bend_56 (by decide) ?_
  refine lv_iload_n hx hb dX5_bend_57 rfl (lv_at hl 2 rfl) ?_
  refine lv_imul hx hb dX5_bend_58 ?_
  refine zz_top (y := nI (3 * v)) (pk_mul 3 v) ?_
  refine lv_iadd hx hb dX5_bend_59 ?_
  refine zz_top (y := nI (9 + (3 * v))) (nI_add 9 (3 * v)) ?_
  refine lv_iload_n hx hb dX5_bend_60 rfl (lv_at hl 3 rfl) ?_
  refine lv_iadd hx hb dX5_bend_61 ?_
  refine zz_top (y := nI ((9 + (3 * v)) + q)) (nI_add (9 + (3 * v)) q) ?_
  refine lv_iload_n hx hb dX5_bend_62 rfl (lv_at hl 4 rfl) ?_
  refine zw_calli (wr := []) (w1 := (fun _ : Unit => [((g 0), .inr (5, [.int 0, .ref (g 1), .int (nI (sv2 sv)), .ref (g 2), .ref (g 3), .int (nI ln), .int (nI at9), .int (nI pl), .int va, .long hs])), ((g 1), .inl (y 0, 4023, .inl (upd (svS S sv) ((9 + (3 * v)) + q) x)))])) hP hD hS hA [1, 0] [] rfl rfl (by decide +kernel) (by decide +kernel) (va_runV (As := [.int (nI ((9 + (3 * v)) + q)), .int x]) (rest := []) ⟨hx, hb, hml, hown, hts⟩ (mX5_changed l D y _ g S 0 sv ln at9 pl va hs ((9 + (3 * v)) + q) x (by first | assumption | rfl | omega | decide) (by first | assumption | rfl | omega | decide)) (cwV 2 hts (zgV tw_434 tw_435 tw_436 tw_369 tw_422) rfl rfl rfl (by decide +kernel) ⟨Nat.le_of_ble_eq_true rfl, Nat.le_of_ble_eq_true rfl⟩) (zRW_preV hKN hP hD (ci := 5) (q0 := 1) rfl rfl [1, 0] rfl (by decide)) rfl rfl hl.1 rfl (lv_room (Nat.le_of_ble_eq_true rfl)) dX5_bend_63 ⟨Nat.zero_le _, Nat.zero_le _⟩) (fun r_6 u_7 H locs hw_63 hP hD hS => ?_)
  have hP : va_P D vwCl [((g 0), .inr (5, [.int 0, .ref (g 1), .int (nI (sv2 sv)), .ref (g 2), .ref (g 3), .int (nI ln), .int (nI at9), .int (nI pl), .int va, .long hs])), ((g 1), .inl (y 0, 4023, .inl (upd (svS S sv) ((9 + (3 * v)) + q) x)))] H := hP
  have hD : va_D A [((g 0), .inr (5, [.int 0, .ref (g 1), .int (nI (sv2 sv)), .ref (g 2), .ref (g 3), .int (nI ln), .int (nI at9), .int (nI pl), .int va, .long hs])), ((g 1), .inl (y 0, 4023, .inl (upd (svS S sv) ((9 + (3 * v)) + q) x)))] := hD
  obtain rfl : r_6 = S ((9 + (3 * v)) + q) := hw_63
  refine lv_goto (tgt := 70) hx hb dX5_bend_66 (by decide) ?_
  refine W.widen (k := 0) (n := 0) (by first | exact Nat.le_of_ble_eq_true rfl | omega) (by first | exact Nat.le_of_ble_eq_true rfl | omega) ?_
  exact W.iret (v := (S ((9 + (3 * v)) + q))) hx hb hr (fun t ht hW => ⟨⟨S ((9 + (3 * v)) + q), (), rfl, by first | rfl | trivial | simp_all, ⟨by rw [ht]; exact hP, hD⟩⟩, hS.F ht⟩) hS.2.2 dX5_bend_70

set_option maxHeartbeats 4000000 in
set_option maxRecDepth 100000 in
theorem mX5_bend_b1 (l : Launch) (D : va_G) (y : Nat → ClassId) (sz : Nat) (g : Nat → Nat) (th : Int32) (sv : Nat) (ln : Nat) (at9 : Nat) (pl : Nat) (va : Int32) (hs : Int64) (v : Int32) (q : Int32) (x : Int32) (hb1 : ¬ ((¬ v < 0 ∧ ¬ 15 < v) ∧ (¬ q < 0 ∧ ¬ 1 < q))) : Met l yX5_bend (ws_ yX5_bend cX5_bend 5 (some .int)) ({ frames := 2, cells := 0, slots := 0, locals := 42 }) (va_Pc [.ref (g 0), .int v, .int q, .int x] (zRW D y [((g 0), .inr (5, [.int th, .ref (g 1), .int (nI sv), .ref (g 2), .ref (g 3), .int (nI ln), .int (nI at9), .int (nI pl), .int va, .long hs]))] sz)) (va_Qi (fun (r : Int32) (_ : Unit) => r = 0) (fun (_ : Unit) t => zOut D (va_A [((g 0), .inr (5, [.int th, .ref (g 1), .int (nI sv), .ref (g 2), .ref (g 3), .int (nI ln), .int (nI at9), .int (nI pl), .int va, .long hs]))] sz) [((g 0), .inr (5, [.int 1, .ref (g 1), .int (nI sv), .ref (g 2), .ref (g 3), .int (nI ln), .int (nI at9), .int (nI pl), .int va, .long hs]))] t) (va_A [((g 0), .inr (5, [.int th, .ref (g 1), .int (nI sv), .ref (g 2), .ref (g 3), .int (nI ln), .int (nI at9), .int (nI pl), .int va, .long hs]))] sz)) 0 0 (va_A [((g 0), .inr (5, [.int th, .ref (g 1), .int (nI sv), .ref (g 2), .ref (g 3), .int (nI ln), .int (nI at9), .int (nI pl), .int va, .long hs]))] sz) := by
  refine Met.ofW (cc := cX5_bend) (maxL := 5) (ret := (some .int)) (by decide) rfl ?_
  intro p e s m args below meth c s₁ B hml hpre9
  obtain ⟨rfl, hsz, hP, hKN, hD0⟩ := hpre9
  have hK := hKN.1
  have hx := B.exec
  have hb := B.bytes
  have hr := B.returns
  have hts := atoms_spec (ws := (ws_ yX5_bend cX5_bend 5 (some .int))) B.pre
  have htg : ∀ w ∈ gT, w.before _ s = true := fun w h => hts w (List.mem_cons_of_mem _ h)
  have hown : s.vm.findClass RX5 = some m.cls := findClass_of_methodNamed B.named
  have hlocks := B.notSynchronized
  subst hsz
  have hD := hD0.self (sz := s.heap.size)
  clear hD0
  generalize hAe : va_A [((g 0), .inr (5, [.int th, .ref (g 1), .int (nI sv), .ref (g 2), .ref (g 3), .int (nI ln), .int (nI at9), .int (nI pl), .int va, .long hs]))] s.heap.size = A at hD ⊢
  have hA : ∀ q : Nat, s.heap.size ≤ q → A q := fun q h => by rw [← hAe]; exact Or.inr h
  have hS : va_S A s.heap s.heap [] := va_S.rf
  have hP : va_P D vwCl [((g 0), .inr (5, [.int th, .ref (g 1), .int (nI sv), .ref (g 2), .ref (g 3), .int (nI ln), .int (nI at9), .int (nI pl), .int va, .long hs]))] s.heap := hP
  have hl := lv_entry ([.ref (g 0), .int v, .int q, .int x]) (n := 5) (Nat.le_of_ble_eq_true rfl)
  rw [lg_entry_eq]
  generalize (lg_sl ([.ref (g 0), .int v, .int q, .int x]) ++ List.replicate (5 - (lg_sl ([.ref (g 0), .int v, .int q, .int x])).length) Slot.unset).toArray = ls at hl ⊢
  have hl : lv_has ls 5 [(0, .ref (g 0)), (1, .int v), (2, .int q), (3, .int x)] := hl
  refine lv_iload_n hx hb dX5_bend_0 rfl (lv_at hl 1 rfl) ?_
  refine zr_calli (va_runS (As := [.int v]) (rest := []) ⟨hx, hb, hml, hown, hts⟩ (mX5_isLevel l v) (va_cwS 1 hts (zgS tw_427 tw_428 tw_369 tw_366) rfl rfl rfl (by decide +kernel) ⟨Nat.le_of_ble_eq_true rfl, Nat.le_of_ble_eq_true rfl⟩) zP_pre rfl rfl hl.1 rfl (lv_room (Nat.le_of_ble_eq_true rfl)) dX5_bend_1 ⟨Nat.zero_le _, Nat.zero_le _⟩) hS (fun r_1 H locs hw_1 hT hS => ?_)
  replace hP := hT _ _ hP
  obtain rfl : r_1 = (if ¬ v < 0 ∧ ¬ 15 < v then (1 : Int32) else 0) := hw_1
  refine lv_if_eq (tgt := 18) hx hb dX5_bend_4 (by decide) (fun c_4 => ?_) (fun c_4 => ?_)
  · replace c_4 := zb0.mp c_4
    refine lv_iconst (v := 0) hx hb dX5_bend_18 (by decide) ?_
    refine lv_istore (lv' := [(4, .int 0), (0, .ref (g 0)), (1, .int v), (2, .int q), (3, .int x)]) hx hb dX5_bend_19 hl (by decide) rfl (fun ls hl => ?_)
    refine lv_aload_n hx hb dX5_bend_21 rfl (lv_at hl 1 rfl) ?_
    refine lv_iload hx hb dX5_bend_22 (lv_at hl 0 rfl) ?_
    refine lv_if_ne (tgt := 31) hx hb dX5_bend_24 (by decide) (fun c_24 => absurd (by decide) c_24) (fun _ => ?_)
    refine lv_iconst (v := 1) hx hb dX5_bend_27 (by decide) ?_
    refine lv_goto (tgt := 47) hx hb dX5_bend_28 (by decide) ?_
    refine zw_calli (wr := []) (w1 := (fun _ : Unit => [((g 0), .inr (5, [.int 1, .ref (g 1), .int (nI sv), .ref (g 2), .ref (g 3), .int (nI ln), .int (nI at9), .int (nI pl), .int va, .long hs]))])) hP hD hS hA [0] [] rfl rfl (by decide +kernel) (by decide +kernel) (va_runV (As := [.int 1]) (rest := []) ⟨hx, hb, hml, hown, hts⟩ (mX5_holds l D y _ g th sv ln at9 pl va hs 1) (cwV 1 hts (zgV tw_431 tw_432 tw_433 tw_369 tw_365) rfl rfl rfl (by decide +kernel) ⟨Nat.le_of_ble_eq_true rfl, Nat.le_of_ble_eq_true rfl⟩) (zRW_preV hKN hP hD (ci := 5) (q0 := 0) rfl rfl [0] rfl (by decide)) rfl rfl hl.1 rfl (lv_room (Nat.le_of_ble_eq_true rfl)) dX5_bend_47 ⟨Nat.zero_le _, Nat.zero_le _⟩) (fun r_2 u_3 H locs hw_47 hP hD hS => ?_)
    have hP : va_P D vwCl [((g 0), .inr (5, [.int 1, .ref (g 1), .int (nI sv), .ref (g 2), .ref (g 3), .int (nI ln), .int (nI at9), .int (nI pl), .int va, .long hs]))] H := hP
    have hD : va_D A [((g 0), .inr (5, [.int 1, .ref (g 1), .int (nI sv), .ref (g 2), .ref (g 3), .int (nI ln), .int (nI at9), .int (nI pl), .int va, .long hs]))] := hD
    obtain rfl : r_2 = 0 := hw_47
    refine lv_if_eq (tgt := 69) hx hb dX5_bend_50 (by decide) (fun _ => ?_) (fun c_50 => absurd (by decide) c_50)
    refine lv_iconst (v := 0) hx hb dX5_bend_69 (by decide) ?_
    refine W.widen (k := 0) (n := 0) (by first | exact Nat.le_of_ble_eq_true rfl | omega) (by first | exact Nat.le_of_ble_eq_true rfl | omega) ?_
    exact W.iret (v := 0) hx hb hr (fun t ht hW => ⟨⟨0, (), rfl, by first | rfl | trivial | simp_all, ⟨by rw [ht]; exact hP, hD⟩⟩, hS.F ht⟩) hS.2.2 dX5_bend_70
  · replace c_4 := zb1.mp c_4
    refine lv_iload_n hx hb dX5_bend_7 rfl (lv_at hl 2 rfl) ?_
    refine zr_calli (va_runS (As := [.int q]) (rest := []) ⟨hx, hb, hml, hown, hts⟩ (mX5_isSide l q) (va_cwS 1 hts (zgS tw_429 tw_430 tw_369 tw_370) rfl rfl rfl (by decide +kernel) ⟨Nat.le_of_ble_eq_true rfl, Nat.le_of_ble_eq_true rfl⟩) zP_pre rfl rfl hl.1 rfl (lv_room (Nat.le_of_ble_eq_true rfl)) dX5_bend_8 ⟨Nat.zero_le _, Nat.zero_le _⟩) hS (fun r_4 H locs hw_8 hT hS => ?_)
    replace hP := hT _ _ hP
    obtain rfl : r_4 = (if ¬ q < 0 ∧ ¬ 1 < q then (1 : Int32) else 0) := hw_8
    refine lv_if_eq (tgt := 18) hx hb dX5_bend_11 (by decide) (fun c_11 => ?_) (fun c_11 => ?_)
    · replace c_11 := zb0.mp c_11
      refine lv_iconst (v := 0) hx hb dX5_bend_18 (by decide) ?_
      refine lv_istore (lv' := [(4, .int 0), (0, .ref (g 0)), (1, .int v), (2, .int q), (3, .int x)]) hx hb dX5_bend_19 hl (by decide) rfl (fun ls hl => ?_)
      refine lv_aload_n hx hb dX5_bend_21 rfl (lv_at hl 1 rfl) ?_
      refine lv_iload hx hb dX5_bend_22 (lv_at hl 0 rfl) ?_
      refine lv_if_ne (tgt := 31) hx hb dX5_bend_24 (by decide) (fun c_24 => absurd (by decide) c_24) (fun _ => ?_)
      refine lv_iconst (v := 1) hx hb dX5_bend_27 (by decide) ?_
      refine lv_goto (tgt := 47) hx hb dX5_bend_28 (by decide) ?_
      refine zw_calli (wr := []) (w1 := (fun _ : Unit => [((g 0), .inr (5, [.int 1, .ref (g 1), .int (nI sv), .ref (g 2), .ref (g 3), .int (nI ln), .int (nI at9), .int (nI pl), .int va, .long hs]))])) hP hD hS hA [0] [] rfl rfl (by decide +kernel) (by decide +kernel) (va_runV (As := [.int 1]) (rest := []) ⟨hx, hb, hml, hown, hts⟩ (mX5_holds l D y _ g th sv ln at9 pl va hs 1) (cwV 1 hts (zgV tw_431 tw_432 tw_433 tw_369 tw_365) rfl rfl rfl (by decide +kernel) ⟨Nat.le_of_ble_eq_true rfl, Nat.le_of_ble_eq_true rfl⟩) (zRW_preV hKN hP hD (ci := 5) (q0 := 0) rfl rfl [0] rfl (by decide)) rfl rfl hl.1 rfl (lv_room (Nat.le_of_ble_eq_true rfl)) dX5_bend_47 ⟨Nat.zero_le _, Nat.zero_le _⟩) (fun r_5 u_6 H locs hw_47 hP hD hS => ?_)
      have hP : va_P D vwCl [((g 0), .inr (5, [.int 1, .ref (g 1), .int (nI sv), .ref (g 2), .ref (g 3), .int (nI ln), .int (nI at9), .int (nI pl), .int va, .long hs]))] H := hP
      have hD : va_D A [((g 0), .inr (5, [.int 1, .ref (g 1), .int (nI sv), .ref (g 2), .ref (g 3), .int (nI ln), .int (nI at9), .int (nI pl), .int va, .long hs]))] := hD
      obtain rfl : r_5 = 0 := hw_47
      refine lv_if_eq (tgt := 69) hx hb dX5_bend_50 (by decide) (fun _ => ?_) (fun c_50 => absurd (by decide) c_50)
      refine lv_iconst (v := 0) hx hb dX5_bend_69 (by decide) ?_
      refine W.widen (k := 0) (n := 0) (by first | exact Nat.le_of_ble_eq_true rfl | omega) (by first | exact Nat.le_of_ble_eq_true rfl | omega) ?_
      exact W.iret (v := 0) hx hb hr (fun t ht hW => ⟨⟨0, (), rfl, by first | rfl | trivial | simp_all, ⟨by rw [ht]; exact hP, hD⟩⟩, hS.F ht⟩) hS.2.2 dX5_bend_70
    · replace c_11 := zb1.mp c_11
      exact absurd ⟨c_4, c_11⟩ hb1

set_option maxHeartbeats 4000000 in
set_option maxRecDepth 100000 in
theorem mX5_bend_b2 (l : Launch) (D : va_G) (y : Nat → ClassId) (sz : Nat) (g : Nat → Nat) (th : Int32) (sv : Nat) (ln : Nat) (at9 : Nat) (pl : Nat) (va : Int32) (hs : Int64) (v : Int32) (q : Int32) (x : Int32) (h1 : (¬ v < 0 ∧ ¬ 15 < v) ∧ (¬ q < 0 ∧ ¬ 1 < q)) (hb1 : ¬ (¬ x < (-99) ∧ ¬ 99 < x)) : Met l yX5_bend (ws_ yX5_bend cX5_bend 5 (some .int)) ({ frames := 2, cells := 0, slots := 0, locals := 42 }) (va_Pc [.ref (g 0), .int v, .int q, .int x] (zRW D y [((g 0), .inr (5, [.int th, .ref (g 1), .int (nI sv), .ref (g 2), .ref (g 3), .int (nI ln), .int (nI at9), .int (nI pl), .int va, .long hs]))] sz)) (va_Qi (fun (r : Int32) (_ : Unit) => r = 0) (fun (_ : Unit) t => zOut D (va_A [((g 0), .inr (5, [.int th, .ref (g 1), .int (nI sv), .ref (g 2), .ref (g 3), .int (nI ln), .int (nI at9), .int (nI pl), .int va, .long hs]))] sz) [((g 0), .inr (5, [.int 2, .ref (g 1), .int (nI sv), .ref (g 2), .ref (g 3), .int (nI ln), .int (nI at9), .int (nI pl), .int va, .long hs]))] t) (va_A [((g 0), .inr (5, [.int th, .ref (g 1), .int (nI sv), .ref (g 2), .ref (g 3), .int (nI ln), .int (nI at9), .int (nI pl), .int va, .long hs]))] sz)) 0 0 (va_A [((g 0), .inr (5, [.int th, .ref (g 1), .int (nI sv), .ref (g 2), .ref (g 3), .int (nI ln), .int (nI at9), .int (nI pl), .int va, .long hs]))] sz) := by
  refine Met.ofW (cc := cX5_bend) (maxL := 5) (ret := (some .int)) (by decide) rfl ?_
  intro p e s m args below meth c s₁ B hml hpre9
  obtain ⟨rfl, hsz, hP, hKN, hD0⟩ := hpre9
  have hK := hKN.1
  have hx := B.exec
  have hb := B.bytes
  have hr := B.returns
  have hts := atoms_spec (ws := (ws_ yX5_bend cX5_bend 5 (some .int))) B.pre
  have htg : ∀ w ∈ gT, w.before _ s = true := fun w h => hts w (List.mem_cons_of_mem _ h)
  have hown : s.vm.findClass RX5 = some m.cls := findClass_of_methodNamed B.named
  have hlocks := B.notSynchronized
  subst hsz
  have hD := hD0.self (sz := s.heap.size)
  clear hD0
  generalize hAe : va_A [((g 0), .inr (5, [.int th, .ref (g 1), .int (nI sv), .ref (g 2), .ref (g 3), .int (nI ln), .int (nI at9), .int (nI pl), .int va, .long hs]))] s.heap.size = A at hD ⊢
  have hA : ∀ q : Nat, s.heap.size ≤ q → A q := fun q h => by rw [← hAe]; exact Or.inr h
  have hS : va_S A s.heap s.heap [] := va_S.rf
  have hP : va_P D vwCl [((g 0), .inr (5, [.int th, .ref (g 1), .int (nI sv), .ref (g 2), .ref (g 3), .int (nI ln), .int (nI at9), .int (nI pl), .int va, .long hs]))] s.heap := hP
  have hl := lv_entry ([.ref (g 0), .int v, .int q, .int x]) (n := 5) (Nat.le_of_ble_eq_true rfl)
  rw [lg_entry_eq]
  generalize (lg_sl ([.ref (g 0), .int v, .int q, .int x]) ++ List.replicate (5 - (lg_sl ([.ref (g 0), .int v, .int q, .int x])).length) Slot.unset).toArray = ls at hl ⊢
  have hl : lv_has ls 5 [(0, .ref (g 0)), (1, .int v), (2, .int q), (3, .int x)] := hl
  refine lv_iload_n hx hb dX5_bend_0 rfl (lv_at hl 1 rfl) ?_
  refine zr_calli (va_runS (As := [.int v]) (rest := []) ⟨hx, hb, hml, hown, hts⟩ (mX5_isLevel l v) (va_cwS 1 hts (zgS tw_427 tw_428 tw_369 tw_366) rfl rfl rfl (by decide +kernel) ⟨Nat.le_of_ble_eq_true rfl, Nat.le_of_ble_eq_true rfl⟩) zP_pre rfl rfl hl.1 rfl (lv_room (Nat.le_of_ble_eq_true rfl)) dX5_bend_1 ⟨Nat.zero_le _, Nat.zero_le _⟩) hS (fun r_1 H locs hw_1 hT hS => ?_)
  replace hP := hT _ _ hP
  obtain rfl : r_1 = (if ¬ v < 0 ∧ ¬ 15 < v then (1 : Int32) else 0) := hw_1
  refine lv_if_eq (tgt := 18) hx hb dX5_bend_4 (by decide) (fun c_4 => absurd c_4 (zb1.mpr h1.1)) (fun _ => ?_)
  refine lv_iload_n hx hb dX5_bend_7 rfl (lv_at hl 2 rfl) ?_
  refine zr_calli (va_runS (As := [.int q]) (rest := []) ⟨hx, hb, hml, hown, hts⟩ (mX5_isSide l q) (va_cwS 1 hts (zgS tw_429 tw_430 tw_369 tw_370) rfl rfl rfl (by decide +kernel) ⟨Nat.le_of_ble_eq_true rfl, Nat.le_of_ble_eq_true rfl⟩) zP_pre rfl rfl hl.1 rfl (lv_room (Nat.le_of_ble_eq_true rfl)) dX5_bend_8 ⟨Nat.zero_le _, Nat.zero_le _⟩) hS (fun r_2 H locs hw_8 hT hS => ?_)
  replace hP := hT _ _ hP
  obtain rfl : r_2 = (if ¬ q < 0 ∧ ¬ 1 < q then (1 : Int32) else 0) := hw_8
  refine lv_if_eq (tgt := 18) hx hb dX5_bend_11 (by decide) (fun c_11 => absurd c_11 (zb1.mpr h1.2)) (fun _ => ?_)
  refine lv_iconst (v := 1) hx hb dX5_bend_14 (by decide) ?_
  refine lv_goto (tgt := 19) hx hb dX5_bend_15 (by decide) ?_
  refine lv_istore (lv' := [(4, .int 1), (0, .ref (g 0)), (1, .int v), (2, .int q), (3, .int x)]) hx hb dX5_bend_19 hl (by decide) rfl (fun ls hl => ?_)
  refine lv_aload_n hx hb dX5_bend_21 rfl (lv_at hl 1 rfl) ?_
  refine lv_iload hx hb dX5_bend_22 (lv_at hl 0 rfl) ?_
  refine lv_if_ne (tgt := 31) hx hb dX5_bend_24 (by decide) (fun _ => ?_) (fun c_24 => absurd c_24 (by decide))
  refine lv_iload_n hx hb dX5_bend_31 rfl (lv_at hl 4 rfl) ?_
  refine lv_bipush (v := (-99)) hx hb dX5_bend_32 (by decide) ?_
  refine lv_bipush (v := 99) hx hb dX5_bend_34 (by decide) ?_
  refine zr_calli (va_runS (As := [.int x, .int (-99), .int 99]) (rest := [.ref (g 0)]) ⟨hx, hb, hml, hown, hts⟩ (mX5_in l x (-99) 99) (va_cwS 3 hts (zgS tw_367 tw_368 tw_369 tw_364) rfl rfl rfl (by decide +kernel) ⟨Nat.le_of_ble_eq_true rfl, Nat.le_of_ble_eq_true rfl⟩) zP_pre rfl rfl hl.1 rfl (lv_room (Nat.le_of_ble_eq_true rfl)) dX5_bend_36 ⟨Nat.zero_le _, Nat.zero_le _⟩) hS (fun r_3 H locs hw_36 hT hS => ?_)
  replace hP := hT _ _ hP
  obtain rfl : r_3 = (if ¬ x < (-99) ∧ ¬ 99 < x then (1 : Int32) else 0) := hw_36
  refine lv_if_ne (tgt := 46) hx hb dX5_bend_39 (by decide) (fun c_39 => absurd (zb0.mpr hb1) c_39) (fun _ => ?_)
  refine lv_iconst (v := 2) hx hb dX5_bend_42 (by decide) ?_
  refine lv_goto (tgt := 47) hx hb dX5_bend_43 (by decide) ?_
  refine zw_calli (wr := []) (w1 := (fun _ : Unit => [((g 0), .inr (5, [.int 2, .ref (g 1), .int (nI sv), .ref (g 2), .ref (g 3), .int (nI ln), .int (nI at9), .int (nI pl), .int va, .long hs]))])) hP hD hS hA [0] [] rfl rfl (by decide +kernel) (by decide +kernel) (va_runV (As := [.int 2]) (rest := []) ⟨hx, hb, hml, hown, hts⟩ (mX5_holds l D y _ g th sv ln at9 pl va hs 2) (cwV 1 hts (zgV tw_431 tw_432 tw_433 tw_369 tw_365) rfl rfl rfl (by decide +kernel) ⟨Nat.le_of_ble_eq_true rfl, Nat.le_of_ble_eq_true rfl⟩) (zRW_preV hKN hP hD (ci := 5) (q0 := 0) rfl rfl [0] rfl (by decide)) rfl rfl hl.1 rfl (lv_room (Nat.le_of_ble_eq_true rfl)) dX5_bend_47 ⟨Nat.zero_le _, Nat.zero_le _⟩) (fun r_4 u_5 H locs hw_47 hP hD hS => ?_)
  have hP : va_P D vwCl [((g 0), .inr (5, [.int 2, .ref (g 1), .int (nI sv), .ref (g 2), .ref (g 3), .int (nI ln), .int (nI at9), .int (nI pl), .int va, .long hs]))] H := hP
  have hD : va_D A [((g 0), .inr (5, [.int 2, .ref (g 1), .int (nI sv), .ref (g 2), .ref (g 3), .int (nI ln), .int (nI at9), .int (nI pl), .int va, .long hs]))] := hD
  obtain rfl : r_4 = 0 := hw_47
  refine lv_if_eq (tgt := 69) hx hb dX5_bend_50 (by decide) (fun _ => ?_) (fun c_50 => absurd (by decide) c_50)
  refine lv_iconst (v := 0) hx hb dX5_bend_69 (by decide) ?_
  refine W.widen (k := 0) (n := 0) (by first | exact Nat.le_of_ble_eq_true rfl | omega) (by first | exact Nat.le_of_ble_eq_true rfl | omega) ?_
  exact W.iret (v := 0) hx hb hr (fun t ht hW => ⟨⟨0, (), rfl, by first | rfl | trivial | simp_all, ⟨by rw [ht]; exact hP, hD⟩⟩, hS.F ht⟩) hS.2.2 dX5_bend_70

set_option maxHeartbeats 4000000 in
set_option maxRecDepth 100000 in
theorem mX5_slide_b1 (l : Launch) (D : va_G) (y : Nat → ClassId) (sz : Nat) (g : Nat → Nat) (th : Int32) (sv : Nat) (ln : Nat) (at9 : Nat) (pl : Nat) (va : Int32) (hs : Int64) (v : Int32) (q : Int32) (x : Int32) (hb1 : ¬ ((¬ v < 0 ∧ ¬ 15 < v) ∧ (¬ q < 0 ∧ ¬ 1 < q))) : Met l yX5_slide (ws_ yX5_slide cX5_slide 6 (some .int)) ({ frames := 2, cells := 0, slots := 0, locals := 42 }) (va_Pc [.ref (g 0), .int v, .int q, .int x] (zRW D y [((g 0), .inr (5, [.int th, .ref (g 1), .int (nI sv), .ref (g 2), .ref (g 3), .int (nI ln), .int (nI at9), .int (nI pl), .int va, .long hs]))] sz)) (va_Qi (fun (r : Int32) (_ : Unit) => r = 0) (fun (_ : Unit) t => zOut D (va_A [((g 0), .inr (5, [.int th, .ref (g 1), .int (nI sv), .ref (g 2), .ref (g 3), .int (nI ln), .int (nI at9), .int (nI pl), .int va, .long hs]))] sz) [((g 0), .inr (5, [.int 1, .ref (g 1), .int (nI sv), .ref (g 2), .ref (g 3), .int (nI ln), .int (nI at9), .int (nI pl), .int va, .long hs]))] t) (va_A [((g 0), .inr (5, [.int th, .ref (g 1), .int (nI sv), .ref (g 2), .ref (g 3), .int (nI ln), .int (nI at9), .int (nI pl), .int va, .long hs]))] sz)) 0 0 (va_A [((g 0), .inr (5, [.int th, .ref (g 1), .int (nI sv), .ref (g 2), .ref (g 3), .int (nI ln), .int (nI at9), .int (nI pl), .int va, .long hs]))] sz) := by
  refine Met.ofW (cc := cX5_slide) (maxL := 6) (ret := (some .int)) (by decide) rfl ?_
  intro p e s m args below meth c s₁ B hml hpre9
  obtain ⟨rfl, hsz, hP, hKN, hD0⟩ := hpre9
  have hK := hKN.1
  have hx := B.exec
  have hb := B.bytes
  have hr := B.returns
  have hts := atoms_spec (ws := (ws_ yX5_slide cX5_slide 6 (some .int))) B.pre
  have htg : ∀ w ∈ gT, w.before _ s = true := fun w h => hts w (List.mem_cons_of_mem _ h)
  have hown : s.vm.findClass RX5 = some m.cls := findClass_of_methodNamed B.named
  have hlocks := B.notSynchronized
  subst hsz
  have hD := hD0.self (sz := s.heap.size)
  clear hD0
  generalize hAe : va_A [((g 0), .inr (5, [.int th, .ref (g 1), .int (nI sv), .ref (g 2), .ref (g 3), .int (nI ln), .int (nI at9), .int (nI pl), .int va, .long hs]))] s.heap.size = A at hD ⊢
  have hA : ∀ q : Nat, s.heap.size ≤ q → A q := fun q h => by rw [← hAe]; exact Or.inr h
  have hS : va_S A s.heap s.heap [] := va_S.rf
  have hP : va_P D vwCl [((g 0), .inr (5, [.int th, .ref (g 1), .int (nI sv), .ref (g 2), .ref (g 3), .int (nI ln), .int (nI at9), .int (nI pl), .int va, .long hs]))] s.heap := hP
  have hl := lv_entry ([.ref (g 0), .int v, .int q, .int x]) (n := 6) (Nat.le_of_ble_eq_true rfl)
  rw [lg_entry_eq]
  generalize (lg_sl ([.ref (g 0), .int v, .int q, .int x]) ++ List.replicate (6 - (lg_sl ([.ref (g 0), .int v, .int q, .int x])).length) Slot.unset).toArray = ls at hl ⊢
  have hl : lv_has ls 6 [(0, .ref (g 0)), (1, .int v), (2, .int q), (3, .int x)] := hl
  refine lv_iload_n hx hb dX5_slide_0 rfl (lv_at hl 1 rfl) ?_
  refine zr_calli (va_runS (As := [.int v]) (rest := []) ⟨hx, hb, hml, hown, hts⟩ (mX5_isLevel l v) (va_cwS 1 hts (zgS tw_427 tw_428 tw_369 tw_366) rfl rfl rfl (by decide +kernel) ⟨Nat.le_of_ble_eq_true rfl, Nat.le_of_ble_eq_true rfl⟩) zP_pre rfl rfl hl.1 rfl (lv_room (Nat.le_of_ble_eq_true rfl)) dX5_slide_1 ⟨Nat.zero_le _, Nat.zero_le _⟩) hS (fun r_1 H locs hw_1 hT hS => ?_)
  replace hP := hT _ _ hP
  obtain rfl : r_1 = (if ¬ v < 0 ∧ ¬ 15 < v then (1 : Int32) else 0) := hw_1
  refine lv_if_eq (tgt := 18) hx hb dX5_slide_4 (by decide) (fun c_4 => ?_) (fun c_4 => ?_)
  · replace c_4 := zb0.mp c_4
    refine lv_iconst (v := 0) hx hb dX5_slide_18 (by decide) ?_
    refine lv_istore (lv' := [(4, .int 0), (0, .ref (g 0)), (1, .int v), (2, .int q), (3, .int x)]) hx hb dX5_slide_19 hl (by decide) rfl (fun ls hl => ?_)
    refine lv_aload_n hx hb dX5_slide_21 rfl (lv_at hl 1 rfl) ?_
    refine lv_iload hx hb dX5_slide_22 (lv_at hl 0 rfl) ?_
    refine lv_if_ne (tgt := 31) hx hb dX5_slide_24 (by decide) (fun c_24 => absurd (by decide) c_24) (fun _ => ?_)
    refine lv_iconst (v := 1) hx hb dX5_slide_27 (by decide) ?_
    refine lv_goto (tgt := 47) hx hb dX5_slide_28 (by decide) ?_
    refine zw_calli (wr := []) (w1 := (fun _ : Unit => [((g 0), .inr (5, [.int 1, .ref (g 1), .int (nI sv), .ref (g 2), .ref (g 3), .int (nI ln), .int (nI at9), .int (nI pl), .int va, .long hs]))])) hP hD hS hA [0] [] rfl rfl (by decide +kernel) (by decide +kernel) (va_runV (As := [.int 1]) (rest := []) ⟨hx, hb, hml, hown, hts⟩ (mX5_holds l D y _ g th sv ln at9 pl va hs 1) (cwV 1 hts (zgV tw_431 tw_432 tw_433 tw_369 tw_365) rfl rfl rfl (by decide +kernel) ⟨Nat.le_of_ble_eq_true rfl, Nat.le_of_ble_eq_true rfl⟩) (zRW_preV hKN hP hD (ci := 5) (q0 := 0) rfl rfl [0] rfl (by decide)) rfl rfl hl.1 rfl (lv_room (Nat.le_of_ble_eq_true rfl)) dX5_slide_47 ⟨Nat.zero_le _, Nat.zero_le _⟩) (fun r_2 u_3 H locs hw_47 hP hD hS => ?_)
    have hP : va_P D vwCl [((g 0), .inr (5, [.int 1, .ref (g 1), .int (nI sv), .ref (g 2), .ref (g 3), .int (nI ln), .int (nI at9), .int (nI pl), .int va, .long hs]))] H := hP
    have hD : va_D A [((g 0), .inr (5, [.int 1, .ref (g 1), .int (nI sv), .ref (g 2), .ref (g 3), .int (nI ln), .int (nI at9), .int (nI pl), .int va, .long hs]))] := hD
    obtain rfl : r_2 = 0 := hw_47
    refine lv_if_ne (tgt := 55) hx hb dX5_slide_50 (by decide) (fun c_50 => absurd (by decide) c_50) (fun _ => ?_)
    refine lv_iconst (v := 0) hx hb dX5_slide_53 (by decide) ?_
    refine W.widen (k := 0) (n := 0) (by first | exact Nat.le_of_ble_eq_true rfl | omega) (by first | exact Nat.le_of_ble_eq_true rfl | omega) ?_
    exact W.iret (v := 0) hx hb hr (fun t ht hW => ⟨⟨0, (), rfl, by first | rfl | trivial | simp_all, ⟨by rw [ht]; exact hP, hD⟩⟩, hS.F ht⟩) hS.2.2 dX5_slide_54
  · replace c_4 := zb1.mp c_4
    refine lv_iload_n hx hb dX5_slide_7 rfl (lv_at hl 2 rfl) ?_
    refine zr_calli (va_runS (As := [.int q]) (rest := []) ⟨hx, hb, hml, hown, hts⟩ (mX5_isSide l q) (va_cwS 1 hts (zgS tw_429 tw_430 tw_369 tw_370) rfl rfl rfl (by decide +kernel) ⟨Nat.le_of_ble_eq_true rfl, Nat.le_of_ble_eq_true rfl⟩) zP_pre rfl rfl hl.1 rfl (lv_room (Nat.le_of_ble_eq_true rfl)) dX5_slide_8 ⟨Nat.zero_le _, Nat.zero_le _⟩) hS (fun r_4 H locs hw_8 hT hS => ?_)
    replace hP := hT _ _ hP
    obtain rfl : r_4 = (if ¬ q < 0 ∧ ¬ 1 < q then (1 : Int32) else 0) := hw_8
    refine lv_if_eq (tgt := 18) hx hb dX5_slide_11 (by decide) (fun c_11 => ?_) (fun c_11 => ?_)
    · replace c_11 := zb0.mp c_11
      refine lv_iconst (v := 0) hx hb dX5_slide_18 (by decide) ?_
      refine lv_istore (lv' := [(4, .int 0), (0, .ref (g 0)), (1, .int v), (2, .int q), (3, .int x)]) hx hb dX5_slide_19 hl (by decide) rfl (fun ls hl => ?_)
      refine lv_aload_n hx hb dX5_slide_21 rfl (lv_at hl 1 rfl) ?_
      refine lv_iload hx hb dX5_slide_22 (lv_at hl 0 rfl) ?_
      refine lv_if_ne (tgt := 31) hx hb dX5_slide_24 (by decide) (fun c_24 => absurd (by decide) c_24) (fun _ => ?_)
      refine lv_iconst (v := 1) hx hb dX5_slide_27 (by decide) ?_
      refine lv_goto (tgt := 47) hx hb dX5_slide_28 (by decide) ?_
      refine zw_calli (wr := []) (w1 := (fun _ : Unit => [((g 0), .inr (5, [.int 1, .ref (g 1), .int (nI sv), .ref (g 2), .ref (g 3), .int (nI ln), .int (nI at9), .int (nI pl), .int va, .long hs]))])) hP hD hS hA [0] [] rfl rfl (by decide +kernel) (by decide +kernel) (va_runV (As := [.int 1]) (rest := []) ⟨hx, hb, hml, hown, hts⟩ (mX5_holds l D y _ g th sv ln at9 pl va hs 1) (cwV 1 hts (zgV tw_431 tw_432 tw_433 tw_369 tw_365) rfl rfl rfl (by decide +kernel) ⟨Nat.le_of_ble_eq_true rfl, Nat.le_of_ble_eq_true rfl⟩) (zRW_preV hKN hP hD (ci := 5) (q0 := 0) rfl rfl [0] rfl (by decide)) rfl rfl hl.1 rfl (lv_room (Nat.le_of_ble_eq_true rfl)) dX5_slide_47 ⟨Nat.zero_le _, Nat.zero_le _⟩) (fun r_5 u_6 H locs hw_47 hP hD hS => ?_)
      have hP : va_P D vwCl [((g 0), .inr (5, [.int 1, .ref (g 1), .int (nI sv), .ref (g 2), .ref (g 3), .int (nI ln), .int (nI at9), .int (nI pl), .int va, .long hs]))] H := hP
      have hD : va_D A [((g 0), .inr (5, [.int 1, .ref (g 1), .int (nI sv), .ref (g 2), .ref (g 3), .int (nI ln), .int (nI at9), .int (nI pl), .int va, .long hs]))] := hD
      obtain rfl : r_5 = 0 := hw_47
      refine lv_if_ne (tgt := 55) hx hb dX5_slide_50 (by decide) (fun c_50 => absurd (by decide) c_50) (fun _ => ?_)
      refine lv_iconst (v := 0) hx hb dX5_slide_53 (by decide) ?_
      refine W.widen (k := 0) (n := 0) (by first | exact Nat.le_of_ble_eq_true rfl | omega) (by first | exact Nat.le_of_ble_eq_true rfl | omega) ?_
      exact W.iret (v := 0) hx hb hr (fun t ht hW => ⟨⟨0, (), rfl, by first | rfl | trivial | simp_all, ⟨by rw [ht]; exact hP, hD⟩⟩, hS.F ht⟩) hS.2.2 dX5_slide_54
    · replace c_11 := zb1.mp c_11
      exact absurd ⟨c_4, c_11⟩ hb1

set_option maxHeartbeats 4000000 in
set_option maxRecDepth 100000 in
theorem mX5_slide_b2 (l : Launch) (D : va_G) (y : Nat → ClassId) (sz : Nat) (g : Nat → Nat) (th : Int32) (sv : Nat) (ln : Nat) (at9 : Nat) (pl : Nat) (va : Int32) (hs : Int64) (v : Int32) (q : Int32) (x : Int32) (h1 : (¬ v < 0 ∧ ¬ 15 < v) ∧ (¬ q < 0 ∧ ¬ 1 < q)) (hb1 : ¬ (¬ x < (-99) ∧ ¬ 99 < x)) : Met l yX5_slide (ws_ yX5_slide cX5_slide 6 (some .int)) ({ frames := 2, cells := 0, slots := 0, locals := 42 }) (va_Pc [.ref (g 0), .int v, .int q, .int x] (zRW D y [((g 0), .inr (5, [.int th, .ref (g 1), .int (nI sv), .ref (g 2), .ref (g 3), .int (nI ln), .int (nI at9), .int (nI pl), .int va, .long hs]))] sz)) (va_Qi (fun (r : Int32) (_ : Unit) => r = 0) (fun (_ : Unit) t => zOut D (va_A [((g 0), .inr (5, [.int th, .ref (g 1), .int (nI sv), .ref (g 2), .ref (g 3), .int (nI ln), .int (nI at9), .int (nI pl), .int va, .long hs]))] sz) [((g 0), .inr (5, [.int 2, .ref (g 1), .int (nI sv), .ref (g 2), .ref (g 3), .int (nI ln), .int (nI at9), .int (nI pl), .int va, .long hs]))] t) (va_A [((g 0), .inr (5, [.int th, .ref (g 1), .int (nI sv), .ref (g 2), .ref (g 3), .int (nI ln), .int (nI at9), .int (nI pl), .int va, .long hs]))] sz)) 0 0 (va_A [((g 0), .inr (5, [.int th, .ref (g 1), .int (nI sv), .ref (g 2), .ref (g 3), .int (nI ln), .int (nI at9), .int (nI pl), .int va, .long hs]))] sz) := by
  refine Met.ofW (cc := cX5_slide) (maxL := 6) (ret := (some .int)) (by decide) rfl ?_
  intro p e s m args below meth c s₁ B hml hpre9
  obtain ⟨rfl, hsz, hP, hKN, hD0⟩ := hpre9
  have hK := hKN.1
  have hx := B.exec
  have hb := B.bytes
  have hr := B.returns
  have hts := atoms_spec (ws := (ws_ yX5_slide cX5_slide 6 (some .int))) B.pre
  have htg : ∀ w ∈ gT, w.before _ s = true := fun w h => hts w (List.mem_cons_of_mem _ h)
  have hown : s.vm.findClass RX5 = some m.cls := findClass_of_methodNamed B.named
  have hlocks := B.notSynchronized
  subst hsz
  have hD := hD0.self (sz := s.heap.size)
  clear hD0
  generalize hAe : va_A [((g 0), .inr (5, [.int th, .ref (g 1), .int (nI sv), .ref (g 2), .ref (g 3), .int (nI ln), .int (nI at9), .int (nI pl), .int va, .long hs]))] s.heap.size = A at hD ⊢
  have hA : ∀ q : Nat, s.heap.size ≤ q → A q := fun q h => by rw [← hAe]; exact Or.inr h
  have hS : va_S A s.heap s.heap [] := va_S.rf
  have hP : va_P D vwCl [((g 0), .inr (5, [.int th, .ref (g 1), .int (nI sv), .ref (g 2), .ref (g 3), .int (nI ln), .int (nI at9), .int (nI pl), .int va, .long hs]))] s.heap := hP
  have hl := lv_entry ([.ref (g 0), .int v, .int q, .int x]) (n := 6) (Nat.le_of_ble_eq_true rfl)
  rw [lg_entry_eq]
  generalize (lg_sl ([.ref (g 0), .int v, .int q, .int x]) ++ List.replicate (6 - (lg_sl ([.ref (g 0), .int v, .int q, .int x])).length) Slot.unset).toArray = ls at hl ⊢
  have hl : lv_has ls 6 [(0, .ref (g 0)), (1, .int v), (2, .int q), (3, .int x)] := hl
  refine lv_iload_n hx hb dX5_slide_0 rfl (lv_at hl 1 rfl) ?_
  refine zr_calli (va_runS (As := [.int v]) (rest := []) ⟨hx, hb, hml, hown, hts⟩ (mX5_isLevel l v) (va_cwS 1 hts (zgS tw_427 tw_428 tw_369 tw_366) rfl rfl rfl (by decide +kernel) ⟨Nat.le_of_ble_eq_true rfl, Nat.le_of_ble_eq_true rfl⟩) zP_pre rfl rfl hl.1 rfl (lv_room (Nat.le_of_ble_eq_true rfl)) dX5_slide_1 ⟨Nat.zero_le _, Nat.zero_le _⟩) hS (fun r_1 H locs hw_1 hT hS => ?_)
  replace hP := hT _ _ hP
  obtain rfl : r_1 = (if ¬ v < 0 ∧ ¬ 15 < v then (1 : Int32) else 0) := hw_1
  refine lv_if_eq (tgt := 18) hx hb dX5_slide_4 (by decide) (fun c_4 => absurd c_4 (zb1.mpr h1.1)) (fun _ => ?_)
  refine lv_iload_n hx hb dX5_slide_7 rfl (lv_at hl 2 rfl) ?_
  refine zr_calli (va_runS (As := [.int q]) (rest := []) ⟨hx, hb, hml, hown, hts⟩ (mX5_isSide l q) (va_cwS 1 hts (zgS tw_429 tw_430 tw_369 tw_370) rfl rfl rfl (by decide +kernel) ⟨Nat.le_of_ble_eq_true rfl, Nat.le_of_ble_eq_true rfl⟩) zP_pre rfl rfl hl.1 rfl (lv_room (Nat.le_of_ble_eq_true rfl)) dX5_slide_8 ⟨Nat.zero_le _, Nat.zero_le _⟩) hS (fun r_2 H locs hw_8 hT hS => ?_)
  replace hP := hT _ _ hP
  obtain rfl : r_2 = (if ¬ q < 0 ∧ ¬ 1 < q then (1 : Int32) else 0) := hw_8
  refine lv_if_eq (tgt := 18) hx hb dX5_slide_11 (by decide) (fun c_11 => absurd c_11 (zb1.mpr h1.2)) (fun _ => ?_)
  refine lv_iconst (v := 1) hx hb dX5_slide_14 (by decide) ?_
  refine lv_goto (tgt := 19) hx hb dX5_slide_15 (by decide) ?_
  refine lv_istore (lv' := [(4, .int 1), (0, .ref (g 0)), (1, .int v), (2, .int q), (3, .int x)]) hx hb dX5_slide_19 hl (by decide) rfl (fun ls hl => ?_)
  refine lv_aload_n hx hb dX5_slide_21 rfl (lv_at hl 1 rfl) ?_
  refine lv_iload hx hb dX5_slide_22 (lv_at hl 0 rfl) ?_
  refine lv_if_ne (tgt := 31) hx hb dX5_slide_24 (by decide) (fun _ => ?_) (fun c_24 => absurd c_24 (by decide))
  refine lv_iload_n hx hb dX5_slide_31 rfl (lv_at hl 4 rfl) ?_
  refine lv_bipush (v := (-99)) hx hb dX5_slide_32 (by decide) ?_
  refine lv_bipush (v := 99) hx hb dX5_slide_34 (by decide) ?_
  refine zr_calli (va_runS (As := [.int x, .int (-99), .int 99]) (rest := [.ref (g 0)]) ⟨hx, hb, hml, hown, hts⟩ (mX5_in l x (-99) 99) (va_cwS 3 hts (zgS tw_367 tw_368 tw_369 tw_364) rfl rfl rfl (by decide +kernel) ⟨Nat.le_of_ble_eq_true rfl, Nat.le_of_ble_eq_true rfl⟩) zP_pre rfl rfl hl.1 rfl (lv_room (Nat.le_of_ble_eq_true rfl)) dX5_slide_36 ⟨Nat.zero_le _, Nat.zero_le _⟩) hS (fun r_3 H locs hw_36 hT hS => ?_)
  replace hP := hT _ _ hP
  obtain rfl : r_3 = (if ¬ x < (-99) ∧ ¬ 99 < x then (1 : Int32) else 0) := hw_36
  refine lv_if_ne (tgt := 46) hx hb dX5_slide_39 (by decide) (fun c_39 => absurd (zb0.mpr hb1) c_39) (fun _ => ?_)
  refine lv_iconst (v := 2) hx hb dX5_slide_42 (by decide) ?_
  refine lv_goto (tgt := 47) hx hb dX5_slide_43 (by decide) ?_
  refine zw_calli (wr := []) (w1 := (fun _ : Unit => [((g 0), .inr (5, [.int 2, .ref (g 1), .int (nI sv), .ref (g 2), .ref (g 3), .int (nI ln), .int (nI at9), .int (nI pl), .int va, .long hs]))])) hP hD hS hA [0] [] rfl rfl (by decide +kernel) (by decide +kernel) (va_runV (As := [.int 2]) (rest := []) ⟨hx, hb, hml, hown, hts⟩ (mX5_holds l D y _ g th sv ln at9 pl va hs 2) (cwV 1 hts (zgV tw_431 tw_432 tw_433 tw_369 tw_365) rfl rfl rfl (by decide +kernel) ⟨Nat.le_of_ble_eq_true rfl, Nat.le_of_ble_eq_true rfl⟩) (zRW_preV hKN hP hD (ci := 5) (q0 := 0) rfl rfl [0] rfl (by decide)) rfl rfl hl.1 rfl (lv_room (Nat.le_of_ble_eq_true rfl)) dX5_slide_47 ⟨Nat.zero_le _, Nat.zero_le _⟩) (fun r_4 u_5 H locs hw_47 hP hD hS => ?_)
  have hP : va_P D vwCl [((g 0), .inr (5, [.int 2, .ref (g 1), .int (nI sv), .ref (g 2), .ref (g 3), .int (nI ln), .int (nI at9), .int (nI pl), .int va, .long hs]))] H := hP
  have hD : va_D A [((g 0), .inr (5, [.int 2, .ref (g 1), .int (nI sv), .ref (g 2), .ref (g 3), .int (nI ln), .int (nI at9), .int (nI pl), .int va, .long hs]))] := hD
  obtain rfl : r_4 = 0 := hw_47
  refine lv_if_ne (tgt := 55) hx hb dX5_slide_50 (by decide) (fun c_50 => absurd (by decide) c_50) (fun _ => ?_)
  refine lv_iconst (v := 0) hx hb dX5_slide_53 (by decide) ?_
  refine W.widen (k := 0) (n := 0) (by first | exact Nat.le_of_ble_eq_true rfl | omega) (by first | exact Nat.le_of_ble_eq_true rfl | omega) ?_
  exact W.iret (v := 0) hx hb hr (fun t ht hW => ⟨⟨0, (), rfl, by first | rfl | trivial | simp_all, ⟨by rw [ht]; exact hP, hD⟩⟩, hS.F ht⟩) hS.2.2 dX5_slide_54

set_option maxHeartbeats 4000000 in
set_option maxRecDepth 100000 in
theorem mX5_slide (l : Launch) (D : va_G) (y : Nat → ClassId) (sz : Nat) (g : Nat → Nat) (S : (Nat → Int32)) (th : Int32) (sv : Nat) (ln : Nat) (at9 : Nat) (pl : Nat) (va : Int32) (hs : Int64) (v : Nat) (q : Nat) (x : Int32) (hv : sv ≤ 6) (hl9 : v < 16) (hq : q < 2) (hx1 : ¬ x < (-99) ∧ ¬ 99 < x) : Met l yX5_slide (ws_ yX5_slide cX5_slide 6 (some .int)) ({ frames := 3, cells := 0, slots := 0, locals := 67 }) (va_Pc [.ref (g 0), .int (nI v), .int (nI q), .int x] (zRW D y [((g 0), .inr (5, [.int th, .ref (g 1), .int (nI sv), .ref (g 2), .ref (g 3), .int (nI ln), .int (nI at9), .int (nI pl), .int va, .long hs])), ((g 1), .inl (y 0, 4023, .inl S))] sz)) (va_Qi (fun (r : Int32) (_ : Unit) => r = qSld (S (9 + 3 * v + q) + x)) (fun (_ : Unit) t => zOut D (va_A [((g 0), .inr (5, [.int th, .ref (g 1), .int (nI sv), .ref (g 2), .ref (g 3), .int (nI ln), .int (nI at9), .int (nI pl), .int va, .long hs])), ((g 1), .inl (y 0, 4023, .inl S))] sz) [((g 0), .inr (5, [.int 0, .ref (g 1), .int (nI (sv2 sv)), .ref (g 2), .ref (g 3), .int (nI ln), .int (nI at9), .int (nI pl), .int va, .long hs])), ((g 1), .inl (y 0, 4023, .inl (upd (svS S sv) (9 + 3 * v + q) (qSld (S (9 + 3 * v + q) + x)))))] t) (va_A [((g 0), .inr (5, [.int th, .ref (g 1), .int (nI sv), .ref (g 2), .ref (g 3), .int (nI ln), .int (nI at9), .int (nI pl), .int va, .long hs])), ((g 1), .inl (y 0, 4023, .inl S))] sz)) 0 0 (va_A [((g 0), .inr (5, [.int th, .ref (g 1), .int (nI sv), .ref (g 2), .ref (g 3), .int (nI ln), .int (nI at9), .int (nI pl), .int va, .long hs])), ((g 1), .inl (y 0, 4023, .inl S))] sz) := by
  refine Met.ofW (cc := cX5_slide) (maxL := 6) (ret := (some .int)) (by decide) rfl ?_
  intro p e s m args below meth c s₁ B hml hpre9
  obtain ⟨rfl, hsz, hP, hKN, hD0⟩ := hpre9
  have hK := hKN.1
  have hx := B.exec
  have hb := B.bytes
  have hr := B.returns
  have hts := atoms_spec (ws := (ws_ yX5_slide cX5_slide 6 (some .int))) B.pre
  have htg : ∀ w ∈ gT, w.before _ s = true := fun w h => hts w (List.mem_cons_of_mem _ h)
  have hown : s.vm.findClass RX5 = some m.cls := findClass_of_methodNamed B.named
  have hlocks := B.notSynchronized
  subst hsz
  have hD := hD0.self (sz := s.heap.size)
  clear hD0
  generalize hAe : va_A [((g 0), .inr (5, [.int th, .ref (g 1), .int (nI sv), .ref (g 2), .ref (g 3), .int (nI ln), .int (nI at9), .int (nI pl), .int va, .long hs])), ((g 1), .inl (y 0, 4023, .inl S))] s.heap.size = A at hD ⊢
  have hA : ∀ q : Nat, s.heap.size ≤ q → A q := fun q h => by rw [← hAe]; exact Or.inr h
  have hS : va_S A s.heap s.heap [] := va_S.rf
  have hP : va_P D vwCl [((g 0), .inr (5, [.int th, .ref (g 1), .int (nI sv), .ref (g 2), .ref (g 3), .int (nI ln), .int (nI at9), .int (nI pl), .int va, .long hs])), ((g 1), .inl (y 0, 4023, .inl S))] s.heap := hP
  have hl := lv_entry ([.ref (g 0), .int (nI v), .int (nI q), .int x]) (n := 6) (Nat.le_of_ble_eq_true rfl)
  rw [lg_entry_eq]
  generalize (lg_sl ([.ref (g 0), .int (nI v), .int (nI q), .int x]) ++ List.replicate (6 - (lg_sl ([.ref (g 0), .int (nI v), .int (nI q), .int x])).length) Slot.unset).toArray = ls at hl ⊢
  have hl : lv_has ls 6 [(0, .ref (g 0)), (1, .int (nI v)), (2, .int (nI q)), (3, .int x)] := hl
  refine lv_iload_n hx hb dX5_slide_0 rfl (lv_at hl 1 rfl) ?_
  refine zr_calli (va_runS (As := [.int (nI v)]) (rest := []) ⟨hx, hb, hml, hown, hts⟩ (mX5_isLevel l (nI v)) (va_cwS 1 hts (zgS tw_427 tw_428 tw_369 tw_366) rfl rfl rfl (by decide +kernel) ⟨Nat.le_of_ble_eq_true rfl, Nat.le_of_ble_eq_true rfl⟩) zP_pre rfl rfl hl.1 rfl (lv_room (Nat.le_of_ble_eq_true rfl)) dX5_slide_1 ⟨Nat.zero_le _, Nat.zero_le _⟩) hS (fun r_1 H locs hw_1 hT hS => ?_)
  replace hP := hT _ _ hP
  obtain rfl : r_1 = (if ¬ (nI v) < 0 ∧ ¬ 15 < (nI v) then (1 : Int32) else 0) := hw_1
  refine lv_if_eq (tgt := 18) hx hb dX5_slide_4 (by decide) (fun c_4 => absurd c_4 (zb1.mpr ⟨nI_pos (n := v) (by omega), nI_nlt (a := 15) (b := v) (by omega) (by omega)⟩)) (fun _ => ?_)
  refine lv_iload_n hx hb dX5_slide_7 rfl (lv_at hl 2 rfl) ?_
  refine zr_calli (va_runS (As := [.int (nI q)]) (rest := []) ⟨hx, hb, hml, hown, hts⟩ (mX5_isSide l (nI q)) (va_cwS 1 hts (zgS tw_429 tw_430 tw_369 tw_370) rfl rfl rfl (by decide +kernel) ⟨Nat.le_of_ble_eq_true rfl, Nat.le_of_ble_eq_true rfl⟩) zP_pre rfl rfl hl.1 rfl (lv_room (Nat.le_of_ble_eq_true rfl)) dX5_slide_8 ⟨Nat.zero_le _, Nat.zero_le _⟩) hS (fun r_2 H locs hw_8 hT hS => ?_)
  replace hP := hT _ _ hP
  obtain rfl : r_2 = (if ¬ (nI q) < 0 ∧ ¬ 1 < (nI q) then (1 : Int32) else 0) := hw_8
  refine lv_if_eq (tgt := 18) hx hb dX5_slide_11 (by decide) (fun c_11 => absurd c_11 (zb1.mpr ⟨nI_pos (n := q) (by omega), nI_nlt (a := 1) (b := q) (by omega) (by omega)⟩)) (fun _ => ?_)
  refine lv_iconst (v := 1) hx hb dX5_slide_14 (by decide) ?_
  refine lv_goto (tgt := 19) hx hb dX5_slide_15 (by decide) ?_
  refine lv_istore (lv' := [(4, .int 1), (0, .ref (g 0)), (1, .int (nI v)), (2, .int (nI q)), (3, .int x)]) hx hb dX5_slide_19 hl (by decide) rfl (fun ls hl => ?_)
  refine lv_aload_n hx hb dX5_slide_21 rfl (lv_at hl 1 rfl) ?_
  refine lv_iload hx hb dX5_slide_22 (lv_at hl 0 rfl) ?_
  refine lv_if_ne (tgt := 31) hx hb dX5_slide_24 (by decide) (fun _ => ?_) (fun c_24 => absurd c_24 (by decide))
  refine lv_iload_n hx hb dX5_slide_31 rfl (lv_at hl 4 rfl) ?_
  refine lv_bipush (v := (-99)) hx hb dX5_slide_32 (by decide) ?_
  refine lv_bipush (v := 99) hx hb dX5_slide_34 (by decide) ?_
  refine zr_calli (va_runS (As := [.int x, .int (-99), .int 99]) (rest := [.ref (g 0)]) ⟨hx, hb, hml, hown, hts⟩ (mX5_in l x (-99) 99) (va_cwS 3 hts (zgS tw_367 tw_368 tw_369 tw_364) rfl rfl rfl (by decide +kernel) ⟨Nat.le_of_ble_eq_true rfl, Nat.le_of_ble_eq_true rfl⟩) zP_pre rfl rfl hl.1 rfl (lv_room (Nat.le_of_ble_eq_true rfl)) dX5_slide_36 ⟨Nat.zero_le _, Nat.zero_le _⟩) hS (fun r_3 H locs hw_36 hT hS => ?_)
  replace hP := hT _ _ hP
  obtain rfl : r_3 = (if ¬ x < (-99) ∧ ¬ 99 < x then (1 : Int32) else 0) := hw_36
  refine lv_if_ne (tgt := 46) hx hb dX5_slide_39 (by decide) (fun _ => ?_) (fun c_39 => absurd c_39 (zb1.mpr hx1))
  refine lv_iconst (v := 0) hx hb dX5_slide_46 (by decide) ?_
  refine zw_calli (wr := [((g 1), .inl (y 0, 4023, .inl S))]) (w1 := (fun _ : Unit => [((g 0), .inr (5, [.int 0, .ref (g 1), .int (nI sv), .ref (g 2), .ref (g 3), .int (nI ln), .int (nI at9), .int (nI pl), .int va, .long hs]))])) hP hD hS hA [0] [1] rfl rfl (by decide +kernel) (by decide +kernel) (va_runV (As := [.int 0]) (rest := []) ⟨hx, hb, hml, hown, hts⟩ (mX5_holds l D y _ g th sv ln at9 pl va hs 0) (cwV 1 hts (zgV tw_431 tw_432 tw_433 tw_369 tw_365) rfl rfl rfl (by decide +kernel) ⟨Nat.le_of_ble_eq_true rfl, Nat.le_of_ble_eq_true rfl⟩) (zRW_preV hKN hP hD (ci := 5) (q0 := 0) rfl rfl [0] rfl (by decide)) rfl rfl hl.1 rfl (lv_room (Nat.le_of_ble_eq_true rfl)) dX5_slide_47 ⟨Nat.zero_le _, Nat.zero_le _⟩) (fun r_4 u_5 H locs hw_47 hP hD hS => ?_)
  have hP : va_P D vwCl [((g 1), .inl (y 0, 4023, .inl S)), ((g 0), .inr (5, [.int 0, .ref (g 1), .int (nI sv), .ref (g 2), .ref (g 3), .int (nI ln), .int (nI at9), .int (nI pl), .int va, .long hs]))] H := hP
  have hD : va_D A [((g 1), .inl (y 0, 4023, .inl S)), ((g 0), .inr (5, [.int 0, .ref (g 1), .int (nI sv), .ref (g 2), .ref (g 3), .int (nI ln), .int (nI at9), .int (nI pl), .int va, .long hs]))] := hD
  obtain rfl : r_4 = 1 := hw_47
  refine lv_if_ne (tgt := 55) hx hb dX5_slide_50 (by decide) (fun _ => ?_) (fun c_50 => absurd c_50 (by decide))
  refine lv_aload_n hx hb dX5_slide_55 rfl (lv_at hl 1 rfl) ?_
  refine lv_iload_n hx hb dX5_slide_56 rfl (lv_at hl 2 rfl) ?_
  refine lv_iload_n hx hb dX5_slide_57 rfl (lv_at hl 3 rfl) ?_
  refine zr_calli (va_runV (As := [.int (nI v), .int (nI q)]) (rest := []) ⟨hx, hb, hml, hown, hts⟩ (mX5_tilt l D y g S 0 sv ln at9 pl va hs v q (by first | assumption | rfl | omega | decide) (by first | assumption | rfl | omega | decide)) (cwV 2 hts (zgV tw_379 tw_380 tw_381 tw_369 tw_373) rfl rfl rfl (by decide +kernel) ⟨Nat.le_of_ble_eq_true rfl, Nat.le_of_ble_eq_true rfl⟩) (zRO_preV hKN hP (ci := 5) (q0 := 1) rfl rfl [1, 0] rfl) rfl rfl hl.1 rfl (lv_room (Nat.le_of_ble_eq_true rfl)) dX5_slide_58 ⟨Nat.zero_le _, Nat.zero_le _⟩) hS (fun r_6 H locs hw_58 hT hS => ?_)
  replace hP := hT _ _ hP
  obtain rfl : r_6 = S (9 + 3 * v + q) := hw_58
  refine lv_iload_n hx hb dX5_slide_61 rfl (lv_at hl 4 rfl) ?_
  refine lv_iadd hx hb dX5_slide_62 ?_
  refine lv_istore (lv' := [(5, .int ((S (9 + 3 * v + q)) + x)), (4, .int 1), (0, .ref (g 0)), (1, .int (nI v)), (2, .int (nI q)), (3, .int x)]) hx hb dX5_slide_63 hl (by decide) rfl (fun ls hl => ?_)
  refine lv_iload hx hb dX5_slide_65 (lv_at hl 0 rfl) ?_
  refine lv_bipush (v := 99) hx hb dX5_slide_67 (by decide) ?_
  refine lv_icmp_le (tgt := 77) hx hb dX5_slide_69 (by decide) (fun c_69 => ?_) (fun c_69 => ?_)
  · refine lv_iload hx hb dX5_slide_77 (lv_at hl 0 rfl) ?_
    refine lv_bipush (v := (-99)) hx hb dX5_slide_79 (by decide) ?_
    refine lv_icmp_ge (tgt := 89) hx hb dX5_slide_81 (by decide) (fun c_81 => ?_) (fun c_81 => ?_)
    · refine lv_iload hx hb dX5_slide_89 (lv_at hl 0 rfl) ?_
      refine zz_top (y := qSld (S (9 + 3 * v + q) + x)) (qSld_mid c_69 c_81) ?_
      refine lv_istore (lv' := [(5, .int (qSld (S (9 + 3 * v + q) + x))), (4, .int 1), (0, .ref (g 0)), (1, .int (nI v)), (2, .int (nI q)), (3, .int x)]) hx hb dX5_slide_91 hl (by decide) rfl (fun ls hl => ?_)
      refine lv_aload_n hx hb dX5_slide_93 rfl (lv_at hl 2 rfl) ?_
      refine lv_bipush (v := 9) hx hb dX5_slide_94 (by decide) ?_
      refine lv_iconst (v := 3) hx hb dX5_slide_96 (by decide) ?_
      refine lv_iload_n hx hb dX5_slide_97 rfl (lv_at hl 3 rfl) ?_
      refine lv_imul hx hb dX5_slide_98 ?_
      refine zz_top (y := nI (3 * v)) (pk_mul 3 v) ?_
      refine lv_iadd hx hb dX5_slide_99 ?_
      refine zz_top (y := nI (9 + (3 * v))) (nI_add 9 (3 * v)) ?_
      refine lv_iload_n hx hb dX5_slide_100 rfl (lv_at hl 4 rfl) ?_
      refine lv_iadd hx hb dX5_slide_101 ?_
      refine zz_top (y := nI ((9 + (3 * v)) + q)) (nI_add (9 + (3 * v)) q) ?_
      refine lv_iload hx hb dX5_slide_102 (lv_at hl 0 rfl) ?_
      refine zw_calli (wr := []) (w1 := (fun _ : Unit => [((g 0), .inr (5, [.int 0, .ref (g 1), .int (nI (sv2 sv)), .ref (g 2), .ref (g 3), .int (nI ln), .int (nI at9), .int (nI pl), .int va, .long hs])), ((g 1), .inl (y 0, 4023, .inl (upd (svS S sv) ((9 + (3 * v)) + q) (qSld (S (9 + 3 * v + q) + x)))))])) hP hD hS hA [1, 0] [] rfl rfl (by decide +kernel) (by decide +kernel) (va_runV (As := [.int (nI ((9 + (3 * v)) + q)), .int (qSld (S (9 + 3 * v + q) + x))]) (rest := []) ⟨hx, hb, hml, hown, hts⟩ (mX5_changed l D y _ g S 0 sv ln at9 pl va hs ((9 + (3 * v)) + q) (qSld (S (9 + 3 * v + q) + x)) (by first | assumption | rfl | omega | decide) (by first | assumption | rfl | omega | decide)) (cwV 2 hts (zgV tw_434 tw_435 tw_436 tw_369 tw_422) rfl rfl rfl (by decide +kernel) ⟨Nat.le_of_ble_eq_true rfl, Nat.le_of_ble_eq_true rfl⟩) (zRW_preV hKN hP hD (ci := 5) (q0 := 1) rfl rfl [1, 0] rfl (by decide)) rfl rfl hl.1 rfl (lv_room (Nat.le_of_ble_eq_true rfl)) dX5_slide_104 ⟨Nat.zero_le _, Nat.zero_le _⟩) (fun r_7 u_8 H locs hw_104 hP hD hS => ?_)
      have hP : va_P D vwCl [((g 0), .inr (5, [.int 0, .ref (g 1), .int (nI (sv2 sv)), .ref (g 2), .ref (g 3), .int (nI ln), .int (nI at9), .int (nI pl), .int va, .long hs])), ((g 1), .inl (y 0, 4023, .inl (upd (svS S sv) ((9 + (3 * v)) + q) (qSld (S (9 + 3 * v + q) + x)))))] H := hP
      have hD : va_D A [((g 0), .inr (5, [.int 0, .ref (g 1), .int (nI (sv2 sv)), .ref (g 2), .ref (g 3), .int (nI ln), .int (nI at9), .int (nI pl), .int va, .long hs])), ((g 1), .inl (y 0, 4023, .inl (upd (svS S sv) ((9 + (3 * v)) + q) (qSld (S (9 + 3 * v + q) + x)))))] := hD
      obtain rfl : r_7 = S ((9 + (3 * v)) + q) := hw_104
      refine lv_pop hx hb dX5_slide_107 rfl ?_
      refine lv_iload hx hb dX5_slide_108 (lv_at hl 0 rfl) ?_
      refine W.widen (k := 0) (n := 0) (by first | exact Nat.le_of_ble_eq_true rfl | omega) (by first | exact Nat.le_of_ble_eq_true rfl | omega) ?_
      exact W.iret (v := (qSld (S (9 + 3 * v + q) + x))) hx hb hr (fun t ht hW => ⟨⟨qSld (S (9 + 3 * v + q) + x), (), rfl, by first | rfl | trivial | simp_all, ⟨by rw [ht]; exact hP, hD⟩⟩, hS.F ht⟩) hS.2.2 dX5_slide_110
    · refine lv_bipush (v := (-99)) hx hb dX5_slide_84 (by decide) ?_
      refine lv_goto (tgt := 91) hx hb dX5_slide_86 (by decide) ?_
      refine zz_top (y := qSld (S (9 + 3 * v + q) + x)) (qSld_lo c_81) ?_
      refine lv_istore (lv' := [(5, .int (qSld (S (9 + 3 * v + q) + x))), (4, .int 1), (0, .ref (g 0)), (1, .int (nI v)), (2, .int (nI q)), (3, .int x)]) hx hb dX5_slide_91 hl (by decide) rfl (fun ls hl => ?_)
      refine lv_aload_n hx hb dX5_slide_93 rfl (lv_at hl 2 rfl) ?_
      refine lv_bipush (v := 9) hx hb dX5_slide_94 (by decide) ?_
      refine lv_iconst (v := 3) hx hb dX5_slide_96 (by decide) ?_
      refine lv_iload_n hx hb dX5_slide_97 rfl (lv_at hl 3 rfl) ?_
      refine lv_imul hx hb dX5_slide_98 ?_
      refine zz_top (y := nI (3 * v)) (pk_mul 3 v) ?_
      refine lv_iadd hx hb dX5_slide_99 ?_
      refine zz_top (y := nI (9 + (3 * v))) (nI_add 9 (3 * v)) ?_
      refine lv_iload_n hx hb dX5_slide_100 rfl (lv_at hl 4 rfl) ?_
      refine lv_iadd hx hb dX5_slide_101 ?_
      refine zz_top (y := nI ((9 + (3 * v)) + q)) (nI_add (9 + (3 * v)) q) ?_
      refine lv_iload hx hb dX5_slide_102 (lv_at hl 0 rfl) ?_
      refine zw_calli (wr := []) (w1 := (fun _ : Unit => [((g 0), .inr (5, [.int 0, .ref (g 1), .int (nI (sv2 sv)), .ref (g 2), .ref (g 3), .int (nI ln), .int (nI at9), .int (nI pl), .int va, .long hs])), ((g 1), .inl (y 0, 4023, .inl (upd (svS S sv) ((9 + (3 * v)) + q) (qSld (S (9 + 3 * v + q) + x)))))])) hP hD hS hA [1, 0] [] rfl rfl (by decide +kernel) (by decide +kernel) (va_runV (As := [.int (nI ((9 + (3 * v)) + q)), .int (qSld (S (9 + 3 * v + q) + x))]) (rest := []) ⟨hx, hb, hml, hown, hts⟩ (mX5_changed l D y _ g S 0 sv ln at9 pl va hs ((9 + (3 * v)) + q) (qSld (S (9 + 3 * v + q) + x)) (by first | assumption | rfl | omega | decide) (by first | assumption | rfl | omega | decide)) (cwV 2 hts (zgV tw_434 tw_435 tw_436 tw_369 tw_422) rfl rfl rfl (by decide +kernel) ⟨Nat.le_of_ble_eq_true rfl, Nat.le_of_ble_eq_true rfl⟩) (zRW_preV hKN hP hD (ci := 5) (q0 := 1) rfl rfl [1, 0] rfl (by decide)) rfl rfl hl.1 rfl (lv_room (Nat.le_of_ble_eq_true rfl)) dX5_slide_104 ⟨Nat.zero_le _, Nat.zero_le _⟩) (fun r_9 u_10 H locs hw_104 hP hD hS => ?_)
      have hP : va_P D vwCl [((g 0), .inr (5, [.int 0, .ref (g 1), .int (nI (sv2 sv)), .ref (g 2), .ref (g 3), .int (nI ln), .int (nI at9), .int (nI pl), .int va, .long hs])), ((g 1), .inl (y 0, 4023, .inl (upd (svS S sv) ((9 + (3 * v)) + q) (qSld (S (9 + 3 * v + q) + x)))))] H := hP
      have hD : va_D A [((g 0), .inr (5, [.int 0, .ref (g 1), .int (nI (sv2 sv)), .ref (g 2), .ref (g 3), .int (nI ln), .int (nI at9), .int (nI pl), .int va, .long hs])), ((g 1), .inl (y 0, 4023, .inl (upd (svS S sv) ((9 + (3 * v)) + q) (qSld (S (9 + 3 * v + q) + x)))))] := hD
      obtain rfl : r_9 = S ((9 + (3 * v)) + q) := hw_104
      refine lv_pop hx hb dX5_slide_107 rfl ?_
      refine lv_iload hx hb dX5_slide_108 (lv_at hl 0 rfl) ?_
      refine W.widen (k := 0) (n := 0) (by first | exact Nat.le_of_ble_eq_true rfl | omega) (by first | exact Nat.le_of_ble_eq_true rfl | omega) ?_
      exact W.iret (v := (qSld (S (9 + 3 * v + q) + x))) hx hb hr (fun t ht hW => ⟨⟨qSld (S (9 + 3 * v + q) + x), (), rfl, by first | rfl | trivial | simp_all, ⟨by rw [ht]; exact hP, hD⟩⟩, hS.F ht⟩) hS.2.2 dX5_slide_110
  · refine lv_bipush (v := 99) hx hb dX5_slide_72 (by decide) ?_
    refine lv_goto (tgt := 91) hx hb dX5_slide_74 (by decide) ?_
    refine zz_top (y := qSld (S (9 + 3 * v + q) + x)) (qSld_hi c_69) ?_
    refine lv_istore (lv' := [(5, .int (qSld (S (9 + 3 * v + q) + x))), (4, .int 1), (0, .ref (g 0)), (1, .int (nI v)), (2, .int (nI q)), (3, .int x)]) hx hb dX5_slide_91 hl (by decide) rfl (fun ls hl => ?_)
    refine lv_aload_n hx hb dX5_slide_93 rfl (lv_at hl 2 rfl) ?_
    refine lv_bipush (v := 9) hx hb dX5_slide_94 (by decide) ?_
    refine lv_iconst (v := 3) hx hb dX5_slide_96 (by decide) ?_
    refine lv_iload_n hx hb dX5_slide_97 rfl (lv_at hl 3 rfl) ?_
    refine lv_imul hx hb dX5_slide_98 ?_
    refine zz_top (y := nI (3 * v)) (pk_mul 3 v) ?_
    refine lv_iadd hx hb dX5_slide_99 ?_
    refine zz_top (y := nI (9 + (3 * v))) (nI_add 9 (3 * v)) ?_
    refine lv_iload_n hx hb dX5_slide_100 rfl (lv_at hl 4 rfl) ?_
    refine lv_iadd hx hb dX5_slide_101 ?_
    refine zz_top (y := nI ((9 + (3 * v)) + q)) (nI_add (9 + (3 * v)) q) ?_
    refine lv_iload hx hb dX5_slide_102 (lv_at hl 0 rfl) ?_
    refine zw_calli (wr := []) (w1 := (fun _ : Unit => [((g 0), .inr (5, [.int 0, .ref (g 1), .int (nI (sv2 sv)), .ref (g 2), .ref (g 3), .int (nI ln), .int (nI at9), .int (nI pl), .int va, .long hs])), ((g 1), .inl (y 0, 4023, .inl (upd (svS S sv) ((9 + (3 * v)) + q) (qSld (S (9 + 3 * v + q) + x)))))])) hP hD hS hA [1, 0] [] rfl rfl (by decide +kernel) (by decide +kernel) (va_runV (As := [.int (nI ((9 + (3 * v)) + q)), .int (qSld (S (9 + 3 * v + q) + x))]) (rest := []) ⟨hx, hb, hml, hown, hts⟩ (mX5_changed l D y _ g S 0 sv ln at9 pl va hs ((9 + (3 * v)) + q) (qSld (S (9 + 3 * v + q) + x)) (by first | assumption | rfl | omega | decide) (by first | assumption | rfl | omega | decide)) (cwV 2 hts (zgV tw_434 tw_435 tw_436 tw_369 tw_422) rfl rfl rfl (by decide +kernel) ⟨Nat.le_of_ble_eq_true rfl, Nat.le_of_ble_eq_true rfl⟩) (zRW_preV hKN hP hD (ci := 5) (q0 := 1) rfl rfl [1, 0] rfl (by decide)) rfl rfl hl.1 rfl (lv_room (Nat.le_of_ble_eq_true rfl)) dX5_slide_104 ⟨Nat.zero_le _, Nat.zero_le _⟩) (fun r_11 u_12 H locs hw_104 hP hD hS => ?_)
    have hP : va_P D vwCl [((g 0), .inr (5, [.int 0, .ref (g 1), .int (nI (sv2 sv)), .ref (g 2), .ref (g 3), .int (nI ln), .int (nI at9), .int (nI pl), .int va, .long hs])), ((g 1), .inl (y 0, 4023, .inl (upd (svS S sv) ((9 + (3 * v)) + q) (qSld (S (9 + 3 * v + q) + x)))))] H := hP
    have hD : va_D A [((g 0), .inr (5, [.int 0, .ref (g 1), .int (nI (sv2 sv)), .ref (g 2), .ref (g 3), .int (nI ln), .int (nI at9), .int (nI pl), .int va, .long hs])), ((g 1), .inl (y 0, 4023, .inl (upd (svS S sv) ((9 + (3 * v)) + q) (qSld (S (9 + 3 * v + q) + x)))))] := hD
    obtain rfl : r_11 = S ((9 + (3 * v)) + q) := hw_104
    refine lv_pop hx hb dX5_slide_107 rfl ?_
    refine lv_iload hx hb dX5_slide_108 (lv_at hl 0 rfl) ?_
    refine W.widen (k := 0) (n := 0) (by first | exact Nat.le_of_ble_eq_true rfl | omega) (by first | exact Nat.le_of_ble_eq_true rfl | omega) ?_
    exact W.iret (v := (qSld (S (9 + 3 * v + q) + x))) hx hb hr (fun t ht hW => ⟨⟨qSld (S (9 + 3 * v + q) + x), (), rfl, by first | rfl | trivial | simp_all, ⟨by rw [ht]; exact hP, hD⟩⟩, hS.F ht⟩) hS.2.2 dX5_slide_110

set_option maxHeartbeats 4000000 in
set_option maxRecDepth 100000 in
theorem mX5_turn (l : Launch) (D : va_G) (y : Nat → ClassId) (sz : Nat) (g : Nat → Nat) (S : (Nat → Int32)) (th : Int32) (sv : Nat) (ln : Nat) (at9 : Nat) (pl : Nat) (va : Int32) (hs : Int64) (v : Nat) (x : Int32) (hv : sv ≤ 6) (hl9 : v < 16) (hx1 : ¬ x < 0 ∧ ¬ 3 < x) : Met l yX5_turn (ws_ yX5_turn cX5_turn 3 (some .int)) ({ frames := 3, cells := 0, slots := 0, locals := 67 }) (va_Pc [.ref (g 0), .int (nI v), .int x] (zRW D y [((g 0), .inr (5, [.int th, .ref (g 1), .int (nI sv), .ref (g 2), .ref (g 3), .int (nI ln), .int (nI at9), .int (nI pl), .int va, .long hs])), ((g 1), .inl (y 0, 4023, .inl S))] sz)) (va_Qi (fun (r : Int32) (_ : Unit) => r = S (11 + 3 * v)) (fun (_ : Unit) t => zOut D (va_A [((g 0), .inr (5, [.int th, .ref (g 1), .int (nI sv), .ref (g 2), .ref (g 3), .int (nI ln), .int (nI at9), .int (nI pl), .int va, .long hs])), ((g 1), .inl (y 0, 4023, .inl S))] sz) [((g 0), .inr (5, [.int 0, .ref (g 1), .int (nI (sv2 sv)), .ref (g 2), .ref (g 3), .int (nI ln), .int (nI at9), .int (nI pl), .int va, .long hs])), ((g 1), .inl (y 0, 4023, .inl (upd (svS S sv) (11 + 3 * v) x)))] t) (va_A [((g 0), .inr (5, [.int th, .ref (g 1), .int (nI sv), .ref (g 2), .ref (g 3), .int (nI ln), .int (nI at9), .int (nI pl), .int va, .long hs])), ((g 1), .inl (y 0, 4023, .inl S))] sz)) 0 0 (va_A [((g 0), .inr (5, [.int th, .ref (g 1), .int (nI sv), .ref (g 2), .ref (g 3), .int (nI ln), .int (nI at9), .int (nI pl), .int va, .long hs])), ((g 1), .inl (y 0, 4023, .inl S))] sz) := by
  refine Met.ofW (cc := cX5_turn) (maxL := 3) (ret := (some .int)) (by decide) rfl ?_
  intro p e s m args below meth c s₁ B hml hpre9
  obtain ⟨rfl, hsz, hP, hKN, hD0⟩ := hpre9
  have hK := hKN.1
  have hx := B.exec
  have hb := B.bytes
  have hr := B.returns
  have hts := atoms_spec (ws := (ws_ yX5_turn cX5_turn 3 (some .int))) B.pre
  have htg : ∀ w ∈ gT, w.before _ s = true := fun w h => hts w (List.mem_cons_of_mem _ h)
  have hown : s.vm.findClass RX5 = some m.cls := findClass_of_methodNamed B.named
  have hlocks := B.notSynchronized
  subst hsz
  have hD := hD0.self (sz := s.heap.size)
  clear hD0
  generalize hAe : va_A [((g 0), .inr (5, [.int th, .ref (g 1), .int (nI sv), .ref (g 2), .ref (g 3), .int (nI ln), .int (nI at9), .int (nI pl), .int va, .long hs])), ((g 1), .inl (y 0, 4023, .inl S))] s.heap.size = A at hD ⊢
  have hA : ∀ q : Nat, s.heap.size ≤ q → A q := fun q h => by rw [← hAe]; exact Or.inr h
  have hS : va_S A s.heap s.heap [] := va_S.rf
  have hP : va_P D vwCl [((g 0), .inr (5, [.int th, .ref (g 1), .int (nI sv), .ref (g 2), .ref (g 3), .int (nI ln), .int (nI at9), .int (nI pl), .int va, .long hs])), ((g 1), .inl (y 0, 4023, .inl S))] s.heap := hP
  have hl := lv_entry ([.ref (g 0), .int (nI v), .int x]) (n := 3) (Nat.le_of_ble_eq_true rfl)
  rw [lg_entry_eq]
  generalize (lg_sl ([.ref (g 0), .int (nI v), .int x]) ++ List.replicate (3 - (lg_sl ([.ref (g 0), .int (nI v), .int x])).length) Slot.unset).toArray = ls at hl ⊢
  have hl : lv_has ls 3 [(0, .ref (g 0)), (1, .int (nI v)), (2, .int x)] := hl
  refine lv_aload_n hx hb dX5_turn_0 rfl (lv_at hl 0 rfl) ?_
  refine lv_iload_n hx hb dX5_turn_1 rfl (lv_at hl 1 rfl) ?_
  refine zr_calli (va_runS (As := [.int (nI v)]) (rest := [.ref (g 0)]) ⟨hx, hb, hml, hown, hts⟩ (mX5_isLevel l (nI v)) (va_cwS 1 hts (zgS tw_427 tw_428 tw_369 tw_366) rfl rfl rfl (by decide +kernel) ⟨Nat.le_of_ble_eq_true rfl, Nat.le_of_ble_eq_true rfl⟩) zP_pre rfl rfl hl.1 rfl (lv_room (Nat.le_of_ble_eq_true rfl)) dX5_turn_2 ⟨Nat.zero_le _, Nat.zero_le _⟩) hS (fun r_1 H locs hw_2 hT hS => ?_)
  replace hP := hT _ _ hP
  obtain rfl : r_1 = (if ¬ (nI v) < 0 ∧ ¬ 15 < (nI v) then (1 : Int32) else 0) := hw_2
  refine lv_if_ne (tgt := 12) hx hb dX5_turn_5 (by decide) (fun _ => ?_) (fun c_5 => absurd c_5 (zb1.mpr ⟨nI_pos (n := v) (by omega), nI_nlt (a := 15) (b := v) (by omega) (by omega)⟩))
  refine lv_iload_n hx hb dX5_turn_12 rfl (lv_at hl 2 rfl) ?_
  refine lv_iconst (v := 0) hx hb dX5_turn_13 (by decide) ?_
  refine lv_iconst (v := 3) hx hb dX5_turn_14 (by decide) ?_
  refine zr_calli (va_runS (As := [.int x, .int 0, .int 3]) (rest := [.ref (g 0)]) ⟨hx, hb, hml, hown, hts⟩ (mX5_in l x 0 3) (va_cwS 3 hts (zgS tw_367 tw_368 tw_369 tw_364) rfl rfl rfl (by decide +kernel) ⟨Nat.le_of_ble_eq_true rfl, Nat.le_of_ble_eq_true rfl⟩) zP_pre rfl rfl hl.1 rfl (lv_room (Nat.le_of_ble_eq_true rfl)) dX5_turn_15 ⟨Nat.zero_le _, Nat.zero_le _⟩) hS (fun r_2 H locs hw_15 hT hS => ?_)
  replace hP := hT _ _ hP
  obtain rfl : r_2 = (if ¬ x < 0 ∧ ¬ 3 < x then (1 : Int32) else 0) := hw_15
  refine lv_if_ne (tgt := 25) hx hb dX5_turn_18 (by decide) (fun _ => ?_) (fun c_18 => absurd c_18 (zb1.mpr hx1))
  refine lv_iconst (v := 0) hx hb dX5_turn_25 (by decide) ?_
  refine zw_calli (wr := [((g 1), .inl (y 0, 4023, .inl S))]) (w1 := (fun _ : Unit => [((g 0), .inr (5, [.int 0, .ref (g 1), .int (nI sv), .ref (g 2), .ref (g 3), .int (nI ln), .int (nI at9), .int (nI pl), .int va, .long hs]))])) hP hD hS hA [0] [1] rfl rfl (by decide +kernel) (by decide +kernel) (va_runV (As := [.int 0]) (rest := []) ⟨hx, hb, hml, hown, hts⟩ (mX5_holds l D y _ g th sv ln at9 pl va hs 0) (cwV 1 hts (zgV tw_431 tw_432 tw_433 tw_369 tw_365) rfl rfl rfl (by decide +kernel) ⟨Nat.le_of_ble_eq_true rfl, Nat.le_of_ble_eq_true rfl⟩) (zRW_preV hKN hP hD (ci := 5) (q0 := 0) rfl rfl [0] rfl (by decide)) rfl rfl hl.1 rfl (lv_room (Nat.le_of_ble_eq_true rfl)) dX5_turn_26 ⟨Nat.zero_le _, Nat.zero_le _⟩) (fun r_3 u_4 H locs hw_26 hP hD hS => ?_)
  have hP : va_P D vwCl [((g 1), .inl (y 0, 4023, .inl S)), ((g 0), .inr (5, [.int 0, .ref (g 1), .int (nI sv), .ref (g 2), .ref (g 3), .int (nI ln), .int (nI at9), .int (nI pl), .int va, .long hs]))] H := hP
  have hD : va_D A [((g 1), .inl (y 0, 4023, .inl S)), ((g 0), .inr (5, [.int 0, .ref (g 1), .int (nI sv), .ref (g 2), .ref (g 3), .int (nI ln), .int (nI at9), .int (nI pl), .int va, .long hs]))] := hD
  obtain rfl : r_3 = 1 := hw_26
  refine lv_if_eq (tgt := 48) hx hb dX5_turn_29 (by decide) (fun c_29 => absurd c_29 (by decide)) (fun _ => ?_)
  refine lv_aload_n hx hb dX5_turn_32 rfl (lv_at hl 0 rfl) ?_
  refine lv_bipush (v := 9) hx hb dX5_turn_33 (by decide) ?_
  refine lv_iconst (v := 3) hx hb dX5_turn_35 (by decide) ?_
  refine lv_iload_n hx hb dX5_turn_36 rfl (lv_at hl 1 rfl) ?_
  refine lv_imul hx hb dX5_turn_37 ?_
  refine zz_top (y := nI (3 * v)) (pk_mul 3 v) ?_
  refine lv_iadd hx hb dX5_turn_38 ?_
  refine zz_top (y := nI (9 + (3 * v))) (nI_add 9 (3 * v)) ?_
  refine lv_iconst (v := 2) hx hb dX5_turn_39 (by decide) ?_
  refine lv_iadd hx hb dX5_turn_40 ?_
  refine zz_top (y := nI ((9 + (3 * v)) + 2)) (nI_add (9 + (3 * v)) 2) ?_
  refine zz_top (y := nI (11 + 3 * v)) (congrArg nI (by omega)) ?_
  refine lv_iload_n hx hb dX5_turn_41 rfl (lv_at hl 2 rfl) ?_
  refine zw_calli (wr := []) (w1 := (fun _ : Unit => [((g 0), .inr (5, [.int 0, .ref (g 1), .int (nI (sv2 sv)), .ref (g 2), .ref (g 3), .int (nI ln), .int (nI at9), .int (nI pl), .int va, .long hs])), ((g 1), .inl (y 0, 4023, .inl (upd (svS S sv) (11 + 3 * v) x)))])) hP hD hS hA [1, 0] [] rfl rfl (by decide +kernel) (by decide +kernel) (va_runV (As := [.int (nI (11 + 3 * v)), .int x]) (rest := []) ⟨hx, hb, hml, hown, hts⟩ (mX5_changed l D y _ g S 0 sv ln at9 pl va hs (11 + 3 * v) x (by first | assumption | rfl | omega | decide) (by first | assumption | rfl | omega | decide)) (cwV 2 hts (zgV tw_434 tw_435 tw_436 tw_369 tw_422) rfl rfl rfl (by decide +kernel) ⟨Nat.le_of_ble_eq_true rfl, Nat.le_of_ble_eq_true rfl⟩) (zRW_preV hKN hP hD (ci := 5) (q0 := 1) rfl rfl [1, 0] rfl (by decide)) rfl rfl hl.1 rfl (lv_room (Nat.le_of_ble_eq_true rfl)) dX5_turn_42 ⟨Nat.zero_le _, Nat.zero_le _⟩) (fun r_5 u_6 H locs hw_42 hP hD hS => ?_)
  have hP : va_P D vwCl [((g 0), .inr (5, [.int 0, .ref (g 1), .int (nI (sv2 sv)), .ref (g 2), .ref (g 3), .int (nI ln), .int (nI at9), .int (nI pl), .int va, .long hs])), ((g 1), .inl (y 0, 4023, .inl (upd (svS S sv) (11 + 3 * v) x)))] H := hP
  have hD : va_D A [((g 0), .inr (5, [.int 0, .ref (g 1), .int (nI (sv2 sv)), .ref (g 2), .ref (g 3), .int (nI ln), .int (nI at9), .int (nI pl), .int va, .long hs])), ((g 1), .inl (y 0, 4023, .inl (upd (svS S sv) (11 + 3 * v) x)))] := hD
  obtain rfl : r_5 = S (11 + 3 * v) := hw_42
  refine lv_goto (tgt := 49) hx hb dX5_turn_45 (by decide) ?_
  refine W.widen (k := 0) (n := 0) (by first | exact Nat.le_of_ble_eq_true rfl | omega) (by first | exact Nat.le_of_ble_eq_true rfl | omega) ?_
  exact W.iret (v := (S (11 + 3 * v))) hx hb hr (fun t ht hW => ⟨⟨S (11 + 3 * v), (), rfl, by first | rfl | trivial | simp_all, ⟨by rw [ht]; exact hP, hD⟩⟩, hS.F ht⟩) hS.2.2 dX5_turn_49

set_option maxHeartbeats 4000000 in
set_option maxRecDepth 100000 in
theorem mX5_turn_b1 (l : Launch) (D : va_G) (y : Nat → ClassId) (sz : Nat) (g : Nat → Nat) (th : Int32) (sv : Nat) (ln : Nat) (at9 : Nat) (pl : Nat) (va : Int32) (hs : Int64) (v : Int32) (x : Int32) (hb1 : ¬ (¬ v < 0 ∧ ¬ 15 < v)) : Met l yX5_turn (ws_ yX5_turn cX5_turn 3 (some .int)) ({ frames := 2, cells := 0, slots := 0, locals := 42 }) (va_Pc [.ref (g 0), .int v, .int x] (zRW D y [((g 0), .inr (5, [.int th, .ref (g 1), .int (nI sv), .ref (g 2), .ref (g 3), .int (nI ln), .int (nI at9), .int (nI pl), .int va, .long hs]))] sz)) (va_Qi (fun (r : Int32) (_ : Unit) => r = 0) (fun (_ : Unit) t => zOut D (va_A [((g 0), .inr (5, [.int th, .ref (g 1), .int (nI sv), .ref (g 2), .ref (g 3), .int (nI ln), .int (nI at9), .int (nI pl), .int va, .long hs]))] sz) [((g 0), .inr (5, [.int 1, .ref (g 1), .int (nI sv), .ref (g 2), .ref (g 3), .int (nI ln), .int (nI at9), .int (nI pl), .int va, .long hs]))] t) (va_A [((g 0), .inr (5, [.int th, .ref (g 1), .int (nI sv), .ref (g 2), .ref (g 3), .int (nI ln), .int (nI at9), .int (nI pl), .int va, .long hs]))] sz)) 0 0 (va_A [((g 0), .inr (5, [.int th, .ref (g 1), .int (nI sv), .ref (g 2), .ref (g 3), .int (nI ln), .int (nI at9), .int (nI pl), .int va, .long hs]))] sz) := by
  refine Met.ofW (cc := cX5_turn) (maxL := 3) (ret := (some .int)) (by decide) rfl ?_
  intro p e s m args below meth c s₁ B hml hpre9
  obtain ⟨rfl, hsz, hP, hKN, hD0⟩ := hpre9
  have hK := hKN.1
  have hx := B.exec
  have hb := B.bytes
  have hr := B.returns
  have hts := atoms_spec (ws := (ws_ yX5_turn cX5_turn 3 (some .int))) B.pre
  have htg : ∀ w ∈ gT, w.before _ s = true := fun w h => hts w (List.mem_cons_of_mem _ h)
  have hown : s.vm.findClass RX5 = some m.cls := findClass_of_methodNamed B.named
  have hlocks := B.notSynchronized
  subst hsz
  have hD := hD0.self (sz := s.heap.size)
  clear hD0
  generalize hAe : va_A [((g 0), .inr (5, [.int th, .ref (g 1), .int (nI sv), .ref (g 2), .ref (g 3), .int (nI ln), .int (nI at9), .int (nI pl), .int va, .long hs]))] s.heap.size = A at hD ⊢
  have hA : ∀ q : Nat, s.heap.size ≤ q → A q := fun q h => by rw [← hAe]; exact Or.inr h
  have hS : va_S A s.heap s.heap [] := va_S.rf
  have hP : va_P D vwCl [((g 0), .inr (5, [.int th, .ref (g 1), .int (nI sv), .ref (g 2), .ref (g 3), .int (nI ln), .int (nI at9), .int (nI pl), .int va, .long hs]))] s.heap := hP
  have hl := lv_entry ([.ref (g 0), .int v, .int x]) (n := 3) (Nat.le_of_ble_eq_true rfl)
  rw [lg_entry_eq]
  generalize (lg_sl ([.ref (g 0), .int v, .int x]) ++ List.replicate (3 - (lg_sl ([.ref (g 0), .int v, .int x])).length) Slot.unset).toArray = ls at hl ⊢
  have hl : lv_has ls 3 [(0, .ref (g 0)), (1, .int v), (2, .int x)] := hl
  refine lv_aload_n hx hb dX5_turn_0 rfl (lv_at hl 0 rfl) ?_
  refine lv_iload_n hx hb dX5_turn_1 rfl (lv_at hl 1 rfl) ?_
  refine zr_calli (va_runS (As := [.int v]) (rest := [.ref (g 0)]) ⟨hx, hb, hml, hown, hts⟩ (mX5_isLevel l v) (va_cwS 1 hts (zgS tw_427 tw_428 tw_369 tw_366) rfl rfl rfl (by decide +kernel) ⟨Nat.le_of_ble_eq_true rfl, Nat.le_of_ble_eq_true rfl⟩) zP_pre rfl rfl hl.1 rfl (lv_room (Nat.le_of_ble_eq_true rfl)) dX5_turn_2 ⟨Nat.zero_le _, Nat.zero_le _⟩) hS (fun r_1 H locs hw_2 hT hS => ?_)
  replace hP := hT _ _ hP
  obtain rfl : r_1 = (if ¬ v < 0 ∧ ¬ 15 < v then (1 : Int32) else 0) := hw_2
  refine lv_if_ne (tgt := 12) hx hb dX5_turn_5 (by decide) (fun c_5 => absurd (zb0.mpr hb1) c_5) (fun _ => ?_)
  refine lv_iconst (v := 1) hx hb dX5_turn_8 (by decide) ?_
  refine lv_goto (tgt := 26) hx hb dX5_turn_9 (by decide) ?_
  refine zw_calli (wr := []) (w1 := (fun _ : Unit => [((g 0), .inr (5, [.int 1, .ref (g 1), .int (nI sv), .ref (g 2), .ref (g 3), .int (nI ln), .int (nI at9), .int (nI pl), .int va, .long hs]))])) hP hD hS hA [0] [] rfl rfl (by decide +kernel) (by decide +kernel) (va_runV (As := [.int 1]) (rest := []) ⟨hx, hb, hml, hown, hts⟩ (mX5_holds l D y _ g th sv ln at9 pl va hs 1) (cwV 1 hts (zgV tw_431 tw_432 tw_433 tw_369 tw_365) rfl rfl rfl (by decide +kernel) ⟨Nat.le_of_ble_eq_true rfl, Nat.le_of_ble_eq_true rfl⟩) (zRW_preV hKN hP hD (ci := 5) (q0 := 0) rfl rfl [0] rfl (by decide)) rfl rfl hl.1 rfl (lv_room (Nat.le_of_ble_eq_true rfl)) dX5_turn_26 ⟨Nat.zero_le _, Nat.zero_le _⟩) (fun r_2 u_3 H locs hw_26 hP hD hS => ?_)
  have hP : va_P D vwCl [((g 0), .inr (5, [.int 1, .ref (g 1), .int (nI sv), .ref (g 2), .ref (g 3), .int (nI ln), .int (nI at9), .int (nI pl), .int va, .long hs]))] H := hP
  have hD : va_D A [((g 0), .inr (5, [.int 1, .ref (g 1), .int (nI sv), .ref (g 2), .ref (g 3), .int (nI ln), .int (nI at9), .int (nI pl), .int va, .long hs]))] := hD
  obtain rfl : r_2 = 0 := hw_26
  refine lv_if_eq (tgt := 48) hx hb dX5_turn_29 (by decide) (fun _ => ?_) (fun c_29 => absurd (by decide) c_29)
  refine lv_iconst (v := 0) hx hb dX5_turn_48 (by decide) ?_
  refine W.widen (k := 0) (n := 0) (by first | exact Nat.le_of_ble_eq_true rfl | omega) (by first | exact Nat.le_of_ble_eq_true rfl | omega) ?_
  exact W.iret (v := 0) hx hb hr (fun t ht hW => ⟨⟨0, (), rfl, by first | rfl | trivial | simp_all, ⟨by rw [ht]; exact hP, hD⟩⟩, hS.F ht⟩) hS.2.2 dX5_turn_49

set_option maxHeartbeats 4000000 in
set_option maxRecDepth 100000 in
theorem mX5_turn_b2 (l : Launch) (D : va_G) (y : Nat → ClassId) (sz : Nat) (g : Nat → Nat) (th : Int32) (sv : Nat) (ln : Nat) (at9 : Nat) (pl : Nat) (va : Int32) (hs : Int64) (v : Int32) (x : Int32) (h1 : ¬ v < 0 ∧ ¬ 15 < v) (hb1 : ¬ (¬ x < 0 ∧ ¬ 3 < x)) : Met l yX5_turn (ws_ yX5_turn cX5_turn 3 (some .int)) ({ frames := 2, cells := 0, slots := 0, locals := 42 }) (va_Pc [.ref (g 0), .int v, .int x] (zRW D y [((g 0), .inr (5, [.int th, .ref (g 1), .int (nI sv), .ref (g 2), .ref (g 3), .int (nI ln), .int (nI at9), .int (nI pl), .int va, .long hs]))] sz)) (va_Qi (fun (r : Int32) (_ : Unit) => r = 0) (fun (_ : Unit) t => zOut D (va_A [((g 0), .inr (5, [.int th, .ref (g 1), .int (nI sv), .ref (g 2), .ref (g 3), .int (nI ln), .int (nI at9), .int (nI pl), .int va, .long hs]))] sz) [((g 0), .inr (5, [.int 2, .ref (g 1), .int (nI sv), .ref (g 2), .ref (g 3), .int (nI ln), .int (nI at9), .int (nI pl), .int va, .long hs]))] t) (va_A [((g 0), .inr (5, [.int th, .ref (g 1), .int (nI sv), .ref (g 2), .ref (g 3), .int (nI ln), .int (nI at9), .int (nI pl), .int va, .long hs]))] sz)) 0 0 (va_A [((g 0), .inr (5, [.int th, .ref (g 1), .int (nI sv), .ref (g 2), .ref (g 3), .int (nI ln), .int (nI at9), .int (nI pl), .int va, .long hs]))] sz) := by
  refine Met.ofW (cc := cX5_turn) (maxL := 3) (ret := (some .int)) (by decide) rfl ?_
  intro p e s m args below meth c s₁ B hml hpre9
  obtain ⟨rfl, hsz, hP, hKN, hD0⟩ := hpre9
  have hK := hKN.1
  have hx := B.exec
  have hb := B.bytes
  have hr := B.returns
  have hts := atoms_spec (ws := (ws_ yX5_turn cX5_turn 3 (some .int))) B.pre
  have htg : ∀ w ∈ gT, w.before _ s = true := fun w h => hts w (List.mem_cons_of_mem _ h)
  have hown : s.vm.findClass RX5 = some m.cls := findClass_of_methodNamed B.named
  have hlocks := B.notSynchronized
  subst hsz
  have hD := hD0.self (sz := s.heap.size)
  clear hD0
  generalize hAe : va_A [((g 0), .inr (5, [.int th, .ref (g 1), .int (nI sv), .ref (g 2), .ref (g 3), .int (nI ln), .int (nI at9), .int (nI pl), .int va, .long hs]))] s.heap.size = A at hD ⊢
  have hA : ∀ q : Nat, s.heap.size ≤ q → A q := fun q h => by rw [← hAe]; exact Or.inr h
  have hS : va_S A s.heap s.heap [] := va_S.rf
  have hP : va_P D vwCl [((g 0), .inr (5, [.int th, .ref (g 1), .int (nI sv), .ref (g 2), .ref (g 3), .int (nI ln), .int (nI at9), .int (nI pl), .int va, .long hs]))] s.heap := hP
  have hl := lv_entry ([.ref (g 0), .int v, .int x]) (n := 3) (Nat.le_of_ble_eq_true rfl)
  rw [lg_entry_eq]
  generalize (lg_sl ([.ref (g 0), .int v, .int x]) ++ List.replicate (3 - (lg_sl ([.ref (g 0), .int v, .int x])).length) Slot.unset).toArray = ls at hl ⊢
  have hl : lv_has ls 3 [(0, .ref (g 0)), (1, .int v), (2, .int x)] := hl
  refine lv_aload_n hx hb dX5_turn_0 rfl (lv_at hl 0 rfl) ?_
  refine lv_iload_n hx hb dX5_turn_1 rfl (lv_at hl 1 rfl) ?_
  refine zr_calli (va_runS (As := [.int v]) (rest := [.ref (g 0)]) ⟨hx, hb, hml, hown, hts⟩ (mX5_isLevel l v) (va_cwS 1 hts (zgS tw_427 tw_428 tw_369 tw_366) rfl rfl rfl (by decide +kernel) ⟨Nat.le_of_ble_eq_true rfl, Nat.le_of_ble_eq_true rfl⟩) zP_pre rfl rfl hl.1 rfl (lv_room (Nat.le_of_ble_eq_true rfl)) dX5_turn_2 ⟨Nat.zero_le _, Nat.zero_le _⟩) hS (fun r_1 H locs hw_2 hT hS => ?_)
  replace hP := hT _ _ hP
  obtain rfl : r_1 = (if ¬ v < 0 ∧ ¬ 15 < v then (1 : Int32) else 0) := hw_2
  refine lv_if_ne (tgt := 12) hx hb dX5_turn_5 (by decide) (fun _ => ?_) (fun c_5 => absurd c_5 (zb1.mpr h1))
  refine lv_iload_n hx hb dX5_turn_12 rfl (lv_at hl 2 rfl) ?_
  refine lv_iconst (v := 0) hx hb dX5_turn_13 (by decide) ?_
  refine lv_iconst (v := 3) hx hb dX5_turn_14 (by decide) ?_
  refine zr_calli (va_runS (As := [.int x, .int 0, .int 3]) (rest := [.ref (g 0)]) ⟨hx, hb, hml, hown, hts⟩ (mX5_in l x 0 3) (va_cwS 3 hts (zgS tw_367 tw_368 tw_369 tw_364) rfl rfl rfl (by decide +kernel) ⟨Nat.le_of_ble_eq_true rfl, Nat.le_of_ble_eq_true rfl⟩) zP_pre rfl rfl hl.1 rfl (lv_room (Nat.le_of_ble_eq_true rfl)) dX5_turn_15 ⟨Nat.zero_le _, Nat.zero_le _⟩) hS (fun r_2 H locs hw_15 hT hS => ?_)
  replace hP := hT _ _ hP
  obtain rfl : r_2 = (if ¬ x < 0 ∧ ¬ 3 < x then (1 : Int32) else 0) := hw_15
  refine lv_if_ne (tgt := 25) hx hb dX5_turn_18 (by decide) (fun c_18 => absurd (zb0.mpr hb1) c_18) (fun _ => ?_)
  refine lv_iconst (v := 2) hx hb dX5_turn_21 (by decide) ?_
  refine lv_goto (tgt := 26) hx hb dX5_turn_22 (by decide) ?_
  refine zw_calli (wr := []) (w1 := (fun _ : Unit => [((g 0), .inr (5, [.int 2, .ref (g 1), .int (nI sv), .ref (g 2), .ref (g 3), .int (nI ln), .int (nI at9), .int (nI pl), .int va, .long hs]))])) hP hD hS hA [0] [] rfl rfl (by decide +kernel) (by decide +kernel) (va_runV (As := [.int 2]) (rest := []) ⟨hx, hb, hml, hown, hts⟩ (mX5_holds l D y _ g th sv ln at9 pl va hs 2) (cwV 1 hts (zgV tw_431 tw_432 tw_433 tw_369 tw_365) rfl rfl rfl (by decide +kernel) ⟨Nat.le_of_ble_eq_true rfl, Nat.le_of_ble_eq_true rfl⟩) (zRW_preV hKN hP hD (ci := 5) (q0 := 0) rfl rfl [0] rfl (by decide)) rfl rfl hl.1 rfl (lv_room (Nat.le_of_ble_eq_true rfl)) dX5_turn_26 ⟨Nat.zero_le _, Nat.zero_le _⟩) (fun r_3 u_4 H locs hw_26 hP hD hS => ?_)
  have hP : va_P D vwCl [((g 0), .inr (5, [.int 2, .ref (g 1), .int (nI sv), .ref (g 2), .ref (g 3), .int (nI ln), .int (nI at9), .int (nI pl), .int va, .long hs]))] H := hP
  have hD : va_D A [((g 0), .inr (5, [.int 2, .ref (g 1), .int (nI sv), .ref (g 2), .ref (g 3), .int (nI ln), .int (nI at9), .int (nI pl), .int va, .long hs]))] := hD
  obtain rfl : r_3 = 0 := hw_26
  refine lv_if_eq (tgt := 48) hx hb dX5_turn_29 (by decide) (fun _ => ?_) (fun c_29 => absurd (by decide) c_29)
  refine lv_iconst (v := 0) hx hb dX5_turn_48 (by decide) ?_
  refine W.widen (k := 0) (n := 0) (by first | exact Nat.le_of_ble_eq_true rfl | omega) (by first | exact Nat.le_of_ble_eq_true rfl | omega) ?_
  exact W.iret (v := 0) hx hb hr (fun t ht hW => ⟨⟨0, (), rfl, by first | rfl | trivial | simp_all, ⟨by rw [ht]; exact hP, hD⟩⟩, hS.F ht⟩) hS.2.2 dX5_turn_49

set_option maxHeartbeats 4000000 in
set_option maxRecDepth 100000 in
theorem mX5_bias_b1 (l : Launch) (D : va_G) (y : Nat → ClassId) (sz : Nat) (g : Nat → Nat) (th : Int32) (sv : Nat) (ln : Nat) (at9 : Nat) (pl : Nat) (va : Int32) (hs : Int64) (v : Int32) (x : Int32) (hb1 : ¬ (¬ v < 0 ∧ ¬ 1 < v)) : Met l yX5_bias (ws_ yX5_bias cX5_bias 3 (some .int)) ({ frames := 2, cells := 0, slots := 0, locals := 42 }) (va_Pc [.ref (g 0), .int v, .int x] (zRW D y [((g 0), .inr (5, [.int th, .ref (g 1), .int (nI sv), .ref (g 2), .ref (g 3), .int (nI ln), .int (nI at9), .int (nI pl), .int va, .long hs]))] sz)) (va_Qi (fun (r : Int32) (_ : Unit) => r = 0) (fun (_ : Unit) t => zOut D (va_A [((g 0), .inr (5, [.int th, .ref (g 1), .int (nI sv), .ref (g 2), .ref (g 3), .int (nI ln), .int (nI at9), .int (nI pl), .int va, .long hs]))] sz) [((g 0), .inr (5, [.int 1, .ref (g 1), .int (nI sv), .ref (g 2), .ref (g 3), .int (nI ln), .int (nI at9), .int (nI pl), .int va, .long hs]))] t) (va_A [((g 0), .inr (5, [.int th, .ref (g 1), .int (nI sv), .ref (g 2), .ref (g 3), .int (nI ln), .int (nI at9), .int (nI pl), .int va, .long hs]))] sz)) 0 0 (va_A [((g 0), .inr (5, [.int th, .ref (g 1), .int (nI sv), .ref (g 2), .ref (g 3), .int (nI ln), .int (nI at9), .int (nI pl), .int va, .long hs]))] sz) := by
  refine Met.ofW (cc := cX5_bias) (maxL := 3) (ret := (some .int)) (by decide) rfl ?_
  intro p e s m args below meth c s₁ B hml hpre9
  obtain ⟨rfl, hsz, hP, hKN, hD0⟩ := hpre9
  have hK := hKN.1
  have hx := B.exec
  have hb := B.bytes
  have hr := B.returns
  have hts := atoms_spec (ws := (ws_ yX5_bias cX5_bias 3 (some .int))) B.pre
  have htg : ∀ w ∈ gT, w.before _ s = true := fun w h => hts w (List.mem_cons_of_mem _ h)
  have hown : s.vm.findClass RX5 = some m.cls := findClass_of_methodNamed B.named
  have hlocks := B.notSynchronized
  subst hsz
  have hD := hD0.self (sz := s.heap.size)
  clear hD0
  generalize hAe : va_A [((g 0), .inr (5, [.int th, .ref (g 1), .int (nI sv), .ref (g 2), .ref (g 3), .int (nI ln), .int (nI at9), .int (nI pl), .int va, .long hs]))] s.heap.size = A at hD ⊢
  have hA : ∀ q : Nat, s.heap.size ≤ q → A q := fun q h => by rw [← hAe]; exact Or.inr h
  have hS : va_S A s.heap s.heap [] := va_S.rf
  have hP : va_P D vwCl [((g 0), .inr (5, [.int th, .ref (g 1), .int (nI sv), .ref (g 2), .ref (g 3), .int (nI ln), .int (nI at9), .int (nI pl), .int va, .long hs]))] s.heap := hP
  have hl := lv_entry ([.ref (g 0), .int v, .int x]) (n := 3) (Nat.le_of_ble_eq_true rfl)
  rw [lg_entry_eq]
  generalize (lg_sl ([.ref (g 0), .int v, .int x]) ++ List.replicate (3 - (lg_sl ([.ref (g 0), .int v, .int x])).length) Slot.unset).toArray = ls at hl ⊢
  have hl : lv_has ls 3 [(0, .ref (g 0)), (1, .int v), (2, .int x)] := hl
  refine lv_aload_n hx hb dX5_bias_0 rfl (lv_at hl 0 rfl) ?_
  refine lv_iload_n hx hb dX5_bias_1 rfl (lv_at hl 1 rfl) ?_
  refine zr_calli (va_runS (As := [.int v]) (rest := [.ref (g 0)]) ⟨hx, hb, hml, hown, hts⟩ (mX5_isSide l v) (va_cwS 1 hts (zgS tw_429 tw_430 tw_369 tw_370) rfl rfl rfl (by decide +kernel) ⟨Nat.le_of_ble_eq_true rfl, Nat.le_of_ble_eq_true rfl⟩) zP_pre rfl rfl hl.1 rfl (lv_room (Nat.le_of_ble_eq_true rfl)) dX5_bias_2 ⟨Nat.zero_le _, Nat.zero_le _⟩) hS (fun r_1 H locs hw_2 hT hS => ?_)
  replace hP := hT _ _ hP
  obtain rfl : r_1 = (if ¬ v < 0 ∧ ¬ 1 < v then (1 : Int32) else 0) := hw_2
  refine lv_if_ne (tgt := 12) hx hb dX5_bias_5 (by decide) (fun c_5 => absurd (zb0.mpr hb1) c_5) (fun _ => ?_)
  refine lv_iconst (v := 1) hx hb dX5_bias_8 (by decide) ?_
  refine lv_goto (tgt := 28) hx hb dX5_bias_9 (by decide) ?_
  refine zw_calli (wr := []) (w1 := (fun _ : Unit => [((g 0), .inr (5, [.int 1, .ref (g 1), .int (nI sv), .ref (g 2), .ref (g 3), .int (nI ln), .int (nI at9), .int (nI pl), .int va, .long hs]))])) hP hD hS hA [0] [] rfl rfl (by decide +kernel) (by decide +kernel) (va_runV (As := [.int 1]) (rest := []) ⟨hx, hb, hml, hown, hts⟩ (mX5_holds l D y _ g th sv ln at9 pl va hs 1) (cwV 1 hts (zgV tw_431 tw_432 tw_433 tw_369 tw_365) rfl rfl rfl (by decide +kernel) ⟨Nat.le_of_ble_eq_true rfl, Nat.le_of_ble_eq_true rfl⟩) (zRW_preV hKN hP hD (ci := 5) (q0 := 0) rfl rfl [0] rfl (by decide)) rfl rfl hl.1 rfl (lv_room (Nat.le_of_ble_eq_true rfl)) dX5_bias_28 ⟨Nat.zero_le _, Nat.zero_le _⟩) (fun r_2 u_3 H locs hw_28 hP hD hS => ?_)
  have hP : va_P D vwCl [((g 0), .inr (5, [.int 1, .ref (g 1), .int (nI sv), .ref (g 2), .ref (g 3), .int (nI ln), .int (nI at9), .int (nI pl), .int va, .long hs]))] H := hP
  have hD : va_D A [((g 0), .inr (5, [.int 1, .ref (g 1), .int (nI sv), .ref (g 2), .ref (g 3), .int (nI ln), .int (nI at9), .int (nI pl), .int va, .long hs]))] := hD
  obtain rfl : r_2 = 0 := hw_28
  refine lv_if_eq (tgt := 45) hx hb dX5_bias_31 (by decide) (fun _ => ?_) (fun c_31 => absurd (by decide) c_31)
  refine lv_iconst (v := 0) hx hb dX5_bias_45 (by decide) ?_
  refine W.widen (k := 0) (n := 0) (by first | exact Nat.le_of_ble_eq_true rfl | omega) (by first | exact Nat.le_of_ble_eq_true rfl | omega) ?_
  exact W.iret (v := 0) hx hb hr (fun t ht hW => ⟨⟨0, (), rfl, by first | rfl | trivial | simp_all, ⟨by rw [ht]; exact hP, hD⟩⟩, hS.F ht⟩) hS.2.2 dX5_bias_46

set_option maxHeartbeats 4000000 in
set_option maxRecDepth 100000 in
theorem mX5_bias_b2 (l : Launch) (D : va_G) (y : Nat → ClassId) (sz : Nat) (g : Nat → Nat) (th : Int32) (sv : Nat) (ln : Nat) (at9 : Nat) (pl : Nat) (va : Int32) (hs : Int64) (v : Int32) (x : Int32) (h1 : ¬ v < 0 ∧ ¬ 1 < v) (hb1 : ¬ (¬ x < (-50) ∧ ¬ 50 < x)) : Met l yX5_bias (ws_ yX5_bias cX5_bias 3 (some .int)) ({ frames := 2, cells := 0, slots := 0, locals := 42 }) (va_Pc [.ref (g 0), .int v, .int x] (zRW D y [((g 0), .inr (5, [.int th, .ref (g 1), .int (nI sv), .ref (g 2), .ref (g 3), .int (nI ln), .int (nI at9), .int (nI pl), .int va, .long hs]))] sz)) (va_Qi (fun (r : Int32) (_ : Unit) => r = 0) (fun (_ : Unit) t => zOut D (va_A [((g 0), .inr (5, [.int th, .ref (g 1), .int (nI sv), .ref (g 2), .ref (g 3), .int (nI ln), .int (nI at9), .int (nI pl), .int va, .long hs]))] sz) [((g 0), .inr (5, [.int 2, .ref (g 1), .int (nI sv), .ref (g 2), .ref (g 3), .int (nI ln), .int (nI at9), .int (nI pl), .int va, .long hs]))] t) (va_A [((g 0), .inr (5, [.int th, .ref (g 1), .int (nI sv), .ref (g 2), .ref (g 3), .int (nI ln), .int (nI at9), .int (nI pl), .int va, .long hs]))] sz)) 0 0 (va_A [((g 0), .inr (5, [.int th, .ref (g 1), .int (nI sv), .ref (g 2), .ref (g 3), .int (nI ln), .int (nI at9), .int (nI pl), .int va, .long hs]))] sz) := by
  refine Met.ofW (cc := cX5_bias) (maxL := 3) (ret := (some .int)) (by decide) rfl ?_
  intro p e s m args below meth c s₁ B hml hpre9
  obtain ⟨rfl, hsz, hP, hKN, hD0⟩ := hpre9
  have hK := hKN.1
  have hx := B.exec
  have hb := B.bytes
  have hr := B.returns
  have hts := atoms_spec (ws := (ws_ yX5_bias cX5_bias 3 (some .int))) B.pre
  have htg : ∀ w ∈ gT, w.before _ s = true := fun w h => hts w (List.mem_cons_of_mem _ h)
  have hown : s.vm.findClass RX5 = some m.cls := findClass_of_methodNamed B.named
  have hlocks := B.notSynchronized
  subst hsz
  have hD := hD0.self (sz := s.heap.size)
  clear hD0
  generalize hAe : va_A [((g 0), .inr (5, [.int th, .ref (g 1), .int (nI sv), .ref (g 2), .ref (g 3), .int (nI ln), .int (nI at9), .int (nI pl), .int va, .long hs]))] s.heap.size = A at hD ⊢
  have hA : ∀ q : Nat, s.heap.size ≤ q → A q := fun q h => by rw [← hAe]; exact Or.inr h
  have hS : va_S A s.heap s.heap [] := va_S.rf
  have hP : va_P D vwCl [((g 0), .inr (5, [.int th, .ref (g 1), .int (nI sv), .ref (g 2), .ref (g 3), .int (nI ln), .int (nI at9), .int (nI pl), .int va, .long hs]))] s.heap := hP
  have hl := lv_entry ([.ref (g 0), .int v, .int x]) (n := 3) (Nat.le_of_ble_eq_true rfl)
  rw [lg_entry_eq]
  generalize (lg_sl ([.ref (g 0), .int v, .int x]) ++ List.replicate (3 - (lg_sl ([.ref (g 0), .int v, .int x])).length) Slot.unset).toArray = ls at hl ⊢
  have hl : lv_has ls 3 [(0, .ref (g 0)), (1, .int v), (2, .int x)] := hl
  refine lv_aload_n hx hb dX5_bias_0 rfl (lv_at hl 0 rfl) ?_
  refine lv_iload_n hx hb dX5_bias_1 rfl (lv_at hl 1 rfl) ?_
  refine zr_calli (va_runS (As := [.int v]) (rest := [.ref (g 0)]) ⟨hx, hb, hml, hown, hts⟩ (mX5_isSide l v) (va_cwS 1 hts (zgS tw_429 tw_430 tw_369 tw_370) rfl rfl rfl (by decide +kernel) ⟨Nat.le_of_ble_eq_true rfl, Nat.le_of_ble_eq_true rfl⟩) zP_pre rfl rfl hl.1 rfl (lv_room (Nat.le_of_ble_eq_true rfl)) dX5_bias_2 ⟨Nat.zero_le _, Nat.zero_le _⟩) hS (fun r_1 H locs hw_2 hT hS => ?_)
  replace hP := hT _ _ hP
  obtain rfl : r_1 = (if ¬ v < 0 ∧ ¬ 1 < v then (1 : Int32) else 0) := hw_2
  refine lv_if_ne (tgt := 12) hx hb dX5_bias_5 (by decide) (fun _ => ?_) (fun c_5 => absurd c_5 (zb1.mpr h1))
  refine lv_iload_n hx hb dX5_bias_12 rfl (lv_at hl 2 rfl) ?_
  refine lv_bipush (v := (-50)) hx hb dX5_bias_13 (by decide) ?_
  refine lv_bipush (v := 50) hx hb dX5_bias_15 (by decide) ?_
  refine zr_calli (va_runS (As := [.int x, .int (-50), .int 50]) (rest := [.ref (g 0)]) ⟨hx, hb, hml, hown, hts⟩ (mX5_in l x (-50) 50) (va_cwS 3 hts (zgS tw_367 tw_368 tw_369 tw_364) rfl rfl rfl (by decide +kernel) ⟨Nat.le_of_ble_eq_true rfl, Nat.le_of_ble_eq_true rfl⟩) zP_pre rfl rfl hl.1 rfl (lv_room (Nat.le_of_ble_eq_true rfl)) dX5_bias_17 ⟨Nat.zero_le _, Nat.zero_le _⟩) hS (fun r_2 H locs hw_17 hT hS => ?_)
  replace hP := hT _ _ hP
  obtain rfl : r_2 = (if ¬ x < (-50) ∧ ¬ 50 < x then (1 : Int32) else 0) := hw_17
  refine lv_if_ne (tgt := 27) hx hb dX5_bias_20 (by decide) (fun c_20 => absurd (zb0.mpr hb1) c_20) (fun _ => ?_)
  refine lv_iconst (v := 2) hx hb dX5_bias_23 (by decide) ?_
  refine lv_goto (tgt := 28) hx hb dX5_bias_24 (by decide) ?_
  refine zw_calli (wr := []) (w1 := (fun _ : Unit => [((g 0), .inr (5, [.int 2, .ref (g 1), .int (nI sv), .ref (g 2), .ref (g 3), .int (nI ln), .int (nI at9), .int (nI pl), .int va, .long hs]))])) hP hD hS hA [0] [] rfl rfl (by decide +kernel) (by decide +kernel) (va_runV (As := [.int 2]) (rest := []) ⟨hx, hb, hml, hown, hts⟩ (mX5_holds l D y _ g th sv ln at9 pl va hs 2) (cwV 1 hts (zgV tw_431 tw_432 tw_433 tw_369 tw_365) rfl rfl rfl (by decide +kernel) ⟨Nat.le_of_ble_eq_true rfl, Nat.le_of_ble_eq_true rfl⟩) (zRW_preV hKN hP hD (ci := 5) (q0 := 0) rfl rfl [0] rfl (by decide)) rfl rfl hl.1 rfl (lv_room (Nat.le_of_ble_eq_true rfl)) dX5_bias_28 ⟨Nat.zero_le _, Nat.zero_le _⟩) (fun r_3 u_4 H locs hw_28 hP hD hS => ?_)
  have hP : va_P D vwCl [((g 0), .inr (5, [.int 2, .ref (g 1), .int (nI sv), .ref (g 2), .ref (g 3), .int (nI ln), .int (nI at9), .int (nI pl), .int va, .long hs]))] H := hP
  have hD : va_D A [((g 0), .inr (5, [.int 2, .ref (g 1), .int (nI sv), .ref (g 2), .ref (g 3), .int (nI ln), .int (nI at9), .int (nI pl), .int va, .long hs]))] := hD
  obtain rfl : r_3 = 0 := hw_28
  refine lv_if_eq (tgt := 45) hx hb dX5_bias_31 (by decide) (fun _ => ?_) (fun c_31 => absurd (by decide) c_31)
  refine lv_iconst (v := 0) hx hb dX5_bias_45 (by decide) ?_
  refine W.widen (k := 0) (n := 0) (by first | exact Nat.le_of_ble_eq_true rfl | omega) (by first | exact Nat.le_of_ble_eq_true rfl | omega) ?_
  exact W.iret (v := 0) hx hb hr (fun t ht hW => ⟨⟨0, (), rfl, by first | rfl | trivial | simp_all, ⟨by rw [ht]; exact hP, hD⟩⟩, hS.F ht⟩) hS.2.2 dX5_bias_46

set_option maxHeartbeats 4000000 in
set_option maxRecDepth 100000 in
theorem mX5_bias (l : Launch) (D : va_G) (y : Nat → ClassId) (sz : Nat) (g : Nat → Nat) (S : (Nat → Int32)) (th : Int32) (sv : Nat) (ln : Nat) (at9 : Nat) (pl : Nat) (va : Int32) (hs : Int64) (q : Nat) (x : Int32) (hv : sv ≤ 6) (hq : q < 2) (hx1 : ¬ x < (-50) ∧ ¬ 50 < x) : Met l yX5_bias (ws_ yX5_bias cX5_bias 3 (some .int)) ({ frames := 3, cells := 0, slots := 0, locals := 67 }) (va_Pc [.ref (g 0), .int (nI q), .int x] (zRW D y [((g 0), .inr (5, [.int th, .ref (g 1), .int (nI sv), .ref (g 2), .ref (g 3), .int (nI ln), .int (nI at9), .int (nI pl), .int va, .long hs])), ((g 1), .inl (y 0, 4023, .inl S))] sz)) (va_Qi (fun (r : Int32) (_ : Unit) => r = S (2 + q)) (fun (_ : Unit) t => zOut D (va_A [((g 0), .inr (5, [.int th, .ref (g 1), .int (nI sv), .ref (g 2), .ref (g 3), .int (nI ln), .int (nI at9), .int (nI pl), .int va, .long hs])), ((g 1), .inl (y 0, 4023, .inl S))] sz) [((g 0), .inr (5, [.int 0, .ref (g 1), .int (nI (sv2 sv)), .ref (g 2), .ref (g 3), .int (nI ln), .int (nI at9), .int (nI pl), .int va, .long hs])), ((g 1), .inl (y 0, 4023, .inl (upd (svS S sv) (2 + q) x)))] t) (va_A [((g 0), .inr (5, [.int th, .ref (g 1), .int (nI sv), .ref (g 2), .ref (g 3), .int (nI ln), .int (nI at9), .int (nI pl), .int va, .long hs])), ((g 1), .inl (y 0, 4023, .inl S))] sz)) 0 0 (va_A [((g 0), .inr (5, [.int th, .ref (g 1), .int (nI sv), .ref (g 2), .ref (g 3), .int (nI ln), .int (nI at9), .int (nI pl), .int va, .long hs])), ((g 1), .inl (y 0, 4023, .inl S))] sz) := by
  refine Met.ofW (cc := cX5_bias) (maxL := 3) (ret := (some .int)) (by decide) rfl ?_
  intro p e s m args below meth c s₁ B hml hpre9
  obtain ⟨rfl, hsz, hP, hKN, hD0⟩ := hpre9
  have hK := hKN.1
  have hx := B.exec
  have hb := B.bytes
  have hr := B.returns
  have hts := atoms_spec (ws := (ws_ yX5_bias cX5_bias 3 (some .int))) B.pre
  have htg : ∀ w ∈ gT, w.before _ s = true := fun w h => hts w (List.mem_cons_of_mem _ h)
  have hown : s.vm.findClass RX5 = some m.cls := findClass_of_methodNamed B.named
  have hlocks := B.notSynchronized
  subst hsz
  have hD := hD0.self (sz := s.heap.size)
  clear hD0
  generalize hAe : va_A [((g 0), .inr (5, [.int th, .ref (g 1), .int (nI sv), .ref (g 2), .ref (g 3), .int (nI ln), .int (nI at9), .int (nI pl), .int va, .long hs])), ((g 1), .inl (y 0, 4023, .inl S))] s.heap.size = A at hD ⊢
  have hA : ∀ q : Nat, s.heap.size ≤ q → A q := fun q h => by rw [← hAe]; exact Or.inr h
  have hS : va_S A s.heap s.heap [] := va_S.rf
  have hP : va_P D vwCl [((g 0), .inr (5, [.int th, .ref (g 1), .int (nI sv), .ref (g 2), .ref (g 3), .int (nI ln), .int (nI at9), .int (nI pl), .int va, .long hs])), ((g 1), .inl (y 0, 4023, .inl S))] s.heap := hP
  have hl := lv_entry ([.ref (g 0), .int (nI q), .int x]) (n := 3) (Nat.le_of_ble_eq_true rfl)
  rw [lg_entry_eq]
  generalize (lg_sl ([.ref (g 0), .int (nI q), .int x]) ++ List.replicate (3 - (lg_sl ([.ref (g 0), .int (nI q), .int x])).length) Slot.unset).toArray = ls at hl ⊢
  have hl : lv_has ls 3 [(0, .ref (g 0)), (1, .int (nI q)), (2, .int x)] := hl
  refine lv_aload_n hx hb dX5_bias_0 rfl (lv_at hl 0 rfl) ?_
  refine lv_iload_n hx hb dX5_bias_1 rfl (lv_at hl 1 rfl) ?_
  refine zr_calli (va_runS (As := [.int (nI q)]) (rest := [.ref (g 0)]) ⟨hx, hb, hml, hown, hts⟩ (mX5_isSide l (nI q)) (va_cwS 1 hts (zgS tw_429 tw_430 tw_369 tw_370) rfl rfl rfl (by decide +kernel) ⟨Nat.le_of_ble_eq_true rfl, Nat.le_of_ble_eq_true rfl⟩) zP_pre rfl rfl hl.1 rfl (lv_room (Nat.le_of_ble_eq_true rfl)) dX5_bias_2 ⟨Nat.zero_le _, Nat.zero_le _⟩) hS (fun r_1 H locs hw_2 hT hS => ?_)
  replace hP := hT _ _ hP
  obtain rfl : r_1 = (if ¬ (nI q) < 0 ∧ ¬ 1 < (nI q) then (1 : Int32) else 0) := hw_2
  refine lv_if_ne (tgt := 12) hx hb dX5_bias_5 (by decide) (fun _ => ?_) (fun c_5 => absurd c_5 (zb1.mpr ⟨nI_pos (n := q) (by omega), nI_nlt (a := 1) (b := q) (by omega) (by omega)⟩))
  refine lv_iload_n hx hb dX5_bias_12 rfl (lv_at hl 2 rfl) ?_
  refine lv_bipush (v := (-50)) hx hb dX5_bias_13 (by decide) ?_
  refine lv_bipush (v := 50) hx hb dX5_bias_15 (by decide) ?_
  refine zr_calli (va_runS (As := [.int x, .int (-50), .int 50]) (rest := [.ref (g 0)]) ⟨hx, hb, hml, hown, hts⟩ (mX5_in l x (-50) 50) (va_cwS 3 hts (zgS tw_367 tw_368 tw_369 tw_364) rfl rfl rfl (by decide +kernel) ⟨Nat.le_of_ble_eq_true rfl, Nat.le_of_ble_eq_true rfl⟩) zP_pre rfl rfl hl.1 rfl (lv_room (Nat.le_of_ble_eq_true rfl)) dX5_bias_17 ⟨Nat.zero_le _, Nat.zero_le _⟩) hS (fun r_2 H locs hw_17 hT hS => ?_)
  replace hP := hT _ _ hP
  obtain rfl : r_2 = (if ¬ x < (-50) ∧ ¬ 50 < x then (1 : Int32) else 0) := hw_17
  refine lv_if_ne (tgt := 27) hx hb dX5_bias_20 (by decide) (fun _ => ?_) (fun c_20 => absurd c_20 (zb1.mpr hx1))
  refine lv_iconst (v := 0) hx hb dX5_bias_27 (by decide) ?_
  refine zw_calli (wr := [((g 1), .inl (y 0, 4023, .inl S))]) (w1 := (fun _ : Unit => [((g 0), .inr (5, [.int 0, .ref (g 1), .int (nI sv), .ref (g 2), .ref (g 3), .int (nI ln), .int (nI at9), .int (nI pl), .int va, .long hs]))])) hP hD hS hA [0] [1] rfl rfl (by decide +kernel) (by decide +kernel) (va_runV (As := [.int 0]) (rest := []) ⟨hx, hb, hml, hown, hts⟩ (mX5_holds l D y _ g th sv ln at9 pl va hs 0) (cwV 1 hts (zgV tw_431 tw_432 tw_433 tw_369 tw_365) rfl rfl rfl (by decide +kernel) ⟨Nat.le_of_ble_eq_true rfl, Nat.le_of_ble_eq_true rfl⟩) (zRW_preV hKN hP hD (ci := 5) (q0 := 0) rfl rfl [0] rfl (by decide)) rfl rfl hl.1 rfl (lv_room (Nat.le_of_ble_eq_true rfl)) dX5_bias_28 ⟨Nat.zero_le _, Nat.zero_le _⟩) (fun r_3 u_4 H locs hw_28 hP hD hS => ?_)
  have hP : va_P D vwCl [((g 1), .inl (y 0, 4023, .inl S)), ((g 0), .inr (5, [.int 0, .ref (g 1), .int (nI sv), .ref (g 2), .ref (g 3), .int (nI ln), .int (nI at9), .int (nI pl), .int va, .long hs]))] H := hP
  have hD : va_D A [((g 1), .inl (y 0, 4023, .inl S)), ((g 0), .inr (5, [.int 0, .ref (g 1), .int (nI sv), .ref (g 2), .ref (g 3), .int (nI ln), .int (nI at9), .int (nI pl), .int va, .long hs]))] := hD
  obtain rfl : r_3 = 1 := hw_28
  refine lv_if_eq (tgt := 45) hx hb dX5_bias_31 (by decide) (fun c_31 => absurd c_31 (by decide)) (fun _ => ?_)
  refine lv_aload_n hx hb dX5_bias_34 rfl (lv_at hl 0 rfl) ?_
  refine lv_iconst (v := 2) hx hb dX5_bias_35 (by decide) ?_
  refine lv_iload_n hx hb dX5_bias_36 rfl (lv_at hl 1 rfl) ?_
  refine lv_iadd hx hb dX5_bias_37 ?_
  refine zz_top (y := nI (2 + q)) (nI_add 2 q) ?_
  refine lv_iload_n hx hb dX5_bias_38 rfl (lv_at hl 2 rfl) ?_
  refine zw_calli (wr := []) (w1 := (fun _ : Unit => [((g 0), .inr (5, [.int 0, .ref (g 1), .int (nI (sv2 sv)), .ref (g 2), .ref (g 3), .int (nI ln), .int (nI at9), .int (nI pl), .int va, .long hs])), ((g 1), .inl (y 0, 4023, .inl (upd (svS S sv) (2 + q) x)))])) hP hD hS hA [1, 0] [] rfl rfl (by decide +kernel) (by decide +kernel) (va_runV (As := [.int (nI (2 + q)), .int x]) (rest := []) ⟨hx, hb, hml, hown, hts⟩ (mX5_changed l D y _ g S 0 sv ln at9 pl va hs (2 + q) x (by first | assumption | rfl | omega | decide) (by first | assumption | rfl | omega | decide)) (cwV 2 hts (zgV tw_434 tw_435 tw_436 tw_369 tw_422) rfl rfl rfl (by decide +kernel) ⟨Nat.le_of_ble_eq_true rfl, Nat.le_of_ble_eq_true rfl⟩) (zRW_preV hKN hP hD (ci := 5) (q0 := 1) rfl rfl [1, 0] rfl (by decide)) rfl rfl hl.1 rfl (lv_room (Nat.le_of_ble_eq_true rfl)) dX5_bias_39 ⟨Nat.zero_le _, Nat.zero_le _⟩) (fun r_5 u_6 H locs hw_39 hP hD hS => ?_)
  have hP : va_P D vwCl [((g 0), .inr (5, [.int 0, .ref (g 1), .int (nI (sv2 sv)), .ref (g 2), .ref (g 3), .int (nI ln), .int (nI at9), .int (nI pl), .int va, .long hs])), ((g 1), .inl (y 0, 4023, .inl (upd (svS S sv) (2 + q) x)))] H := hP
  have hD : va_D A [((g 0), .inr (5, [.int 0, .ref (g 1), .int (nI (sv2 sv)), .ref (g 2), .ref (g 3), .int (nI ln), .int (nI at9), .int (nI pl), .int va, .long hs])), ((g 1), .inl (y 0, 4023, .inl (upd (svS S sv) (2 + q) x)))] := hD
  obtain rfl : r_5 = S (2 + q) := hw_39
  refine lv_goto (tgt := 46) hx hb dX5_bias_42 (by decide) ?_
  refine W.widen (k := 0) (n := 0) (by first | exact Nat.le_of_ble_eq_true rfl | omega) (by first | exact Nat.le_of_ble_eq_true rfl | omega) ?_
  exact W.iret (v := (S (2 + q))) hx hb hr (fun t ht hW => ⟨⟨S (2 + q), (), rfl, by first | rfl | trivial | simp_all, ⟨by rw [ht]; exact hP, hD⟩⟩, hS.F ht⟩) hS.2.2 dX5_bias_46

set_option maxHeartbeats 4000000 in
set_option maxRecDepth 100000 in
theorem mX5_set (l : Launch) (D : va_G) (y : Nat → ClassId) (sz : Nat) (g : Nat → Nat) (S : (Nat → Int32)) (th : Int32) (sv : Nat) (ln : Nat) (at9 : Nat) (pl : Nat) (va : Int32) (hs : Int64) (q : Nat) (x : Int32) (hv : sv ≤ 6) (hq : q < 3) (hx1 : ¬ x < 0 ∧ ¬ (if q = 0 then (99 : Int32) else 1) < x) : Met l yX5_set (ws_ yX5_set cX5_set 4 (some .int)) ({ frames := 3, cells := 0, slots := 0, locals := 67 }) (va_Pc [.ref (g 0), .int (nI q), .int x] (zRW D y [((g 0), .inr (5, [.int th, .ref (g 1), .int (nI sv), .ref (g 2), .ref (g 3), .int (nI ln), .int (nI at9), .int (nI pl), .int va, .long hs])), ((g 1), .inl (y 0, 4023, .inl S))] sz)) (va_Qi (fun (r : Int32) (_ : Unit) => r = S (6 + q)) (fun (_ : Unit) t => zOut D (va_A [((g 0), .inr (5, [.int th, .ref (g 1), .int (nI sv), .ref (g 2), .ref (g 3), .int (nI ln), .int (nI at9), .int (nI pl), .int va, .long hs])), ((g 1), .inl (y 0, 4023, .inl S))] sz) [((g 0), .inr (5, [.int 0, .ref (g 1), .int (nI (sv2 sv)), .ref (g 2), .ref (g 3), .int (nI ln), .int (nI at9), .int (nI pl), .int va, .long hs])), ((g 1), .inl (y 0, 4023, .inl (upd (svS S sv) (6 + q) x)))] t) (va_A [((g 0), .inr (5, [.int th, .ref (g 1), .int (nI sv), .ref (g 2), .ref (g 3), .int (nI ln), .int (nI at9), .int (nI pl), .int va, .long hs])), ((g 1), .inl (y 0, 4023, .inl S))] sz)) 0 0 (va_A [((g 0), .inr (5, [.int th, .ref (g 1), .int (nI sv), .ref (g 2), .ref (g 3), .int (nI ln), .int (nI at9), .int (nI pl), .int va, .long hs])), ((g 1), .inl (y 0, 4023, .inl S))] sz) := by
  refine Met.ofW (cc := cX5_set) (maxL := 4) (ret := (some .int)) (by decide) rfl ?_
  intro p e s m args below meth c s₁ B hml hpre9
  obtain ⟨rfl, hsz, hP, hKN, hD0⟩ := hpre9
  have hK := hKN.1
  have hx := B.exec
  have hb := B.bytes
  have hr := B.returns
  have hts := atoms_spec (ws := (ws_ yX5_set cX5_set 4 (some .int))) B.pre
  have htg : ∀ w ∈ gT, w.before _ s = true := fun w h => hts w (List.mem_cons_of_mem _ h)
  have hown : s.vm.findClass RX5 = some m.cls := findClass_of_methodNamed B.named
  have hlocks := B.notSynchronized
  subst hsz
  have hD := hD0.self (sz := s.heap.size)
  clear hD0
  generalize hAe : va_A [((g 0), .inr (5, [.int th, .ref (g 1), .int (nI sv), .ref (g 2), .ref (g 3), .int (nI ln), .int (nI at9), .int (nI pl), .int va, .long hs])), ((g 1), .inl (y 0, 4023, .inl S))] s.heap.size = A at hD ⊢
  have hA : ∀ q : Nat, s.heap.size ≤ q → A q := fun q h => by rw [← hAe]; exact Or.inr h
  have hS : va_S A s.heap s.heap [] := va_S.rf
  have hP : va_P D vwCl [((g 0), .inr (5, [.int th, .ref (g 1), .int (nI sv), .ref (g 2), .ref (g 3), .int (nI ln), .int (nI at9), .int (nI pl), .int va, .long hs])), ((g 1), .inl (y 0, 4023, .inl S))] s.heap := hP
  have hl := lv_entry ([.ref (g 0), .int (nI q), .int x]) (n := 4) (Nat.le_of_ble_eq_true rfl)
  rw [lg_entry_eq]
  generalize (lg_sl ([.ref (g 0), .int (nI q), .int x]) ++ List.replicate (4 - (lg_sl ([.ref (g 0), .int (nI q), .int x])).length) Slot.unset).toArray = ls at hl ⊢
  have hl : lv_has ls 4 [(0, .ref (g 0)), (1, .int (nI q)), (2, .int x)] := hl
  refine lv_iload_n hx hb dX5_set_0 rfl (lv_at hl 1 rfl) ?_
  refine lv_iconst (v := 0) hx hb dX5_set_1 (by decide) ?_
  refine lv_iconst (v := 2) hx hb dX5_set_2 (by decide) ?_
  refine zr_calli (va_runS (As := [.int (nI q), .int 0, .int 2]) (rest := []) ⟨hx, hb, hml, hown, hts⟩ (mX5_in l (nI q) 0 2) (va_cwS 3 hts (zgS tw_367 tw_368 tw_369 tw_364) rfl rfl rfl (by decide +kernel) ⟨Nat.le_of_ble_eq_true rfl, Nat.le_of_ble_eq_true rfl⟩) zP_pre rfl rfl hl.1 rfl (lv_room (Nat.le_of_ble_eq_true rfl)) dX5_set_3 ⟨Nat.zero_le _, Nat.zero_le _⟩) hS (fun r_1 H locs hw_3 hT hS => ?_)
  replace hP := hT _ _ hP
  obtain rfl : r_1 = (if ¬ (nI q) < 0 ∧ ¬ 2 < (nI q) then (1 : Int32) else 0) := hw_3
  refine lv_istore_n (lv' := [(3, .int (if ¬ (nI q) < 0 ∧ ¬ 2 < (nI q) then (1 : Int32) else 0)), (0, .ref (g 0)), (1, .int (nI q)), (2, .int x)]) hx hb dX5_set_6 rfl hl (by decide) rfl (fun ls hl => ?_)
  refine lv_aload_n hx hb dX5_set_7 rfl (lv_at hl 1 rfl) ?_
  refine lv_iload_n hx hb dX5_set_8 rfl (lv_at hl 0 rfl) ?_
  refine lv_if_ne (tgt := 16) hx hb dX5_set_9 (by decide) (fun _ => ?_) (fun c_9 => absurd c_9 (zb1.mpr ⟨nI_pos (n := q) (by omega), nI_nlt (a := 2) (b := q) (by omega) (by omega)⟩))
  refine lv_iload_n hx hb dX5_set_16 rfl (lv_at hl 3 rfl) ?_
  refine lv_iconst (v := 0) hx hb dX5_set_17 (by decide) ?_
  refine lv_iload_n hx hb dX5_set_18 rfl (lv_at hl 2 rfl) ?_
  refine lv_if_ne (tgt := 27) hx hb dX5_set_19 (by decide) (fun c_19 => ?_) (fun c_19 => ?_)
  · replace c_19 : ¬ q = 0 := fun h => c_19 ((nI_eq (a := q) (b := 0) (by omega) (by omega)).mpr h)
    rw [if_neg c_19] at hx1
    refine lv_iconst (v := 1) hx hb dX5_set_27 (by decide) ?_
    refine zr_calli (va_runS (As := [.int x, .int 0, .int 1]) (rest := [.ref (g 0)]) ⟨hx, hb, hml, hown, hts⟩ (mX5_in l x 0 1) (va_cwS 3 hts (zgS tw_367 tw_368 tw_369 tw_364) rfl rfl rfl (by decide +kernel) ⟨Nat.le_of_ble_eq_true rfl, Nat.le_of_ble_eq_true rfl⟩) zP_pre rfl rfl hl.1 rfl (lv_room (Nat.le_of_ble_eq_true rfl)) dX5_set_28 ⟨Nat.zero_le _, Nat.zero_le _⟩) hS (fun r_2 H locs hw_28 hT hS => ?_)
    replace hP := hT _ _ hP
    obtain rfl : r_2 = (if ¬ x < 0 ∧ ¬ 1 < x then (1 : Int32) else 0) := hw_28
    refine lv_if_ne (tgt := 38) hx hb dX5_set_31 (by decide) (fun _ => ?_) (fun c_31 => absurd c_31 (zb1.mpr hx1))
    refine lv_iconst (v := 0) hx hb dX5_set_38 (by decide) ?_
    refine zw_calli (wr := [((g 1), .inl (y 0, 4023, .inl S))]) (w1 := (fun _ : Unit => [((g 0), .inr (5, [.int 0, .ref (g 1), .int (nI sv), .ref (g 2), .ref (g 3), .int (nI ln), .int (nI at9), .int (nI pl), .int va, .long hs]))])) hP hD hS hA [0] [1] rfl rfl (by decide +kernel) (by decide +kernel) (va_runV (As := [.int 0]) (rest := []) ⟨hx, hb, hml, hown, hts⟩ (mX5_holds l D y _ g th sv ln at9 pl va hs 0) (cwV 1 hts (zgV tw_431 tw_432 tw_433 tw_369 tw_365) rfl rfl rfl (by decide +kernel) ⟨Nat.le_of_ble_eq_true rfl, Nat.le_of_ble_eq_true rfl⟩) (zRW_preV hKN hP hD (ci := 5) (q0 := 0) rfl rfl [0] rfl (by decide)) rfl rfl hl.1 rfl (lv_room (Nat.le_of_ble_eq_true rfl)) dX5_set_39 ⟨Nat.zero_le _, Nat.zero_le _⟩) (fun r_3 u_4 H locs hw_39 hP hD hS => ?_)
    have hP : va_P D vwCl [((g 1), .inl (y 0, 4023, .inl S)), ((g 0), .inr (5, [.int 0, .ref (g 1), .int (nI sv), .ref (g 2), .ref (g 3), .int (nI ln), .int (nI at9), .int (nI pl), .int va, .long hs]))] H := hP
    have hD : va_D A [((g 1), .inl (y 0, 4023, .inl S)), ((g 0), .inr (5, [.int 0, .ref (g 1), .int (nI sv), .ref (g 2), .ref (g 3), .int (nI ln), .int (nI at9), .int (nI pl), .int va, .long hs]))] := hD
    obtain rfl : r_3 = 1 := hw_39
    refine lv_if_eq (tgt := 57) hx hb dX5_set_42 (by decide) (fun c_42 => absurd c_42 (by decide)) (fun _ => ?_)
    refine lv_aload_n hx hb dX5_set_45 rfl (lv_at hl 1 rfl) ?_
    refine lv_bipush (v := 6) hx hb dX5_set_46 (by decide) ?_
    refine lv_iload_n hx hb dX5_set_48 rfl (lv_at hl 2 rfl) ?_
    refine lv_iadd hx hb dX5_set_49 ?_
    refine zz_top (y := nI (6 + q)) (nI_add 6 q) ?_
    refine lv_iload_n hx hb dX5_set_50 rfl (lv_at hl 3 rfl) ?_
    refine zw_calli (wr := []) (w1 := (fun _ : Unit => [((g 0), .inr (5, [.int 0, .ref (g 1), .int (nI (sv2 sv)), .ref (g 2), .ref (g 3), .int (nI ln), .int (nI at9), .int (nI pl), .int va, .long hs])), ((g 1), .inl (y 0, 4023, .inl (upd (svS S sv) (6 + q) x)))])) hP hD hS hA [1, 0] [] rfl rfl (by decide +kernel) (by decide +kernel) (va_runV (As := [.int (nI (6 + q)), .int x]) (rest := []) ⟨hx, hb, hml, hown, hts⟩ (mX5_changed l D y _ g S 0 sv ln at9 pl va hs (6 + q) x (by first | assumption | rfl | omega | decide) (by first | assumption | rfl | omega | decide)) (cwV 2 hts (zgV tw_434 tw_435 tw_436 tw_369 tw_422) rfl rfl rfl (by decide +kernel) ⟨Nat.le_of_ble_eq_true rfl, Nat.le_of_ble_eq_true rfl⟩) (zRW_preV hKN hP hD (ci := 5) (q0 := 1) rfl rfl [1, 0] rfl (by decide)) rfl rfl hl.1 rfl (lv_room (Nat.le_of_ble_eq_true rfl)) dX5_set_51 ⟨Nat.zero_le _, Nat.zero_le _⟩) (fun r_5 u_6 H locs hw_51 hP hD hS => ?_)
    have hP : va_P D vwCl [((g 0), .inr (5, [.int 0, .ref (g 1), .int (nI (sv2 sv)), .ref (g 2), .ref (g 3), .int (nI ln), .int (nI at9), .int (nI pl), .int va, .long hs])), ((g 1), .inl (y 0, 4023, .inl (upd (svS S sv) (6 + q) x)))] H := hP
    have hD : va_D A [((g 0), .inr (5, [.int 0, .ref (g 1), .int (nI (sv2 sv)), .ref (g 2), .ref (g 3), .int (nI ln), .int (nI at9), .int (nI pl), .int va, .long hs])), ((g 1), .inl (y 0, 4023, .inl (upd (svS S sv) (6 + q) x)))] := hD
    obtain rfl : r_5 = S (6 + q) := hw_51
    refine lv_goto (tgt := 58) hx hb dX5_set_54 (by decide) ?_
    refine W.widen (k := 0) (n := 0) (by first | exact Nat.le_of_ble_eq_true rfl | omega) (by first | exact Nat.le_of_ble_eq_true rfl | omega) ?_
    exact W.iret (v := (S (6 + q))) hx hb hr (fun t ht hW => ⟨⟨S (6 + q), (), rfl, by first | rfl | trivial | simp_all, ⟨by rw [ht]; exact hP, hD⟩⟩, hS.F ht⟩) hS.2.2 dX5_set_58
  · replace c_19 : q = 0 := (nI_eq (a := q) (b := 0) (by omega) (by omega)).mp c_19
    rw [if_pos c_19] at hx1
    refine lv_bipush (v := 99) hx hb dX5_set_22 (by decide) ?_
    refine lv_goto (tgt := 28) hx hb dX5_set_24 (by decide) ?_
    refine zr_calli (va_runS (As := [.int x, .int 0, .int 99]) (rest := [.ref (g 0)]) ⟨hx, hb, hml, hown, hts⟩ (mX5_in l x 0 99) (va_cwS 3 hts (zgS tw_367 tw_368 tw_369 tw_364) rfl rfl rfl (by decide +kernel) ⟨Nat.le_of_ble_eq_true rfl, Nat.le_of_ble_eq_true rfl⟩) zP_pre rfl rfl hl.1 rfl (lv_room (Nat.le_of_ble_eq_true rfl)) dX5_set_28 ⟨Nat.zero_le _, Nat.zero_le _⟩) hS (fun r_7 H locs hw_28 hT hS => ?_)
    replace hP := hT _ _ hP
    obtain rfl : r_7 = (if ¬ x < 0 ∧ ¬ 99 < x then (1 : Int32) else 0) := hw_28
    refine lv_if_ne (tgt := 38) hx hb dX5_set_31 (by decide) (fun _ => ?_) (fun c_31 => absurd c_31 (zb1.mpr hx1))
    refine lv_iconst (v := 0) hx hb dX5_set_38 (by decide) ?_
    refine zw_calli (wr := [((g 1), .inl (y 0, 4023, .inl S))]) (w1 := (fun _ : Unit => [((g 0), .inr (5, [.int 0, .ref (g 1), .int (nI sv), .ref (g 2), .ref (g 3), .int (nI ln), .int (nI at9), .int (nI pl), .int va, .long hs]))])) hP hD hS hA [0] [1] rfl rfl (by decide +kernel) (by decide +kernel) (va_runV (As := [.int 0]) (rest := []) ⟨hx, hb, hml, hown, hts⟩ (mX5_holds l D y _ g th sv ln at9 pl va hs 0) (cwV 1 hts (zgV tw_431 tw_432 tw_433 tw_369 tw_365) rfl rfl rfl (by decide +kernel) ⟨Nat.le_of_ble_eq_true rfl, Nat.le_of_ble_eq_true rfl⟩) (zRW_preV hKN hP hD (ci := 5) (q0 := 0) rfl rfl [0] rfl (by decide)) rfl rfl hl.1 rfl (lv_room (Nat.le_of_ble_eq_true rfl)) dX5_set_39 ⟨Nat.zero_le _, Nat.zero_le _⟩) (fun r_8 u_9 H locs hw_39 hP hD hS => ?_)
    have hP : va_P D vwCl [((g 1), .inl (y 0, 4023, .inl S)), ((g 0), .inr (5, [.int 0, .ref (g 1), .int (nI sv), .ref (g 2), .ref (g 3), .int (nI ln), .int (nI at9), .int (nI pl), .int va, .long hs]))] H := hP
    have hD : va_D A [((g 1), .inl (y 0, 4023, .inl S)), ((g 0), .inr (5, [.int 0, .ref (g 1), .int (nI sv), .ref (g 2), .ref (g 3), .int (nI ln), .int (nI at9), .int (nI pl), .int va, .long hs]))] := hD
    obtain rfl : r_8 = 1 := hw_39
    refine lv_if_eq (tgt := 57) hx hb dX5_set_42 (by decide) (fun c_42 => absurd c_42 (by decide)) (fun _ => ?_)
    refine lv_aload_n hx hb dX5_set_45 rfl (lv_at hl 1 rfl) ?_
    refine lv_bipush (v := 6) hx hb dX5_set_46 (by decide) ?_
    refine lv_iload_n hx hb dX5_set_48 rfl (lv_at hl 2 rfl) ?_
    refine lv_iadd hx hb dX5_set_49 ?_
    refine zz_top (y := nI (6 + q)) (nI_add 6 q) ?_
    refine lv_iload_n hx hb dX5_set_50 rfl (lv_at hl 3 rfl) ?_
    refine zw_calli (wr := []) (w1 := (fun _ : Unit => [((g 0), .inr (5, [.int 0, .ref (g 1), .int (nI (sv2 sv)), .ref (g 2), .ref (g 3), .int (nI ln), .int (nI at9), .int (nI pl), .int va, .long hs])), ((g 1), .inl (y 0, 4023, .inl (upd (svS S sv) (6 + q) x)))])) hP hD hS hA [1, 0] [] rfl rfl (by decide +kernel) (by decide +kernel) (va_runV (As := [.int (nI (6 + q)), .int x]) (rest := []) ⟨hx, hb, hml, hown, hts⟩ (mX5_changed l D y _ g S 0 sv ln at9 pl va hs (6 + q) x (by first | assumption | rfl | omega | decide) (by first | assumption | rfl | omega | decide)) (cwV 2 hts (zgV tw_434 tw_435 tw_436 tw_369 tw_422) rfl rfl rfl (by decide +kernel) ⟨Nat.le_of_ble_eq_true rfl, Nat.le_of_ble_eq_true rfl⟩) (zRW_preV hKN hP hD (ci := 5) (q0 := 1) rfl rfl [1, 0] rfl (by decide)) rfl rfl hl.1 rfl (lv_room (Nat.le_of_ble_eq_true rfl)) dX5_set_51 ⟨Nat.zero_le _, Nat.zero_le _⟩) (fun r_10 u_11 H locs hw_51 hP hD hS => ?_)
    have hP : va_P D vwCl [((g 0), .inr (5, [.int 0, .ref (g 1), .int (nI (sv2 sv)), .ref (g 2), .ref (g 3), .int (nI ln), .int (nI at9), .int (nI pl), .int va, .long hs])), ((g 1), .inl (y 0, 4023, .inl (upd (svS S sv) (6 + q) x)))] H := hP
    have hD : va_D A [((g 0), .inr (5, [.int 0, .ref (g 1), .int (nI (sv2 sv)), .ref (g 2), .ref (g 3), .int (nI ln), .int (nI at9), .int (nI pl), .int va, .long hs])), ((g 1), .inl (y 0, 4023, .inl (upd (svS S sv) (6 + q) x)))] := hD
    obtain rfl : r_10 = S (6 + q) := hw_51
    refine lv_goto (tgt := 58) hx hb dX5_set_54 (by decide) ?_
    refine W.widen (k := 0) (n := 0) (by first | exact Nat.le_of_ble_eq_true rfl | omega) (by first | exact Nat.le_of_ble_eq_true rfl | omega) ?_
    exact W.iret (v := (S (6 + q))) hx hb hr (fun t ht hW => ⟨⟨S (6 + q), (), rfl, by first | rfl | trivial | simp_all, ⟨by rw [ht]; exact hP, hD⟩⟩, hS.F ht⟩) hS.2.2 dX5_set_58

set_option maxHeartbeats 4000000 in
set_option maxRecDepth 100000 in
theorem mX5_set_b1 (l : Launch) (D : va_G) (y : Nat → ClassId) (sz : Nat) (g : Nat → Nat) (th : Int32) (sv : Nat) (ln : Nat) (at9 : Nat) (pl : Nat) (va : Int32) (hs : Int64) (v : Int32) (x : Int32) (hb1 : ¬ (¬ v < 0 ∧ ¬ 2 < v)) : Met l yX5_set (ws_ yX5_set cX5_set 4 (some .int)) ({ frames := 1, cells := 0, slots := 0, locals := 22 }) (va_Pc [.ref (g 0), .int v, .int x] (zRW D y [((g 0), .inr (5, [.int th, .ref (g 1), .int (nI sv), .ref (g 2), .ref (g 3), .int (nI ln), .int (nI at9), .int (nI pl), .int va, .long hs]))] sz)) (va_Qi (fun (r : Int32) (_ : Unit) => r = 0) (fun (_ : Unit) t => zOut D (va_A [((g 0), .inr (5, [.int th, .ref (g 1), .int (nI sv), .ref (g 2), .ref (g 3), .int (nI ln), .int (nI at9), .int (nI pl), .int va, .long hs]))] sz) [((g 0), .inr (5, [.int 1, .ref (g 1), .int (nI sv), .ref (g 2), .ref (g 3), .int (nI ln), .int (nI at9), .int (nI pl), .int va, .long hs]))] t) (va_A [((g 0), .inr (5, [.int th, .ref (g 1), .int (nI sv), .ref (g 2), .ref (g 3), .int (nI ln), .int (nI at9), .int (nI pl), .int va, .long hs]))] sz)) 0 0 (va_A [((g 0), .inr (5, [.int th, .ref (g 1), .int (nI sv), .ref (g 2), .ref (g 3), .int (nI ln), .int (nI at9), .int (nI pl), .int va, .long hs]))] sz) := by
  refine Met.ofW (cc := cX5_set) (maxL := 4) (ret := (some .int)) (by decide) rfl ?_
  intro p e s m args below meth c s₁ B hml hpre9
  obtain ⟨rfl, hsz, hP, hKN, hD0⟩ := hpre9
  have hK := hKN.1
  have hx := B.exec
  have hb := B.bytes
  have hr := B.returns
  have hts := atoms_spec (ws := (ws_ yX5_set cX5_set 4 (some .int))) B.pre
  have htg : ∀ w ∈ gT, w.before _ s = true := fun w h => hts w (List.mem_cons_of_mem _ h)
  have hown : s.vm.findClass RX5 = some m.cls := findClass_of_methodNamed B.named
  have hlocks := B.notSynchronized
  subst hsz
  have hD := hD0.self (sz := s.heap.size)
  clear hD0
  generalize hAe : va_A [((g 0), .inr (5, [.int th, .ref (g 1), .int (nI sv), .ref (g 2), .ref (g 3), .int (nI ln), .int (nI at9), .int (nI pl), .int va, .long hs]))] s.heap.size = A at hD ⊢
  have hA : ∀ q : Nat, s.heap.size ≤ q → A q := fun q h => by rw [← hAe]; exact Or.inr h
  have hS : va_S A s.heap s.heap [] := va_S.rf
  have hP : va_P D vwCl [((g 0), .inr (5, [.int th, .ref (g 1), .int (nI sv), .ref (g 2), .ref (g 3), .int (nI ln), .int (nI at9), .int (nI pl), .int va, .long hs]))] s.heap := hP
  have hl := lv_entry ([.ref (g 0), .int v, .int x]) (n := 4) (Nat.le_of_ble_eq_true rfl)
  rw [lg_entry_eq]
  generalize (lg_sl ([.ref (g 0), .int v, .int x]) ++ List.replicate (4 - (lg_sl ([.ref (g 0), .int v, .int x])).length) Slot.unset).toArray = ls at hl ⊢
  have hl : lv_has ls 4 [(0, .ref (g 0)), (1, .int v), (2, .int x)] := hl
  refine lv_iload_n hx hb dX5_set_0 rfl (lv_at hl 1 rfl) ?_
  refine lv_iconst (v := 0) hx hb dX5_set_1 (by decide) ?_
  refine lv_iconst (v := 2) hx hb dX5_set_2 (by decide) ?_
  refine zr_calli (va_runS (As := [.int v, .int 0, .int 2]) (rest := []) ⟨hx, hb, hml, hown, hts⟩ (mX5_in l v 0 2) (va_cwS 3 hts (zgS tw_367 tw_368 tw_369 tw_364) rfl rfl rfl (by decide +kernel) ⟨Nat.le_of_ble_eq_true rfl, Nat.le_of_ble_eq_true rfl⟩) zP_pre rfl rfl hl.1 rfl (lv_room (Nat.le_of_ble_eq_true rfl)) dX5_set_3 ⟨Nat.zero_le _, Nat.zero_le _⟩) hS (fun r_1 H locs hw_3 hT hS => ?_)
  replace hP := hT _ _ hP
  obtain rfl : r_1 = (if ¬ v < 0 ∧ ¬ 2 < v then (1 : Int32) else 0) := hw_3
  refine lv_istore_n (lv' := [(3, .int (if ¬ v < 0 ∧ ¬ 2 < v then (1 : Int32) else 0)), (0, .ref (g 0)), (1, .int v), (2, .int x)]) hx hb dX5_set_6 rfl hl (by decide) rfl (fun ls hl => ?_)
  refine lv_aload_n hx hb dX5_set_7 rfl (lv_at hl 1 rfl) ?_
  refine lv_iload_n hx hb dX5_set_8 rfl (lv_at hl 0 rfl) ?_
  refine lv_if_ne (tgt := 16) hx hb dX5_set_9 (by decide) (fun c_9 => absurd (zb0.mpr hb1) c_9) (fun _ => ?_)
  refine lv_iconst (v := 1) hx hb dX5_set_12 (by decide) ?_
  refine lv_goto (tgt := 39) hx hb dX5_set_13 (by decide) ?_
  refine zw_calli (wr := []) (w1 := (fun _ : Unit => [((g 0), .inr (5, [.int 1, .ref (g 1), .int (nI sv), .ref (g 2), .ref (g 3), .int (nI ln), .int (nI at9), .int (nI pl), .int va, .long hs]))])) hP hD hS hA [0] [] rfl rfl (by decide +kernel) (by decide +kernel) (va_runV (As := [.int 1]) (rest := []) ⟨hx, hb, hml, hown, hts⟩ (mX5_holds l D y _ g th sv ln at9 pl va hs 1) (cwV 1 hts (zgV tw_431 tw_432 tw_433 tw_369 tw_365) rfl rfl rfl (by decide +kernel) ⟨Nat.le_of_ble_eq_true rfl, Nat.le_of_ble_eq_true rfl⟩) (zRW_preV hKN hP hD (ci := 5) (q0 := 0) rfl rfl [0] rfl (by decide)) rfl rfl hl.1 rfl (lv_room (Nat.le_of_ble_eq_true rfl)) dX5_set_39 ⟨Nat.zero_le _, Nat.zero_le _⟩) (fun r_2 u_3 H locs hw_39 hP hD hS => ?_)
  have hP : va_P D vwCl [((g 0), .inr (5, [.int 1, .ref (g 1), .int (nI sv), .ref (g 2), .ref (g 3), .int (nI ln), .int (nI at9), .int (nI pl), .int va, .long hs]))] H := hP
  have hD : va_D A [((g 0), .inr (5, [.int 1, .ref (g 1), .int (nI sv), .ref (g 2), .ref (g 3), .int (nI ln), .int (nI at9), .int (nI pl), .int va, .long hs]))] := hD
  obtain rfl : r_2 = 0 := hw_39
  refine lv_if_eq (tgt := 57) hx hb dX5_set_42 (by decide) (fun _ => ?_) (fun c_42 => absurd (by decide) c_42)
  refine lv_iconst (v := 0) hx hb dX5_set_57 (by decide) ?_
  refine W.widen (k := 0) (n := 0) (by first | exact Nat.le_of_ble_eq_true rfl | omega) (by first | exact Nat.le_of_ble_eq_true rfl | omega) ?_
  exact W.iret (v := 0) hx hb hr (fun t ht hW => ⟨⟨0, (), rfl, by first | rfl | trivial | simp_all, ⟨by rw [ht]; exact hP, hD⟩⟩, hS.F ht⟩) hS.2.2 dX5_set_58

set_option maxHeartbeats 4000000 in
set_option maxRecDepth 100000 in
theorem mX5_set_b2 (l : Launch) (D : va_G) (y : Nat → ClassId) (sz : Nat) (g : Nat → Nat) (th : Int32) (sv : Nat) (ln : Nat) (at9 : Nat) (pl : Nat) (va : Int32) (hs : Int64) (v : Int32) (x : Int32) (h1 : ¬ v < 0 ∧ ¬ 2 < v) (hb1 : ¬ (¬ x < 0 ∧ ¬ (if v = 0 then (99 : Int32) else 1) < x)) : Met l yX5_set (ws_ yX5_set cX5_set 4 (some .int)) ({ frames := 1, cells := 0, slots := 0, locals := 22 }) (va_Pc [.ref (g 0), .int v, .int x] (zRW D y [((g 0), .inr (5, [.int th, .ref (g 1), .int (nI sv), .ref (g 2), .ref (g 3), .int (nI ln), .int (nI at9), .int (nI pl), .int va, .long hs]))] sz)) (va_Qi (fun (r : Int32) (_ : Unit) => r = 0) (fun (_ : Unit) t => zOut D (va_A [((g 0), .inr (5, [.int th, .ref (g 1), .int (nI sv), .ref (g 2), .ref (g 3), .int (nI ln), .int (nI at9), .int (nI pl), .int va, .long hs]))] sz) [((g 0), .inr (5, [.int 2, .ref (g 1), .int (nI sv), .ref (g 2), .ref (g 3), .int (nI ln), .int (nI at9), .int (nI pl), .int va, .long hs]))] t) (va_A [((g 0), .inr (5, [.int th, .ref (g 1), .int (nI sv), .ref (g 2), .ref (g 3), .int (nI ln), .int (nI at9), .int (nI pl), .int va, .long hs]))] sz)) 0 0 (va_A [((g 0), .inr (5, [.int th, .ref (g 1), .int (nI sv), .ref (g 2), .ref (g 3), .int (nI ln), .int (nI at9), .int (nI pl), .int va, .long hs]))] sz) := by
  refine Met.ofW (cc := cX5_set) (maxL := 4) (ret := (some .int)) (by decide) rfl ?_
  intro p e s m args below meth c s₁ B hml hpre9
  obtain ⟨rfl, hsz, hP, hKN, hD0⟩ := hpre9
  have hK := hKN.1
  have hx := B.exec
  have hb := B.bytes
  have hr := B.returns
  have hts := atoms_spec (ws := (ws_ yX5_set cX5_set 4 (some .int))) B.pre
  have htg : ∀ w ∈ gT, w.before _ s = true := fun w h => hts w (List.mem_cons_of_mem _ h)
  have hown : s.vm.findClass RX5 = some m.cls := findClass_of_methodNamed B.named
  have hlocks := B.notSynchronized
  subst hsz
  have hD := hD0.self (sz := s.heap.size)
  clear hD0
  generalize hAe : va_A [((g 0), .inr (5, [.int th, .ref (g 1), .int (nI sv), .ref (g 2), .ref (g 3), .int (nI ln), .int (nI at9), .int (nI pl), .int va, .long hs]))] s.heap.size = A at hD ⊢
  have hA : ∀ q : Nat, s.heap.size ≤ q → A q := fun q h => by rw [← hAe]; exact Or.inr h
  have hS : va_S A s.heap s.heap [] := va_S.rf
  have hP : va_P D vwCl [((g 0), .inr (5, [.int th, .ref (g 1), .int (nI sv), .ref (g 2), .ref (g 3), .int (nI ln), .int (nI at9), .int (nI pl), .int va, .long hs]))] s.heap := hP
  have hl := lv_entry ([.ref (g 0), .int v, .int x]) (n := 4) (Nat.le_of_ble_eq_true rfl)
  rw [lg_entry_eq]
  generalize (lg_sl ([.ref (g 0), .int v, .int x]) ++ List.replicate (4 - (lg_sl ([.ref (g 0), .int v, .int x])).length) Slot.unset).toArray = ls at hl ⊢
  have hl : lv_has ls 4 [(0, .ref (g 0)), (1, .int v), (2, .int x)] := hl
  refine lv_iload_n hx hb dX5_set_0 rfl (lv_at hl 1 rfl) ?_
  refine lv_iconst (v := 0) hx hb dX5_set_1 (by decide) ?_
  refine lv_iconst (v := 2) hx hb dX5_set_2 (by decide) ?_
  refine zr_calli (va_runS (As := [.int v, .int 0, .int 2]) (rest := []) ⟨hx, hb, hml, hown, hts⟩ (mX5_in l v 0 2) (va_cwS 3 hts (zgS tw_367 tw_368 tw_369 tw_364) rfl rfl rfl (by decide +kernel) ⟨Nat.le_of_ble_eq_true rfl, Nat.le_of_ble_eq_true rfl⟩) zP_pre rfl rfl hl.1 rfl (lv_room (Nat.le_of_ble_eq_true rfl)) dX5_set_3 ⟨Nat.zero_le _, Nat.zero_le _⟩) hS (fun r_1 H locs hw_3 hT hS => ?_)
  replace hP := hT _ _ hP
  obtain rfl : r_1 = (if ¬ v < 0 ∧ ¬ 2 < v then (1 : Int32) else 0) := hw_3
  refine lv_istore_n (lv' := [(3, .int (if ¬ v < 0 ∧ ¬ 2 < v then (1 : Int32) else 0)), (0, .ref (g 0)), (1, .int v), (2, .int x)]) hx hb dX5_set_6 rfl hl (by decide) rfl (fun ls hl => ?_)
  refine lv_aload_n hx hb dX5_set_7 rfl (lv_at hl 1 rfl) ?_
  refine lv_iload_n hx hb dX5_set_8 rfl (lv_at hl 0 rfl) ?_
  refine lv_if_ne (tgt := 16) hx hb dX5_set_9 (by decide) (fun _ => ?_) (fun c_9 => absurd c_9 (zb1.mpr h1))
  refine lv_iload_n hx hb dX5_set_16 rfl (lv_at hl 3 rfl) ?_
  refine lv_iconst (v := 0) hx hb dX5_set_17 (by decide) ?_
  refine lv_iload_n hx hb dX5_set_18 rfl (lv_at hl 2 rfl) ?_
  refine lv_if_ne (tgt := 27) hx hb dX5_set_19 (by decide) (fun c_19 => ?_) (fun c_19 => ?_)
  · rw [if_neg c_19] at hb1
    refine lv_iconst (v := 1) hx hb dX5_set_27 (by decide) ?_
    refine zr_calli (va_runS (As := [.int x, .int 0, .int 1]) (rest := [.ref (g 0)]) ⟨hx, hb, hml, hown, hts⟩ (mX5_in l x 0 1) (va_cwS 3 hts (zgS tw_367 tw_368 tw_369 tw_364) rfl rfl rfl (by decide +kernel) ⟨Nat.le_of_ble_eq_true rfl, Nat.le_of_ble_eq_true rfl⟩) zP_pre rfl rfl hl.1 rfl (lv_room (Nat.le_of_ble_eq_true rfl)) dX5_set_28 ⟨Nat.zero_le _, Nat.zero_le _⟩) hS (fun r_2 H locs hw_28 hT hS => ?_)
    replace hP := hT _ _ hP
    obtain rfl : r_2 = (if ¬ x < 0 ∧ ¬ 1 < x then (1 : Int32) else 0) := hw_28
    refine lv_if_ne (tgt := 38) hx hb dX5_set_31 (by decide) (fun c_31 => absurd (zb0.mpr hb1) c_31) (fun _ => ?_)
    refine lv_iconst (v := 2) hx hb dX5_set_34 (by decide) ?_
    refine lv_goto (tgt := 39) hx hb dX5_set_35 (by decide) ?_
    refine zw_calli (wr := []) (w1 := (fun _ : Unit => [((g 0), .inr (5, [.int 2, .ref (g 1), .int (nI sv), .ref (g 2), .ref (g 3), .int (nI ln), .int (nI at9), .int (nI pl), .int va, .long hs]))])) hP hD hS hA [0] [] rfl rfl (by decide +kernel) (by decide +kernel) (va_runV (As := [.int 2]) (rest := []) ⟨hx, hb, hml, hown, hts⟩ (mX5_holds l D y _ g th sv ln at9 pl va hs 2) (cwV 1 hts (zgV tw_431 tw_432 tw_433 tw_369 tw_365) rfl rfl rfl (by decide +kernel) ⟨Nat.le_of_ble_eq_true rfl, Nat.le_of_ble_eq_true rfl⟩) (zRW_preV hKN hP hD (ci := 5) (q0 := 0) rfl rfl [0] rfl (by decide)) rfl rfl hl.1 rfl (lv_room (Nat.le_of_ble_eq_true rfl)) dX5_set_39 ⟨Nat.zero_le _, Nat.zero_le _⟩) (fun r_3 u_4 H locs hw_39 hP hD hS => ?_)
    have hP : va_P D vwCl [((g 0), .inr (5, [.int 2, .ref (g 1), .int (nI sv), .ref (g 2), .ref (g 3), .int (nI ln), .int (nI at9), .int (nI pl), .int va, .long hs]))] H := hP
    have hD : va_D A [((g 0), .inr (5, [.int 2, .ref (g 1), .int (nI sv), .ref (g 2), .ref (g 3), .int (nI ln), .int (nI at9), .int (nI pl), .int va, .long hs]))] := hD
    obtain rfl : r_3 = 0 := hw_39
    refine lv_if_eq (tgt := 57) hx hb dX5_set_42 (by decide) (fun _ => ?_) (fun c_42 => absurd (by decide) c_42)
    refine lv_iconst (v := 0) hx hb dX5_set_57 (by decide) ?_
    refine W.widen (k := 0) (n := 0) (by first | exact Nat.le_of_ble_eq_true rfl | omega) (by first | exact Nat.le_of_ble_eq_true rfl | omega) ?_
    exact W.iret (v := 0) hx hb hr (fun t ht hW => ⟨⟨0, (), rfl, by first | rfl | trivial | simp_all, ⟨by rw [ht]; exact hP, hD⟩⟩, hS.F ht⟩) hS.2.2 dX5_set_58
  · rw [if_pos c_19] at hb1
    refine lv_bipush (v := 99) hx hb dX5_set_22 (by decide) ?_
    refine lv_goto (tgt := 28) hx hb dX5_set_24 (by decide) ?_
    refine zr_calli (va_runS (As := [.int x, .int 0, .int 99]) (rest := [.ref (g 0)]) ⟨hx, hb, hml, hown, hts⟩ (mX5_in l x 0 99) (va_cwS 3 hts (zgS tw_367 tw_368 tw_369 tw_364) rfl rfl rfl (by decide +kernel) ⟨Nat.le_of_ble_eq_true rfl, Nat.le_of_ble_eq_true rfl⟩) zP_pre rfl rfl hl.1 rfl (lv_room (Nat.le_of_ble_eq_true rfl)) dX5_set_28 ⟨Nat.zero_le _, Nat.zero_le _⟩) hS (fun r_5 H locs hw_28 hT hS => ?_)
    replace hP := hT _ _ hP
    obtain rfl : r_5 = (if ¬ x < 0 ∧ ¬ 99 < x then (1 : Int32) else 0) := hw_28
    refine lv_if_ne (tgt := 38) hx hb dX5_set_31 (by decide) (fun c_31 => absurd (zb0.mpr hb1) c_31) (fun _ => ?_)
    refine lv_iconst (v := 2) hx hb dX5_set_34 (by decide) ?_
    refine lv_goto (tgt := 39) hx hb dX5_set_35 (by decide) ?_
    refine zw_calli (wr := []) (w1 := (fun _ : Unit => [((g 0), .inr (5, [.int 2, .ref (g 1), .int (nI sv), .ref (g 2), .ref (g 3), .int (nI ln), .int (nI at9), .int (nI pl), .int va, .long hs]))])) hP hD hS hA [0] [] rfl rfl (by decide +kernel) (by decide +kernel) (va_runV (As := [.int 2]) (rest := []) ⟨hx, hb, hml, hown, hts⟩ (mX5_holds l D y _ g th sv ln at9 pl va hs 2) (cwV 1 hts (zgV tw_431 tw_432 tw_433 tw_369 tw_365) rfl rfl rfl (by decide +kernel) ⟨Nat.le_of_ble_eq_true rfl, Nat.le_of_ble_eq_true rfl⟩) (zRW_preV hKN hP hD (ci := 5) (q0 := 0) rfl rfl [0] rfl (by decide)) rfl rfl hl.1 rfl (lv_room (Nat.le_of_ble_eq_true rfl)) dX5_set_39 ⟨Nat.zero_le _, Nat.zero_le _⟩) (fun r_6 u_7 H locs hw_39 hP hD hS => ?_)
    have hP : va_P D vwCl [((g 0), .inr (5, [.int 2, .ref (g 1), .int (nI sv), .ref (g 2), .ref (g 3), .int (nI ln), .int (nI at9), .int (nI pl), .int va, .long hs]))] H := hP
    have hD : va_D A [((g 0), .inr (5, [.int 2, .ref (g 1), .int (nI sv), .ref (g 2), .ref (g 3), .int (nI ln), .int (nI at9), .int (nI pl), .int va, .long hs]))] := hD
    obtain rfl : r_6 = 0 := hw_39
    refine lv_if_eq (tgt := 57) hx hb dX5_set_42 (by decide) (fun _ => ?_) (fun c_42 => absurd (by decide) c_42)
    refine lv_iconst (v := 0) hx hb dX5_set_57 (by decide) ?_
    refine W.widen (k := 0) (n := 0) (by first | exact Nat.le_of_ble_eq_true rfl | omega) (by first | exact Nat.le_of_ble_eq_true rfl | omega) ?_
    exact W.iret (v := 0) hx hb hr (fun t ht hW => ⟨⟨0, (), rfl, by first | rfl | trivial | simp_all, ⟨by rw [ht]; exact hP, hD⟩⟩, hS.F ht⟩) hS.2.2 dX5_set_58

set_option maxHeartbeats 4000000 in
set_option maxRecDepth 100000 in
theorem mX5_pass (l : Launch) (D : va_G) (y : Nat → ClassId) (sz : Nat) (g : Nat → Nat) (S : (Nat → Int32)) (th : Int32) (sv : Nat) (ln : Nat) (at9 : Nat) (pl : Nat) (va : Int32) (hs : Int64) (x : Int32) (hv : sv ≤ 6) (hx1 : ¬ x < 1 ∧ ¬ 99 < x) (hd : ¬ 9999 < S 0 + x) : Met l yX5_pass (ws_ yX5_pass cX5_pass 2 (some .int)) ({ frames := 3, cells := 0, slots := 0, locals := 67 }) (va_Pc [.ref (g 0), .int x] (zRW D y [((g 0), .inr (5, [.int th, .ref (g 1), .int (nI sv), .ref (g 2), .ref (g 3), .int (nI ln), .int (nI at9), .int (nI pl), .int va, .long hs])), ((g 1), .inl (y 0, 4023, .inl S))] sz)) (va_Qi (fun (r : Int32) (_ : Unit) => r = S 0 + x) (fun (_ : Unit) t => zOut D (va_A [((g 0), .inr (5, [.int th, .ref (g 1), .int (nI sv), .ref (g 2), .ref (g 3), .int (nI ln), .int (nI at9), .int (nI pl), .int va, .long hs])), ((g 1), .inl (y 0, 4023, .inl S))] sz) [((g 0), .inr (5, [.int 0, .ref (g 1), .int (nI (sv2 sv)), .ref (g 2), .ref (g 3), .int (nI ln), .int (nI at9), .int (nI pl), .int va, .long hs])), ((g 1), .inl (y 0, 4023, .inl (upd (svS S sv) 0 (S 0 + x))))] t) (va_A [((g 0), .inr (5, [.int th, .ref (g 1), .int (nI sv), .ref (g 2), .ref (g 3), .int (nI ln), .int (nI at9), .int (nI pl), .int va, .long hs])), ((g 1), .inl (y 0, 4023, .inl S))] sz)) 0 0 (va_A [((g 0), .inr (5, [.int th, .ref (g 1), .int (nI sv), .ref (g 2), .ref (g 3), .int (nI ln), .int (nI at9), .int (nI pl), .int va, .long hs])), ((g 1), .inl (y 0, 4023, .inl S))] sz) := by
  refine Met.ofW (cc := cX5_pass) (maxL := 2) (ret := (some .int)) (by decide) rfl ?_
  intro p e s m args below meth c s₁ B hml hpre9
  obtain ⟨rfl, hsz, hP, hKN, hD0⟩ := hpre9
  have hK := hKN.1
  have hx := B.exec
  have hb := B.bytes
  have hr := B.returns
  have hts := atoms_spec (ws := (ws_ yX5_pass cX5_pass 2 (some .int))) B.pre
  have htg : ∀ w ∈ gT, w.before _ s = true := fun w h => hts w (List.mem_cons_of_mem _ h)
  have hown : s.vm.findClass RX5 = some m.cls := findClass_of_methodNamed B.named
  have hlocks := B.notSynchronized
  subst hsz
  have hD := hD0.self (sz := s.heap.size)
  clear hD0
  generalize hAe : va_A [((g 0), .inr (5, [.int th, .ref (g 1), .int (nI sv), .ref (g 2), .ref (g 3), .int (nI ln), .int (nI at9), .int (nI pl), .int va, .long hs])), ((g 1), .inl (y 0, 4023, .inl S))] s.heap.size = A at hD ⊢
  have hA : ∀ q : Nat, s.heap.size ≤ q → A q := fun q h => by rw [← hAe]; exact Or.inr h
  have hS : va_S A s.heap s.heap [] := va_S.rf
  have hP : va_P D vwCl [((g 0), .inr (5, [.int th, .ref (g 1), .int (nI sv), .ref (g 2), .ref (g 3), .int (nI ln), .int (nI at9), .int (nI pl), .int va, .long hs])), ((g 1), .inl (y 0, 4023, .inl S))] s.heap := hP
  have hl := lv_entry ([.ref (g 0), .int x]) (n := 2) (Nat.le_of_ble_eq_true rfl)
  rw [lg_entry_eq]
  generalize (lg_sl ([.ref (g 0), .int x]) ++ List.replicate (2 - (lg_sl ([.ref (g 0), .int x])).length) Slot.unset).toArray = ls at hl ⊢
  have hl : lv_has ls 2 [(0, .ref (g 0)), (1, .int x)] := hl
  refine lv_aload_n hx hb dX5_pass_0 rfl (lv_at hl 0 rfl) ?_
  refine lv_iload_n hx hb dX5_pass_1 rfl (lv_at hl 1 rfl) ?_
  refine lv_iconst (v := 1) hx hb dX5_pass_2 (by decide) ?_
  refine lv_bipush (v := 99) hx hb dX5_pass_3 (by decide) ?_
  refine zr_calli (va_runS (As := [.int x, .int 1, .int 99]) (rest := [.ref (g 0)]) ⟨hx, hb, hml, hown, hts⟩ (mX5_in l x 1 99) (va_cwS 3 hts (zgS tw_367 tw_368 tw_369 tw_364) rfl rfl rfl (by decide +kernel) ⟨Nat.le_of_ble_eq_true rfl, Nat.le_of_ble_eq_true rfl⟩) zP_pre rfl rfl hl.1 rfl (lv_room (Nat.le_of_ble_eq_true rfl)) dX5_pass_5 ⟨Nat.zero_le _, Nat.zero_le _⟩) hS (fun r_1 H locs hw_5 hT hS => ?_)
  replace hP := hT _ _ hP
  obtain rfl : r_1 = (if ¬ x < 1 ∧ ¬ 99 < x then (1 : Int32) else 0) := hw_5
  refine lv_if_ne (tgt := 15) hx hb dX5_pass_8 (by decide) (fun _ => ?_) (fun c_8 => absurd c_8 (zb1.mpr hx1))
  refine lv_aload_n hx hb dX5_pass_15 rfl (lv_at hl 0 rfl) ?_
  refine va_get (D := D) (ci := 5) (v := .ref (g 1)) (C := RX5) (T := TX5) (N := 10) hx hb htg iX5 hown hK hP 0 rfl rfl 1 (by decide) (htg _ tw_359) (fun _ h9 => h9) rfl dX5_pass_16 ?_
  refine lv_iconst (v := 0) hx hb dX5_pass_19 (by decide) ?_
  refine va_iald hx hb hK hP 1 0 rfl rfl (vp_in_nI (n := 0) (by decide) (by decide)) dX5_pass_20 ?_
  refine zz_top (y := S 0) (congrArg S (by decide)) ?_
  refine lv_iload_n hx hb dX5_pass_21 rfl (lv_at hl 1 rfl) ?_
  refine lv_iadd hx hb dX5_pass_22 ?_
  refine lv_sipush (v := 9999) hx hb dX5_pass_23 (by decide) ?_
  refine lv_icmp_le (tgt := 33) hx hb dX5_pass_26 (by decide) (fun _ => ?_) (fun c_26 => absurd (Int32.not_lt.mp hd) c_26)
  refine lv_iconst (v := 0) hx hb dX5_pass_33 (by decide) ?_
  refine zw_calli (wr := [((g 1), .inl (y 0, 4023, .inl S))]) (w1 := (fun _ : Unit => [((g 0), .inr (5, [.int 0, .ref (g 1), .int (nI sv), .ref (g 2), .ref (g 3), .int (nI ln), .int (nI at9), .int (nI pl), .int va, .long hs]))])) hP hD hS hA [0] [1] rfl rfl (by decide +kernel) (by decide +kernel) (va_runV (As := [.int 0]) (rest := []) ⟨hx, hb, hml, hown, hts⟩ (mX5_holds l D y _ g th sv ln at9 pl va hs 0) (cwV 1 hts (zgV tw_431 tw_432 tw_433 tw_369 tw_365) rfl rfl rfl (by decide +kernel) ⟨Nat.le_of_ble_eq_true rfl, Nat.le_of_ble_eq_true rfl⟩) (zRW_preV hKN hP hD (ci := 5) (q0 := 0) rfl rfl [0] rfl (by decide)) rfl rfl hl.1 rfl (lv_room (Nat.le_of_ble_eq_true rfl)) dX5_pass_34 ⟨Nat.zero_le _, Nat.zero_le _⟩) (fun r_2 u_3 H locs hw_34 hP hD hS => ?_)
  have hP : va_P D vwCl [((g 1), .inl (y 0, 4023, .inl S)), ((g 0), .inr (5, [.int 0, .ref (g 1), .int (nI sv), .ref (g 2), .ref (g 3), .int (nI ln), .int (nI at9), .int (nI pl), .int va, .long hs]))] H := hP
  have hD : va_D A [((g 1), .inl (y 0, 4023, .inl S)), ((g 0), .inr (5, [.int 0, .ref (g 1), .int (nI sv), .ref (g 2), .ref (g 3), .int (nI ln), .int (nI at9), .int (nI pl), .int va, .long hs]))] := hD
  obtain rfl : r_2 = 1 := hw_34
  refine lv_if_ne (tgt := 42) hx hb dX5_pass_37 (by decide) (fun _ => ?_) (fun c_37 => absurd c_37 (by decide))
  refine lv_aload_n hx hb dX5_pass_42 rfl (lv_at hl 0 rfl) ?_
  refine lv_iconst (v := 0) hx hb dX5_pass_43 (by decide) ?_
  refine lv_aload_n hx hb dX5_pass_44 rfl (lv_at hl 0 rfl) ?_
  refine va_get (D := D) (ci := 5) (v := .ref (g 1)) (C := RX5) (T := TX5) (N := 10) hx hb htg iX5 hown hK hP 1 rfl rfl 1 (by decide) (htg _ tw_359) (fun _ h9 => h9) rfl dX5_pass_45 ?_
  refine lv_iconst (v := 0) hx hb dX5_pass_48 (by decide) ?_
  refine va_iald hx hb hK hP 0 0 rfl rfl (vp_in_nI (n := 0) (by decide) (by decide)) dX5_pass_49 ?_
  refine zz_top (y := S 0) (congrArg S (by decide)) ?_
  refine lv_iload_n hx hb dX5_pass_50 rfl (lv_at hl 1 rfl) ?_
  refine lv_iadd hx hb dX5_pass_51 ?_
  refine zw_calli (wr := []) (w1 := (fun _ : Unit => [((g 0), .inr (5, [.int 0, .ref (g 1), .int (nI (sv2 sv)), .ref (g 2), .ref (g 3), .int (nI ln), .int (nI at9), .int (nI pl), .int va, .long hs])), ((g 1), .inl (y 0, 4023, .inl (upd (svS S sv) 0 ((S 0) + x))))])) hP hD hS hA [1, 0] [] rfl rfl (by decide +kernel) (by decide +kernel) (va_runV (As := [.int 0, .int ((S 0) + x)]) (rest := []) ⟨hx, hb, hml, hown, hts⟩ (mX5_changed l D y _ g S 0 sv ln at9 pl va hs 0 ((S 0) + x) (by first | assumption | rfl | omega | decide) (by first | assumption | rfl | omega | decide)) (cwV 2 hts (zgV tw_434 tw_435 tw_436 tw_369 tw_422) rfl rfl rfl (by decide +kernel) ⟨Nat.le_of_ble_eq_true rfl, Nat.le_of_ble_eq_true rfl⟩) (zRW_preV hKN hP hD (ci := 5) (q0 := 1) rfl rfl [1, 0] rfl (by decide)) rfl rfl hl.1 rfl (lv_room (Nat.le_of_ble_eq_true rfl)) dX5_pass_52 ⟨Nat.zero_le _, Nat.zero_le _⟩) (fun r_4 u_5 H locs hw_52 hP hD hS => ?_)
  have hP : va_P D vwCl [((g 0), .inr (5, [.int 0, .ref (g 1), .int (nI (sv2 sv)), .ref (g 2), .ref (g 3), .int (nI ln), .int (nI at9), .int (nI pl), .int va, .long hs])), ((g 1), .inl (y 0, 4023, .inl (upd (svS S sv) 0 ((S 0) + x))))] H := hP
  have hD : va_D A [((g 0), .inr (5, [.int 0, .ref (g 1), .int (nI (sv2 sv)), .ref (g 2), .ref (g 3), .int (nI ln), .int (nI at9), .int (nI pl), .int va, .long hs])), ((g 1), .inl (y 0, 4023, .inl (upd (svS S sv) 0 ((S 0) + x))))] := hD
  obtain rfl : r_4 = S 0 := hw_52
  refine lv_pop hx hb dX5_pass_55 rfl ?_
  refine lv_aload_n hx hb dX5_pass_56 rfl (lv_at hl 0 rfl) ?_
  refine va_get (D := D) (ci := 5) (v := .ref (g 1)) (C := RX5) (T := TX5) (N := 10) hx hb htg iX5 hown hK hP 0 rfl rfl 1 (by decide) (htg _ tw_359) (fun _ h9 => h9) rfl dX5_pass_57 ?_
  refine lv_iconst (v := 0) hx hb dX5_pass_60 (by decide) ?_
  refine va_iald hx hb hK hP 1 0 rfl rfl (vp_in_nI (n := 0) (by decide) (by decide)) dX5_pass_61 ?_
  refine zz_top (y := (upd (svS S sv) 0 ((S 0) + x)) 0) (congrArg (upd (svS S sv) 0 ((S 0) + x)) (by decide)) ?_
  refine zz_top (y := S 0 + x) (by rw [pk_us]) ?_
  refine W.widen (k := 0) (n := 0) (by first | exact Nat.le_of_ble_eq_true rfl | omega) (by first | exact Nat.le_of_ble_eq_true rfl | omega) ?_
  exact W.iret (v := (S 0 + x)) hx hb hr (fun t ht hW => ⟨⟨S 0 + x, (), rfl, by first | rfl | trivial | simp_all, ⟨by rw [ht]; exact hP, hD⟩⟩, hS.F ht⟩) hS.2.2 dX5_pass_62

set_option maxHeartbeats 4000000 in
set_option maxRecDepth 100000 in
theorem mX5_pass_b1 (l : Launch) (D : va_G) (y : Nat → ClassId) (sz : Nat) (g : Nat → Nat) (th : Int32) (sv : Nat) (ln : Nat) (at9 : Nat) (pl : Nat) (va : Int32) (hs : Int64) (x : Int32) (hb1 : ¬ (¬ x < 1 ∧ ¬ 99 < x)) : Met l yX5_pass (ws_ yX5_pass cX5_pass 2 (some .int)) ({ frames := 1, cells := 0, slots := 0, locals := 22 }) (va_Pc [.ref (g 0), .int x] (zRW D y [((g 0), .inr (5, [.int th, .ref (g 1), .int (nI sv), .ref (g 2), .ref (g 3), .int (nI ln), .int (nI at9), .int (nI pl), .int va, .long hs]))] sz)) (va_Qi (fun (r : Int32) (_ : Unit) => r = 0) (fun (_ : Unit) t => zOut D (va_A [((g 0), .inr (5, [.int th, .ref (g 1), .int (nI sv), .ref (g 2), .ref (g 3), .int (nI ln), .int (nI at9), .int (nI pl), .int va, .long hs]))] sz) [((g 0), .inr (5, [.int 1, .ref (g 1), .int (nI sv), .ref (g 2), .ref (g 3), .int (nI ln), .int (nI at9), .int (nI pl), .int va, .long hs]))] t) (va_A [((g 0), .inr (5, [.int th, .ref (g 1), .int (nI sv), .ref (g 2), .ref (g 3), .int (nI ln), .int (nI at9), .int (nI pl), .int va, .long hs]))] sz)) 0 0 (va_A [((g 0), .inr (5, [.int th, .ref (g 1), .int (nI sv), .ref (g 2), .ref (g 3), .int (nI ln), .int (nI at9), .int (nI pl), .int va, .long hs]))] sz) := by
  refine Met.ofW (cc := cX5_pass) (maxL := 2) (ret := (some .int)) (by decide) rfl ?_
  intro p e s m args below meth c s₁ B hml hpre9
  obtain ⟨rfl, hsz, hP, hKN, hD0⟩ := hpre9
  have hK := hKN.1
  have hx := B.exec
  have hb := B.bytes
  have hr := B.returns
  have hts := atoms_spec (ws := (ws_ yX5_pass cX5_pass 2 (some .int))) B.pre
  have htg : ∀ w ∈ gT, w.before _ s = true := fun w h => hts w (List.mem_cons_of_mem _ h)
  have hown : s.vm.findClass RX5 = some m.cls := findClass_of_methodNamed B.named
  have hlocks := B.notSynchronized
  subst hsz
  have hD := hD0.self (sz := s.heap.size)
  clear hD0
  generalize hAe : va_A [((g 0), .inr (5, [.int th, .ref (g 1), .int (nI sv), .ref (g 2), .ref (g 3), .int (nI ln), .int (nI at9), .int (nI pl), .int va, .long hs]))] s.heap.size = A at hD ⊢
  have hA : ∀ q : Nat, s.heap.size ≤ q → A q := fun q h => by rw [← hAe]; exact Or.inr h
  have hS : va_S A s.heap s.heap [] := va_S.rf
  have hP : va_P D vwCl [((g 0), .inr (5, [.int th, .ref (g 1), .int (nI sv), .ref (g 2), .ref (g 3), .int (nI ln), .int (nI at9), .int (nI pl), .int va, .long hs]))] s.heap := hP
  have hl := lv_entry ([.ref (g 0), .int x]) (n := 2) (Nat.le_of_ble_eq_true rfl)
  rw [lg_entry_eq]
  generalize (lg_sl ([.ref (g 0), .int x]) ++ List.replicate (2 - (lg_sl ([.ref (g 0), .int x])).length) Slot.unset).toArray = ls at hl ⊢
  have hl : lv_has ls 2 [(0, .ref (g 0)), (1, .int x)] := hl
  refine lv_aload_n hx hb dX5_pass_0 rfl (lv_at hl 0 rfl) ?_
  refine lv_iload_n hx hb dX5_pass_1 rfl (lv_at hl 1 rfl) ?_
  refine lv_iconst (v := 1) hx hb dX5_pass_2 (by decide) ?_
  refine lv_bipush (v := 99) hx hb dX5_pass_3 (by decide) ?_
  refine zr_calli (va_runS (As := [.int x, .int 1, .int 99]) (rest := [.ref (g 0)]) ⟨hx, hb, hml, hown, hts⟩ (mX5_in l x 1 99) (va_cwS 3 hts (zgS tw_367 tw_368 tw_369 tw_364) rfl rfl rfl (by decide +kernel) ⟨Nat.le_of_ble_eq_true rfl, Nat.le_of_ble_eq_true rfl⟩) zP_pre rfl rfl hl.1 rfl (lv_room (Nat.le_of_ble_eq_true rfl)) dX5_pass_5 ⟨Nat.zero_le _, Nat.zero_le _⟩) hS (fun r_1 H locs hw_5 hT hS => ?_)
  replace hP := hT _ _ hP
  obtain rfl : r_1 = (if ¬ x < 1 ∧ ¬ 99 < x then (1 : Int32) else 0) := hw_5
  refine lv_if_ne (tgt := 15) hx hb dX5_pass_8 (by decide) (fun c_8 => absurd (zb0.mpr hb1) c_8) (fun _ => ?_)
  refine lv_iconst (v := 1) hx hb dX5_pass_11 (by decide) ?_
  refine lv_goto (tgt := 34) hx hb dX5_pass_12 (by decide) ?_
  refine zw_calli (wr := []) (w1 := (fun _ : Unit => [((g 0), .inr (5, [.int 1, .ref (g 1), .int (nI sv), .ref (g 2), .ref (g 3), .int (nI ln), .int (nI at9), .int (nI pl), .int va, .long hs]))])) hP hD hS hA [0] [] rfl rfl (by decide +kernel) (by decide +kernel) (va_runV (As := [.int 1]) (rest := []) ⟨hx, hb, hml, hown, hts⟩ (mX5_holds l D y _ g th sv ln at9 pl va hs 1) (cwV 1 hts (zgV tw_431 tw_432 tw_433 tw_369 tw_365) rfl rfl rfl (by decide +kernel) ⟨Nat.le_of_ble_eq_true rfl, Nat.le_of_ble_eq_true rfl⟩) (zRW_preV hKN hP hD (ci := 5) (q0 := 0) rfl rfl [0] rfl (by decide)) rfl rfl hl.1 rfl (lv_room (Nat.le_of_ble_eq_true rfl)) dX5_pass_34 ⟨Nat.zero_le _, Nat.zero_le _⟩) (fun r_2 u_3 H locs hw_34 hP hD hS => ?_)
  have hP : va_P D vwCl [((g 0), .inr (5, [.int 1, .ref (g 1), .int (nI sv), .ref (g 2), .ref (g 3), .int (nI ln), .int (nI at9), .int (nI pl), .int va, .long hs]))] H := hP
  have hD : va_D A [((g 0), .inr (5, [.int 1, .ref (g 1), .int (nI sv), .ref (g 2), .ref (g 3), .int (nI ln), .int (nI at9), .int (nI pl), .int va, .long hs]))] := hD
  obtain rfl : r_2 = 0 := hw_34
  refine lv_if_ne (tgt := 42) hx hb dX5_pass_37 (by decide) (fun c_37 => absurd (by decide) c_37) (fun _ => ?_)
  refine lv_iconst (v := 0) hx hb dX5_pass_40 (by decide) ?_
  refine W.widen (k := 0) (n := 0) (by first | exact Nat.le_of_ble_eq_true rfl | omega) (by first | exact Nat.le_of_ble_eq_true rfl | omega) ?_
  exact W.iret (v := 0) hx hb hr (fun t ht hW => ⟨⟨0, (), rfl, by first | rfl | trivial | simp_all, ⟨by rw [ht]; exact hP, hD⟩⟩, hS.F ht⟩) hS.2.2 dX5_pass_41

set_option maxHeartbeats 4000000 in
set_option maxRecDepth 100000 in
theorem mX5_pass_b2 (l : Launch) (D : va_G) (y : Nat → ClassId) (sz : Nat) (g : Nat → Nat) (S : (Nat → Int32)) (th : Int32) (sv : Nat) (ln : Nat) (at9 : Nat) (pl : Nat) (va : Int32) (hs : Int64) (x : Int32) (h1 : ¬ x < 1 ∧ ¬ 99 < x) (hb1 : 9999 < S 0 + x) : Met l yX5_pass (ws_ yX5_pass cX5_pass 2 (some .int)) ({ frames := 1, cells := 0, slots := 0, locals := 22 }) (va_Pc [.ref (g 0), .int x] (zRW D y [((g 0), .inr (5, [.int th, .ref (g 1), .int (nI sv), .ref (g 2), .ref (g 3), .int (nI ln), .int (nI at9), .int (nI pl), .int va, .long hs])), ((g 1), .inl (y 0, 4023, .inl S))] sz)) (va_Qi (fun (r : Int32) (_ : Unit) => r = 0) (fun (_ : Unit) t => zOut D (va_A [((g 0), .inr (5, [.int th, .ref (g 1), .int (nI sv), .ref (g 2), .ref (g 3), .int (nI ln), .int (nI at9), .int (nI pl), .int va, .long hs])), ((g 1), .inl (y 0, 4023, .inl S))] sz) [((g 0), .inr (5, [.int 2, .ref (g 1), .int (nI sv), .ref (g 2), .ref (g 3), .int (nI ln), .int (nI at9), .int (nI pl), .int va, .long hs])), ((g 1), .inl (y 0, 4023, .inl S))] t) (va_A [((g 0), .inr (5, [.int th, .ref (g 1), .int (nI sv), .ref (g 2), .ref (g 3), .int (nI ln), .int (nI at9), .int (nI pl), .int va, .long hs])), ((g 1), .inl (y 0, 4023, .inl S))] sz)) 0 0 (va_A [((g 0), .inr (5, [.int th, .ref (g 1), .int (nI sv), .ref (g 2), .ref (g 3), .int (nI ln), .int (nI at9), .int (nI pl), .int va, .long hs])), ((g 1), .inl (y 0, 4023, .inl S))] sz) := by
  refine Met.ofW (cc := cX5_pass) (maxL := 2) (ret := (some .int)) (by decide) rfl ?_
  intro p e s m args below meth c s₁ B hml hpre9
  obtain ⟨rfl, hsz, hP, hKN, hD0⟩ := hpre9
  have hK := hKN.1
  have hx := B.exec
  have hb := B.bytes
  have hr := B.returns
  have hts := atoms_spec (ws := (ws_ yX5_pass cX5_pass 2 (some .int))) B.pre
  have htg : ∀ w ∈ gT, w.before _ s = true := fun w h => hts w (List.mem_cons_of_mem _ h)
  have hown : s.vm.findClass RX5 = some m.cls := findClass_of_methodNamed B.named
  have hlocks := B.notSynchronized
  subst hsz
  have hD := hD0.self (sz := s.heap.size)
  clear hD0
  generalize hAe : va_A [((g 0), .inr (5, [.int th, .ref (g 1), .int (nI sv), .ref (g 2), .ref (g 3), .int (nI ln), .int (nI at9), .int (nI pl), .int va, .long hs])), ((g 1), .inl (y 0, 4023, .inl S))] s.heap.size = A at hD ⊢
  have hA : ∀ q : Nat, s.heap.size ≤ q → A q := fun q h => by rw [← hAe]; exact Or.inr h
  have hS : va_S A s.heap s.heap [] := va_S.rf
  have hP : va_P D vwCl [((g 0), .inr (5, [.int th, .ref (g 1), .int (nI sv), .ref (g 2), .ref (g 3), .int (nI ln), .int (nI at9), .int (nI pl), .int va, .long hs])), ((g 1), .inl (y 0, 4023, .inl S))] s.heap := hP
  have hl := lv_entry ([.ref (g 0), .int x]) (n := 2) (Nat.le_of_ble_eq_true rfl)
  rw [lg_entry_eq]
  generalize (lg_sl ([.ref (g 0), .int x]) ++ List.replicate (2 - (lg_sl ([.ref (g 0), .int x])).length) Slot.unset).toArray = ls at hl ⊢
  have hl : lv_has ls 2 [(0, .ref (g 0)), (1, .int x)] := hl
  refine lv_aload_n hx hb dX5_pass_0 rfl (lv_at hl 0 rfl) ?_
  refine lv_iload_n hx hb dX5_pass_1 rfl (lv_at hl 1 rfl) ?_
  refine lv_iconst (v := 1) hx hb dX5_pass_2 (by decide) ?_
  refine lv_bipush (v := 99) hx hb dX5_pass_3 (by decide) ?_
  refine zr_calli (va_runS (As := [.int x, .int 1, .int 99]) (rest := [.ref (g 0)]) ⟨hx, hb, hml, hown, hts⟩ (mX5_in l x 1 99) (va_cwS 3 hts (zgS tw_367 tw_368 tw_369 tw_364) rfl rfl rfl (by decide +kernel) ⟨Nat.le_of_ble_eq_true rfl, Nat.le_of_ble_eq_true rfl⟩) zP_pre rfl rfl hl.1 rfl (lv_room (Nat.le_of_ble_eq_true rfl)) dX5_pass_5 ⟨Nat.zero_le _, Nat.zero_le _⟩) hS (fun r_1 H locs hw_5 hT hS => ?_)
  replace hP := hT _ _ hP
  obtain rfl : r_1 = (if ¬ x < 1 ∧ ¬ 99 < x then (1 : Int32) else 0) := hw_5
  refine lv_if_ne (tgt := 15) hx hb dX5_pass_8 (by decide) (fun _ => ?_) (fun c_8 => absurd c_8 (zb1.mpr h1))
  refine lv_aload_n hx hb dX5_pass_15 rfl (lv_at hl 0 rfl) ?_
  refine va_get (D := D) (ci := 5) (v := .ref (g 1)) (C := RX5) (T := TX5) (N := 10) hx hb htg iX5 hown hK hP 0 rfl rfl 1 (by decide) (htg _ tw_359) (fun _ h9 => h9) rfl dX5_pass_16 ?_
  refine lv_iconst (v := 0) hx hb dX5_pass_19 (by decide) ?_
  refine va_iald hx hb hK hP 1 0 rfl rfl (vp_in_nI (n := 0) (by decide) (by decide)) dX5_pass_20 ?_
  refine zz_top (y := S 0) (congrArg S (by decide)) ?_
  refine lv_iload_n hx hb dX5_pass_21 rfl (lv_at hl 1 rfl) ?_
  refine lv_iadd hx hb dX5_pass_22 ?_
  refine lv_sipush (v := 9999) hx hb dX5_pass_23 (by decide) ?_
  refine lv_icmp_le (tgt := 33) hx hb dX5_pass_26 (by decide) (fun c_26 => absurd c_26 (Int32.not_le.mpr hb1)) (fun _ => ?_)
  refine lv_iconst (v := 2) hx hb dX5_pass_29 (by decide) ?_
  refine lv_goto (tgt := 34) hx hb dX5_pass_30 (by decide) ?_
  refine zw_calli (wr := [((g 1), .inl (y 0, 4023, .inl S))]) (w1 := (fun _ : Unit => [((g 0), .inr (5, [.int 2, .ref (g 1), .int (nI sv), .ref (g 2), .ref (g 3), .int (nI ln), .int (nI at9), .int (nI pl), .int va, .long hs]))])) hP hD hS hA [0] [1] rfl rfl (by decide +kernel) (by decide +kernel) (va_runV (As := [.int 2]) (rest := []) ⟨hx, hb, hml, hown, hts⟩ (mX5_holds l D y _ g th sv ln at9 pl va hs 2) (cwV 1 hts (zgV tw_431 tw_432 tw_433 tw_369 tw_365) rfl rfl rfl (by decide +kernel) ⟨Nat.le_of_ble_eq_true rfl, Nat.le_of_ble_eq_true rfl⟩) (zRW_preV hKN hP hD (ci := 5) (q0 := 0) rfl rfl [0] rfl (by decide)) rfl rfl hl.1 rfl (lv_room (Nat.le_of_ble_eq_true rfl)) dX5_pass_34 ⟨Nat.zero_le _, Nat.zero_le _⟩) (fun r_2 u_3 H locs hw_34 hP hD hS => ?_)
  have hP : va_P D vwCl [((g 1), .inl (y 0, 4023, .inl S)), ((g 0), .inr (5, [.int 2, .ref (g 1), .int (nI sv), .ref (g 2), .ref (g 3), .int (nI ln), .int (nI at9), .int (nI pl), .int va, .long hs]))] H := hP
  have hD : va_D A [((g 1), .inl (y 0, 4023, .inl S)), ((g 0), .inr (5, [.int 2, .ref (g 1), .int (nI sv), .ref (g 2), .ref (g 3), .int (nI ln), .int (nI at9), .int (nI pl), .int va, .long hs]))] := hD
  obtain rfl : r_2 = 0 := hw_34
  refine lv_if_ne (tgt := 42) hx hb dX5_pass_37 (by decide) (fun c_37 => absurd (by decide) c_37) (fun _ => ?_)
  refine lv_iconst (v := 0) hx hb dX5_pass_40 (by decide) ?_
  have hP := hP.sub (ws' := [((g 0), .inr (5, [.int 2, .ref (g 1), .int (nI sv), .ref (g 2), .ref (g 3), .int (nI ln), .int (nI at9), .int (nI pl), .int va, .long hs])), ((g 1), .inl (y 0, 4023, .inl S))]) [1, 0] rfl
  have hD := hD.sub (ws' := [((g 0), .inr (5, [.int 2, .ref (g 1), .int (nI sv), .ref (g 2), .ref (g 3), .int (nI ln), .int (nI at9), .int (nI pl), .int va, .long hs])), ((g 1), .inl (y 0, 4023, .inl S))]) [1, 0] (by decide) rfl
  refine W.widen (k := 0) (n := 0) (by first | exact Nat.le_of_ble_eq_true rfl | omega) (by first | exact Nat.le_of_ble_eq_true rfl | omega) ?_
  exact W.iret (v := 0) hx hb hr (fun t ht hW => ⟨⟨0, (), rfl, by first | rfl | trivial | simp_all, ⟨by rw [ht]; exact hP, hD⟩⟩, hS.F ht⟩) hS.2.2 dX5_pass_41

set_option maxHeartbeats 4000000 in
set_option maxRecDepth 100000 in
theorem mX5_drop (l : Launch) (D : va_G) (y : Nat → ClassId) (sz : Nat) (g : Nat → Nat) (S : (Nat → Int32)) (th : Int32) (sv : Nat) (ln : Nat) (at9 : Nat) (pl : Nat) (va : Int32) (hs : Int64) (n : Nat) (hv : sv ≤ 6) (hn : 0 < n) (hn6 : n ≤ 6) (hS1 : S 1 = nI n) : Met l yX5_drop (ws_ yX5_drop cX5_drop 1 (some .int)) ({ frames := 3, cells := 0, slots := 0, locals := 67 }) (va_Pc [.ref (g 0)] (zRW D y [((g 0), .inr (5, [.int th, .ref (g 1), .int (nI sv), .ref (g 2), .ref (g 3), .int (nI ln), .int (nI at9), .int (nI pl), .int va, .long hs])), ((g 1), .inl (y 0, 4023, .inl S))] sz)) (va_Qi (fun (r : Int32) (_ : Unit) => r = nI (n - 1)) (fun (_ : Unit) t => zOut D (va_A [((g 0), .inr (5, [.int th, .ref (g 1), .int (nI sv), .ref (g 2), .ref (g 3), .int (nI ln), .int (nI at9), .int (nI pl), .int va, .long hs])), ((g 1), .inl (y 0, 4023, .inl S))] sz) [((g 0), .inr (5, [.int 0, .ref (g 1), .int (nI (sv2 sv)), .ref (g 2), .ref (g 3), .int (nI ln), .int (nI at9), .int (nI pl), .int va, .long hs])), ((g 1), .inl (y 0, 4023, .inl (upd (svS S sv) 1 (nI (n - 1)))))] t) (va_A [((g 0), .inr (5, [.int th, .ref (g 1), .int (nI sv), .ref (g 2), .ref (g 3), .int (nI ln), .int (nI at9), .int (nI pl), .int va, .long hs])), ((g 1), .inl (y 0, 4023, .inl S))] sz)) 0 0 (va_A [((g 0), .inr (5, [.int th, .ref (g 1), .int (nI sv), .ref (g 2), .ref (g 3), .int (nI ln), .int (nI at9), .int (nI pl), .int va, .long hs])), ((g 1), .inl (y 0, 4023, .inl S))] sz) := by
  refine Met.ofW (cc := cX5_drop) (maxL := 1) (ret := (some .int)) (by decide) rfl ?_
  intro p e s m args below meth c s₁ B hml hpre9
  obtain ⟨rfl, hsz, hP, hKN, hD0⟩ := hpre9
  have hK := hKN.1
  have hx := B.exec
  have hb := B.bytes
  have hr := B.returns
  have hts := atoms_spec (ws := (ws_ yX5_drop cX5_drop 1 (some .int))) B.pre
  have htg : ∀ w ∈ gT, w.before _ s = true := fun w h => hts w (List.mem_cons_of_mem _ h)
  have hown : s.vm.findClass RX5 = some m.cls := findClass_of_methodNamed B.named
  have hlocks := B.notSynchronized
  subst hsz
  have hD := hD0.self (sz := s.heap.size)
  clear hD0
  generalize hAe : va_A [((g 0), .inr (5, [.int th, .ref (g 1), .int (nI sv), .ref (g 2), .ref (g 3), .int (nI ln), .int (nI at9), .int (nI pl), .int va, .long hs])), ((g 1), .inl (y 0, 4023, .inl S))] s.heap.size = A at hD ⊢
  have hA : ∀ q : Nat, s.heap.size ≤ q → A q := fun q h => by rw [← hAe]; exact Or.inr h
  have hS : va_S A s.heap s.heap [] := va_S.rf
  have hP : va_P D vwCl [((g 0), .inr (5, [.int th, .ref (g 1), .int (nI sv), .ref (g 2), .ref (g 3), .int (nI ln), .int (nI at9), .int (nI pl), .int va, .long hs])), ((g 1), .inl (y 0, 4023, .inl S))] s.heap := hP
  have hl := lv_entry ([.ref (g 0)]) (n := 1) (Nat.le_of_ble_eq_true rfl)
  rw [lg_entry_eq]
  generalize (lg_sl ([.ref (g 0)]) ++ List.replicate (1 - (lg_sl ([.ref (g 0)])).length) Slot.unset).toArray = ls at hl ⊢
  have hl : lv_has ls 1 [(0, .ref (g 0))] := hl
  refine lv_aload_n hx hb dX5_drop_0 rfl (lv_at hl 0 rfl) ?_
  refine lv_aload_n hx hb dX5_drop_1 rfl (lv_at hl 0 rfl) ?_
  refine va_get (D := D) (ci := 5) (v := .ref (g 1)) (C := RX5) (T := TX5) (N := 10) hx hb htg iX5 hown hK hP 0 rfl rfl 1 (by decide) (htg _ tw_359) (fun _ h9 => h9) rfl dX5_drop_2 ?_
  refine lv_iconst (v := 1) hx hb dX5_drop_5 (by decide) ?_
  refine va_iald hx hb hK hP 1 0 rfl rfl (vp_in_nI (n := 1) (by decide) (by decide)) dX5_drop_6 ?_
  refine zz_top (y := S 1) (congrArg S (by decide)) ?_
  refine zz_top (y := nI n) (hS1) ?_
  refine lv_if_ne (tgt := 14) hx hb dX5_drop_7 (by decide) (fun c_7 => ?_) (fun c_7 => ?_)
  · replace c_7 : ¬ n = 0 := fun h => c_7 ((nI_eq (a := n) (b := 0) (by omega) (by omega)).mpr h)
    refine lv_iconst (v := 0) hx hb dX5_drop_14 (by decide) ?_
    refine zw_calli (wr := [((g 1), .inl (y 0, 4023, .inl S))]) (w1 := (fun _ : Unit => [((g 0), .inr (5, [.int 0, .ref (g 1), .int (nI sv), .ref (g 2), .ref (g 3), .int (nI ln), .int (nI at9), .int (nI pl), .int va, .long hs]))])) hP hD hS hA [0] [1] rfl rfl (by decide +kernel) (by decide +kernel) (va_runV (As := [.int 0]) (rest := []) ⟨hx, hb, hml, hown, hts⟩ (mX5_holds l D y _ g th sv ln at9 pl va hs 0) (cwV 1 hts (zgV tw_431 tw_432 tw_433 tw_369 tw_365) rfl rfl rfl (by decide +kernel) ⟨Nat.le_of_ble_eq_true rfl, Nat.le_of_ble_eq_true rfl⟩) (zRW_preV hKN hP hD (ci := 5) (q0 := 0) rfl rfl [0] rfl (by decide)) rfl rfl hl.1 rfl (lv_room (Nat.le_of_ble_eq_true rfl)) dX5_drop_15 ⟨Nat.zero_le _, Nat.zero_le _⟩) (fun r_1 u_2 H locs hw_15 hP hD hS => ?_)
    have hP : va_P D vwCl [((g 1), .inl (y 0, 4023, .inl S)), ((g 0), .inr (5, [.int 0, .ref (g 1), .int (nI sv), .ref (g 2), .ref (g 3), .int (nI ln), .int (nI at9), .int (nI pl), .int va, .long hs]))] H := hP
    have hD : va_D A [((g 1), .inl (y 0, 4023, .inl S)), ((g 0), .inr (5, [.int 0, .ref (g 1), .int (nI sv), .ref (g 2), .ref (g 3), .int (nI ln), .int (nI at9), .int (nI pl), .int va, .long hs]))] := hD
    obtain rfl : r_1 = 1 := hw_15
    refine lv_if_ne (tgt := 23) hx hb dX5_drop_18 (by decide) (fun _ => ?_) (fun c_18 => absurd c_18 (by decide))
    refine lv_aload_n hx hb dX5_drop_23 rfl (lv_at hl 0 rfl) ?_
    refine lv_iconst (v := 1) hx hb dX5_drop_24 (by decide) ?_
    refine lv_aload_n hx hb dX5_drop_25 rfl (lv_at hl 0 rfl) ?_
    refine va_get (D := D) (ci := 5) (v := .ref (g 1)) (C := RX5) (T := TX5) (N := 10) hx hb htg iX5 hown hK hP 1 rfl rfl 1 (by decide) (htg _ tw_359) (fun _ h9 => h9) rfl dX5_drop_26 ?_
    refine lv_iconst (v := 1) hx hb dX5_drop_29 (by decide) ?_
    refine va_iald hx hb hK hP 0 0 rfl rfl (vp_in_nI (n := 1) (by decide) (by decide)) dX5_drop_30 ?_
    refine zz_top (y := S 1) (congrArg S (by decide)) ?_
    refine zz_top (y := nI n) (hS1) ?_
    refine lv_iconst (v := 1) hx hb dX5_drop_31 (by decide) ?_
    refine lv_isub hx hb dX5_drop_32 ?_
    refine zz_top (y := nI (n - 1)) (pk_sub (a := n) (b := 1) (by omega)) ?_
    refine zw_calli (wr := []) (w1 := (fun _ : Unit => [((g 0), .inr (5, [.int 0, .ref (g 1), .int (nI (sv2 sv)), .ref (g 2), .ref (g 3), .int (nI ln), .int (nI at9), .int (nI pl), .int va, .long hs])), ((g 1), .inl (y 0, 4023, .inl (upd (svS S sv) 1 (nI (n - 1)))))])) hP hD hS hA [1, 0] [] rfl rfl (by decide +kernel) (by decide +kernel) (va_runV (As := [.int 1, .int (nI (n - 1))]) (rest := []) ⟨hx, hb, hml, hown, hts⟩ (mX5_changed l D y _ g S 0 sv ln at9 pl va hs 1 (nI (n - 1)) (by first | assumption | rfl | omega | decide) (by first | assumption | rfl | omega | decide)) (cwV 2 hts (zgV tw_434 tw_435 tw_436 tw_369 tw_422) rfl rfl rfl (by decide +kernel) ⟨Nat.le_of_ble_eq_true rfl, Nat.le_of_ble_eq_true rfl⟩) (zRW_preV hKN hP hD (ci := 5) (q0 := 1) rfl rfl [1, 0] rfl (by decide)) rfl rfl hl.1 rfl (lv_room (Nat.le_of_ble_eq_true rfl)) dX5_drop_33 ⟨Nat.zero_le _, Nat.zero_le _⟩) (fun r_3 u_4 H locs hw_33 hP hD hS => ?_)
    have hP : va_P D vwCl [((g 0), .inr (5, [.int 0, .ref (g 1), .int (nI (sv2 sv)), .ref (g 2), .ref (g 3), .int (nI ln), .int (nI at9), .int (nI pl), .int va, .long hs])), ((g 1), .inl (y 0, 4023, .inl (upd (svS S sv) 1 (nI (n - 1)))))] H := hP
    have hD : va_D A [((g 0), .inr (5, [.int 0, .ref (g 1), .int (nI (sv2 sv)), .ref (g 2), .ref (g 3), .int (nI ln), .int (nI at9), .int (nI pl), .int va, .long hs])), ((g 1), .inl (y 0, 4023, .inl (upd (svS S sv) 1 (nI (n - 1)))))] := hD
    obtain rfl : r_3 = S 1 := hw_33
    refine lv_pop hx hb dX5_drop_36 rfl ?_
    refine lv_aload_n hx hb dX5_drop_37 rfl (lv_at hl 0 rfl) ?_
    refine va_get (D := D) (ci := 5) (v := .ref (g 1)) (C := RX5) (T := TX5) (N := 10) hx hb htg iX5 hown hK hP 0 rfl rfl 1 (by decide) (htg _ tw_359) (fun _ h9 => h9) rfl dX5_drop_38 ?_
    refine lv_iconst (v := 1) hx hb dX5_drop_41 (by decide) ?_
    refine va_iald hx hb hK hP 1 0 rfl rfl (vp_in_nI (n := 1) (by decide) (by decide)) dX5_drop_42 ?_
    refine zz_top (y := (upd (svS S sv) 1 (nI (n - 1))) 1) (congrArg (upd (svS S sv) 1 (nI (n - 1))) (by decide)) ?_
    refine zz_top (y := nI (n - 1)) (by rw [pk_us]) ?_
    refine W.widen (k := 0) (n := 0) (by first | exact Nat.le_of_ble_eq_true rfl | omega) (by first | exact Nat.le_of_ble_eq_true rfl | omega) ?_
    exact W.iret (v := (nI (n - 1))) hx hb hr (fun t ht hW => ⟨⟨nI (n - 1), (), rfl, by first | rfl | trivial | simp_all, ⟨by rw [ht]; exact hP, hD⟩⟩, hS.F ht⟩) hS.2.2 dX5_drop_43
  · replace c_7 : n = 0 := (nI_eq (a := n) (b := 0) (by omega) (by omega)).mp c_7
    exfalso; omega

set_option maxHeartbeats 4000000 in
set_option maxRecDepth 100000 in
theorem mX5_drop_b1 (l : Launch) (D : va_G) (y : Nat → ClassId) (sz : Nat) (g : Nat → Nat) (S : (Nat → Int32)) (th : Int32) (sv : Nat) (ln : Nat) (at9 : Nat) (pl : Nat) (va : Int32) (hs : Int64) (hb1 : S 1 = 0) : Met l yX5_drop (ws_ yX5_drop cX5_drop 1 (some .int)) ({ frames := 1, cells := 0, slots := 0, locals := 21 }) (va_Pc [.ref (g 0)] (zRW D y [((g 0), .inr (5, [.int th, .ref (g 1), .int (nI sv), .ref (g 2), .ref (g 3), .int (nI ln), .int (nI at9), .int (nI pl), .int va, .long hs])), ((g 1), .inl (y 0, 4023, .inl S))] sz)) (va_Qi (fun (r : Int32) (_ : Unit) => r = 0) (fun (_ : Unit) t => zOut D (va_A [((g 0), .inr (5, [.int th, .ref (g 1), .int (nI sv), .ref (g 2), .ref (g 3), .int (nI ln), .int (nI at9), .int (nI pl), .int va, .long hs])), ((g 1), .inl (y 0, 4023, .inl S))] sz) [((g 0), .inr (5, [.int 1, .ref (g 1), .int (nI sv), .ref (g 2), .ref (g 3), .int (nI ln), .int (nI at9), .int (nI pl), .int va, .long hs])), ((g 1), .inl (y 0, 4023, .inl S))] t) (va_A [((g 0), .inr (5, [.int th, .ref (g 1), .int (nI sv), .ref (g 2), .ref (g 3), .int (nI ln), .int (nI at9), .int (nI pl), .int va, .long hs])), ((g 1), .inl (y 0, 4023, .inl S))] sz)) 0 0 (va_A [((g 0), .inr (5, [.int th, .ref (g 1), .int (nI sv), .ref (g 2), .ref (g 3), .int (nI ln), .int (nI at9), .int (nI pl), .int va, .long hs])), ((g 1), .inl (y 0, 4023, .inl S))] sz) := by
  refine Met.ofW (cc := cX5_drop) (maxL := 1) (ret := (some .int)) (by decide) rfl ?_
  intro p e s m args below meth c s₁ B hml hpre9
  obtain ⟨rfl, hsz, hP, hKN, hD0⟩ := hpre9
  have hK := hKN.1
  have hx := B.exec
  have hb := B.bytes
  have hr := B.returns
  have hts := atoms_spec (ws := (ws_ yX5_drop cX5_drop 1 (some .int))) B.pre
  have htg : ∀ w ∈ gT, w.before _ s = true := fun w h => hts w (List.mem_cons_of_mem _ h)
  have hown : s.vm.findClass RX5 = some m.cls := findClass_of_methodNamed B.named
  have hlocks := B.notSynchronized
  subst hsz
  have hD := hD0.self (sz := s.heap.size)
  clear hD0
  generalize hAe : va_A [((g 0), .inr (5, [.int th, .ref (g 1), .int (nI sv), .ref (g 2), .ref (g 3), .int (nI ln), .int (nI at9), .int (nI pl), .int va, .long hs])), ((g 1), .inl (y 0, 4023, .inl S))] s.heap.size = A at hD ⊢
  have hA : ∀ q : Nat, s.heap.size ≤ q → A q := fun q h => by rw [← hAe]; exact Or.inr h
  have hS : va_S A s.heap s.heap [] := va_S.rf
  have hP : va_P D vwCl [((g 0), .inr (5, [.int th, .ref (g 1), .int (nI sv), .ref (g 2), .ref (g 3), .int (nI ln), .int (nI at9), .int (nI pl), .int va, .long hs])), ((g 1), .inl (y 0, 4023, .inl S))] s.heap := hP
  have hl := lv_entry ([.ref (g 0)]) (n := 1) (Nat.le_of_ble_eq_true rfl)
  rw [lg_entry_eq]
  generalize (lg_sl ([.ref (g 0)]) ++ List.replicate (1 - (lg_sl ([.ref (g 0)])).length) Slot.unset).toArray = ls at hl ⊢
  have hl : lv_has ls 1 [(0, .ref (g 0))] := hl
  refine lv_aload_n hx hb dX5_drop_0 rfl (lv_at hl 0 rfl) ?_
  refine lv_aload_n hx hb dX5_drop_1 rfl (lv_at hl 0 rfl) ?_
  refine va_get (D := D) (ci := 5) (v := .ref (g 1)) (C := RX5) (T := TX5) (N := 10) hx hb htg iX5 hown hK hP 0 rfl rfl 1 (by decide) (htg _ tw_359) (fun _ h9 => h9) rfl dX5_drop_2 ?_
  refine lv_iconst (v := 1) hx hb dX5_drop_5 (by decide) ?_
  refine va_iald hx hb hK hP 1 0 rfl rfl (vp_in_nI (n := 1) (by decide) (by decide)) dX5_drop_6 ?_
  refine zz_top (y := S 1) (congrArg S (by decide)) ?_
  refine lv_if_ne (tgt := 14) hx hb dX5_drop_7 (by decide) (fun c_7 => absurd (hb1) c_7) (fun _ => ?_)
  refine lv_iconst (v := 1) hx hb dX5_drop_10 (by decide) ?_
  refine lv_goto (tgt := 15) hx hb dX5_drop_11 (by decide) ?_
  refine zw_calli (wr := [((g 1), .inl (y 0, 4023, .inl S))]) (w1 := (fun _ : Unit => [((g 0), .inr (5, [.int 1, .ref (g 1), .int (nI sv), .ref (g 2), .ref (g 3), .int (nI ln), .int (nI at9), .int (nI pl), .int va, .long hs]))])) hP hD hS hA [0] [1] rfl rfl (by decide +kernel) (by decide +kernel) (va_runV (As := [.int 1]) (rest := []) ⟨hx, hb, hml, hown, hts⟩ (mX5_holds l D y _ g th sv ln at9 pl va hs 1) (cwV 1 hts (zgV tw_431 tw_432 tw_433 tw_369 tw_365) rfl rfl rfl (by decide +kernel) ⟨Nat.le_of_ble_eq_true rfl, Nat.le_of_ble_eq_true rfl⟩) (zRW_preV hKN hP hD (ci := 5) (q0 := 0) rfl rfl [0] rfl (by decide)) rfl rfl hl.1 rfl (lv_room (Nat.le_of_ble_eq_true rfl)) dX5_drop_15 ⟨Nat.zero_le _, Nat.zero_le _⟩) (fun r_1 u_2 H locs hw_15 hP hD hS => ?_)
  have hP : va_P D vwCl [((g 1), .inl (y 0, 4023, .inl S)), ((g 0), .inr (5, [.int 1, .ref (g 1), .int (nI sv), .ref (g 2), .ref (g 3), .int (nI ln), .int (nI at9), .int (nI pl), .int va, .long hs]))] H := hP
  have hD : va_D A [((g 1), .inl (y 0, 4023, .inl S)), ((g 0), .inr (5, [.int 1, .ref (g 1), .int (nI sv), .ref (g 2), .ref (g 3), .int (nI ln), .int (nI at9), .int (nI pl), .int va, .long hs]))] := hD
  obtain rfl : r_1 = 0 := hw_15
  refine lv_if_ne (tgt := 23) hx hb dX5_drop_18 (by decide) (fun c_18 => absurd (by decide) c_18) (fun _ => ?_)
  refine lv_iconst (v := 0) hx hb dX5_drop_21 (by decide) ?_
  have hP := hP.sub (ws' := [((g 0), .inr (5, [.int 1, .ref (g 1), .int (nI sv), .ref (g 2), .ref (g 3), .int (nI ln), .int (nI at9), .int (nI pl), .int va, .long hs])), ((g 1), .inl (y 0, 4023, .inl S))]) [1, 0] rfl
  have hD := hD.sub (ws' := [((g 0), .inr (5, [.int 1, .ref (g 1), .int (nI sv), .ref (g 2), .ref (g 3), .int (nI ln), .int (nI at9), .int (nI pl), .int va, .long hs])), ((g 1), .inl (y 0, 4023, .inl S))]) [1, 0] (by decide) rfl
  refine W.widen (k := 0) (n := 0) (by first | exact Nat.le_of_ble_eq_true rfl | omega) (by first | exact Nat.le_of_ble_eq_true rfl | omega) ?_
  exact W.iret (v := 0) hx hb hr (fun t ht hW => ⟨⟨0, (), rfl, by first | rfl | trivial | simp_all, ⟨by rw [ht]; exact hP, hD⟩⟩, hS.F ht⟩) hS.2.2 dX5_drop_22

set_option maxHeartbeats 4000000 in
set_option maxRecDepth 100000 in
theorem mX5_survey (l : Launch) (D : va_G) (y : Nat → ClassId) (sz : Nat) (g : Nat → Nat) (S : (Nat → Int32)) (th : Int32) (sv : Nat) (ln : Nat) (at9 : Nat) (pl : Nat) (va : Int32) (hs : Int64) (n : Nat) (hv : sv ≤ 6) (hn : n < 6) (hS1 : S 1 = nI n) (hTu : hTq S) : Met l yX5_survey (ws_ yX5_survey cX5_survey 3 (some .int)) ({ frames := 3, cells := 0, slots := 0, locals := 69 }) (va_Pc [.ref (g 0)] (zRW D y [((g 0), .inr (5, [.int th, .ref (g 1), .int (nI sv), .ref (g 2), .ref (g 3), .int (nI ln), .int (nI at9), .int (nI pl), .int va, .long hs])), ((g 1), .inl (y 0, 4023, .inl S))] sz)) (va_Qi (fun (r : Int32) (_ : Unit) => r = nI n) (fun (_ : Unit) t => zOut D (va_A [((g 0), .inr (5, [.int th, .ref (g 1), .int (nI sv), .ref (g 2), .ref (g 3), .int (nI ln), .int (nI at9), .int (nI pl), .int va, .long hs])), ((g 1), .inl (y 0, 4023, .inl S))] sz) [((g 0), .inr (5, [.int 0, .ref (g 1), .int (nI (sv2 sv)), .ref (g 2), .ref (g 3), .int (nI ln), .int (nI at9), .int (nI pl), .int va, .long hs])), ((g 1), .inl (y 0, 4023, .inl (qSv (svS S sv) n)))] t) (va_A [((g 0), .inr (5, [.int th, .ref (g 1), .int (nI sv), .ref (g 2), .ref (g 3), .int (nI ln), .int (nI at9), .int (nI pl), .int va, .long hs])), ((g 1), .inl (y 0, 4023, .inl S))] sz)) 0 0 (va_A [((g 0), .inr (5, [.int th, .ref (g 1), .int (nI sv), .ref (g 2), .ref (g 3), .int (nI ln), .int (nI at9), .int (nI pl), .int va, .long hs])), ((g 1), .inl (y 0, 4023, .inl S))] sz) := by
  refine Met.ofW (cc := cX5_survey) (maxL := 3) (ret := (some .int)) (by decide) rfl ?_
  intro p e s m args below meth c s₁ B hml hpre9
  obtain ⟨rfl, hsz, hP, hKN, hD0⟩ := hpre9
  have hK := hKN.1
  have hx := B.exec
  have hb := B.bytes
  have hr := B.returns
  have hts := atoms_spec (ws := (ws_ yX5_survey cX5_survey 3 (some .int))) B.pre
  have htg : ∀ w ∈ gT, w.before _ s = true := fun w h => hts w (List.mem_cons_of_mem _ h)
  have hown : s.vm.findClass RX5 = some m.cls := findClass_of_methodNamed B.named
  have hlocks := B.notSynchronized
  subst hsz
  have hD := hD0.self (sz := s.heap.size)
  clear hD0
  generalize hAe : va_A [((g 0), .inr (5, [.int th, .ref (g 1), .int (nI sv), .ref (g 2), .ref (g 3), .int (nI ln), .int (nI at9), .int (nI pl), .int va, .long hs])), ((g 1), .inl (y 0, 4023, .inl S))] s.heap.size = A at hD ⊢
  have hA : ∀ q : Nat, s.heap.size ≤ q → A q := fun q h => by rw [← hAe]; exact Or.inr h
  have hS : va_S A s.heap s.heap [] := va_S.rf
  have hP : va_P D vwCl [((g 0), .inr (5, [.int th, .ref (g 1), .int (nI sv), .ref (g 2), .ref (g 3), .int (nI ln), .int (nI at9), .int (nI pl), .int va, .long hs])), ((g 1), .inl (y 0, 4023, .inl S))] s.heap := hP
  have hl := lv_entry ([.ref (g 0)]) (n := 3) (Nat.le_of_ble_eq_true rfl)
  rw [lg_entry_eq]
  generalize (lg_sl ([.ref (g 0)]) ++ List.replicate (3 - (lg_sl ([.ref (g 0)])).length) Slot.unset).toArray = ls at hl ⊢
  have hl : lv_has ls 3 [(0, .ref (g 0))] := hl
  refine lv_aload_n hx hb dX5_survey_0 rfl (lv_at hl 0 rfl) ?_
  refine lv_aload_n hx hb dX5_survey_1 rfl (lv_at hl 0 rfl) ?_
  refine va_get (D := D) (ci := 5) (v := .ref (g 1)) (C := RX5) (T := TX5) (N := 10) hx hb htg iX5 hown hK hP 0 rfl rfl 1 (by decide) (htg _ tw_359) (fun _ h9 => h9) rfl dX5_survey_2 ?_
  refine lv_iconst (v := 1) hx hb dX5_survey_5 (by decide) ?_
  refine va_iald hx hb hK hP 1 0 rfl rfl (vp_in_nI (n := 1) (by decide) (by decide)) dX5_survey_6 ?_
  refine zz_top (y := S 1) (congrArg S (by decide)) ?_
  refine zz_top (y := nI n) (hS1) ?_
  refine lv_bipush (v := 6) hx hb dX5_survey_7 (by decide) ?_
  refine lv_icmp_ne (tgt := 16) hx hb dX5_survey_9 (by decide) (fun c_9 => ?_) (fun c_9 => ?_)
  · replace c_9 : ¬ n = 6 := fun h => c_9 ((nI_eq (a := n) (b := 6) (by omega) (by omega)).mpr h)
    refine lv_iconst (v := 0) hx hb dX5_survey_16 (by decide) ?_
    refine zw_calli (wr := [((g 1), .inl (y 0, 4023, .inl S))]) (w1 := (fun _ : Unit => [((g 0), .inr (5, [.int 0, .ref (g 1), .int (nI sv), .ref (g 2), .ref (g 3), .int (nI ln), .int (nI at9), .int (nI pl), .int va, .long hs]))])) hP hD hS hA [0] [1] rfl rfl (by decide +kernel) (by decide +kernel) (va_runV (As := [.int 0]) (rest := []) ⟨hx, hb, hml, hown, hts⟩ (mX5_holds l D y _ g th sv ln at9 pl va hs 0) (cwV 1 hts (zgV tw_431 tw_432 tw_433 tw_369 tw_365) rfl rfl rfl (by decide +kernel) ⟨Nat.le_of_ble_eq_true rfl, Nat.le_of_ble_eq_true rfl⟩) (zRW_preV hKN hP hD (ci := 5) (q0 := 0) rfl rfl [0] rfl (by decide)) rfl rfl hl.1 rfl (lv_room (Nat.le_of_ble_eq_true rfl)) dX5_survey_17 ⟨Nat.zero_le _, Nat.zero_le _⟩) (fun r_1 u_2 H locs hw_17 hP hD hS => ?_)
    have hP : va_P D vwCl [((g 1), .inl (y 0, 4023, .inl S)), ((g 0), .inr (5, [.int 0, .ref (g 1), .int (nI sv), .ref (g 2), .ref (g 3), .int (nI ln), .int (nI at9), .int (nI pl), .int va, .long hs]))] H := hP
    have hD : va_D A [((g 1), .inl (y 0, 4023, .inl S)), ((g 0), .inr (5, [.int 0, .ref (g 1), .int (nI sv), .ref (g 2), .ref (g 3), .int (nI ln), .int (nI at9), .int (nI pl), .int va, .long hs]))] := hD
    obtain rfl : r_1 = 1 := hw_17
    refine lv_if_ne (tgt := 25) hx hb dX5_survey_20 (by decide) (fun _ => ?_) (fun c_20 => absurd c_20 (by decide))
    refine lv_aload_n hx hb dX5_survey_25 rfl (lv_at hl 0 rfl) ?_
    refine zw_callv (wr := []) (w1 := (fun _ : Unit => [((g 0), .inr (5, [.int 0, .ref (g 1), .int (nI (sv2 sv)), .ref (g 2), .ref (g 3), .int (nI ln), .int (nI at9), .int (nI pl), .int va, .long hs])), ((g 1), .inl (y 0, 4023, .inl (svS S sv)))])) hP hD hS hA [1, 0] [] rfl rfl (by decide +kernel) (by decide +kernel) (va_runV (As := []) (rest := []) ⟨hx, hb, hml, hown, hts⟩ (mX5_save l D y _ g S 0 sv ln at9 pl va hs (by first | assumption | rfl | omega | decide)) (cwV 0 hts (zgV tw_423 tw_424 tw_425 tw_369 tw_417) rfl rfl rfl (by decide +kernel) ⟨Nat.le_of_ble_eq_true rfl, Nat.le_of_ble_eq_true rfl⟩) (zRW_preV hKN hP hD (ci := 5) (q0 := 1) rfl rfl [1, 0] rfl (by decide)) rfl rfl hl.1 rfl (lv_room (Nat.le_of_ble_eq_true rfl)) dX5_survey_26 ⟨Nat.zero_le _, Nat.zero_le _⟩) (fun u_3 H locs hw_26 hP hD hS => ?_)
    have hP : va_P D vwCl [((g 0), .inr (5, [.int 0, .ref (g 1), .int (nI (sv2 sv)), .ref (g 2), .ref (g 3), .int (nI ln), .int (nI at9), .int (nI pl), .int va, .long hs])), ((g 1), .inl (y 0, 4023, .inl (svS S sv)))] H := hP
    have hD : va_D A [((g 0), .inr (5, [.int 0, .ref (g 1), .int (nI (sv2 sv)), .ref (g 2), .ref (g 3), .int (nI ln), .int (nI at9), .int (nI pl), .int va, .long hs])), ((g 1), .inl (y 0, 4023, .inl (svS S sv)))] := hD
    refine lv_bipush (v := 57) hx hb dX5_survey_29 (by decide) ?_
    refine lv_bipush (v := 65) hx hb dX5_survey_31 (by decide) ?_
    refine lv_aload_n hx hb dX5_survey_33 rfl (lv_at hl 0 rfl) ?_
    refine va_get (D := D) (ci := 5) (v := .ref (g 1)) (C := RX5) (T := TX5) (N := 10) hx hb htg iX5 hown hK hP 0 rfl rfl 1 (by decide) (htg _ tw_359) (fun _ h9 => h9) rfl dX5_survey_34 ?_
    refine lv_iconst (v := 1) hx hb dX5_survey_37 (by decide) ?_
    refine va_iald hx hb hK hP 1 0 rfl rfl (vp_in_nI (n := 1) (by decide) (by decide)) dX5_survey_38 ?_
    refine zz_top (y := (svS S sv) 1) (congrArg (svS S sv) (by decide)) ?_
    refine zz_top (y := nI n) ((svS_lo (by decide)).trans hS1) ?_
    refine lv_imul hx hb dX5_survey_39 ?_
    refine zz_top (y := nI (65 * n)) (pk_mul 65 n) ?_
    refine lv_iadd hx hb dX5_survey_40 ?_
    refine zz_top (y := nI (57 + (65 * n))) (nI_add 57 (65 * n)) ?_
    refine lv_istore_n (lv' := [(1, .int (nI (57 + (65 * n)))), (0, .ref (g 0))]) hx hb dX5_survey_41 rfl hl (by decide) rfl (fun ls hl => ?_)
    refine lv_aload_n hx hb dX5_survey_42 rfl (lv_at hl 1 rfl) ?_
    refine va_get (D := D) (ci := 5) (v := .ref (g 1)) (C := RX5) (T := TX5) (N := 10) hx hb htg iX5 hown hK hP 0 rfl rfl 1 (by decide) (htg _ tw_359) (fun _ h9 => h9) rfl dX5_survey_43 ?_
    refine lv_iload_n hx hb dX5_survey_46 rfl (lv_at hl 0 rfl) ?_
    refine lv_aload_n hx hb dX5_survey_47 rfl (lv_at hl 1 rfl) ?_
    refine va_get (D := D) (ci := 5) (v := .ref (g 1)) (C := RX5) (T := TX5) (N := 10) hx hb htg iX5 hown hK hP 0 rfl rfl 1 (by decide) (htg _ tw_359) (fun _ h9 => h9) rfl dX5_survey_48 ?_
    refine lv_iconst (v := 0) hx hb dX5_survey_51 (by decide) ?_
    refine va_iald hx hb hK hP 1 0 rfl rfl (vp_in_nI (n := 0) (by decide) (by decide)) dX5_survey_52 ?_
    refine zz_top (y := (svS S sv) 0) (congrArg (svS S sv) (by decide)) ?_
    refine va_iast hx hb hK hP hD hS 1 0 rfl rfl (vp_in_nI (by omega) (by decide)) dX5_survey_53 (fun H locs hP hD hS => ?_)
    rw [show (nI (57 + (65 * n))).toNatClampNeg = 57 + (65 * n) from (nI_clamp (by omega))] at hP hD
    have hP : va_P D vwCl [((g 0), .inr (5, [.int 0, .ref (g 1), .int (nI (sv2 sv)), .ref (g 2), .ref (g 3), .int (nI ln), .int (nI at9), .int (nI pl), .int va, .long hs])), ((g 1), .inl (y 0, 4023, .inl (upd (svS S sv) (57 + (65 * n)) ((svS S sv) 0))))] H := hP
    have hD : va_D A [((g 0), .inr (5, [.int 0, .ref (g 1), .int (nI (sv2 sv)), .ref (g 2), .ref (g 3), .int (nI ln), .int (nI at9), .int (nI pl), .int va, .long hs])), ((g 1), .inl (y 0, 4023, .inl (upd (svS S sv) (57 + (65 * n)) ((svS S sv) 0))))] := hD
    refine lv_iconst (v := 0) hx hb dX5_survey_54 (by decide) ?_
    refine lv_istore_n (lv' := [(2, .int 0), (1, .int (nI (57 + (65 * n)))), (0, .ref (g 0))]) hx hb dX5_survey_55 rfl hl (by decide) rfl (fun ls hl => ?_)
    refine zloop (fun i : Nat => 64 - i) (fun i H locs ls => ∃ R2 : Nat → Int32, i ≤ 64 ∧ sv5 (svS S sv) R2 n i ∧ va_P D vwCl [((g 0), .inr (5, [.int 0, .ref (g 1), .int (nI (sv2 sv)), .ref (g 2), .ref (g 3), .int (nI ln), .int (nI at9), .int (nI pl), .int va, .long hs])), ((g 1), .inl (y 0, 4023, .inl R2))] H ∧ va_D A [((g 0), .inr (5, [.int 0, .ref (g 1), .int (nI (sv2 sv)), .ref (g 2), .ref (g 3), .int (nI ln), .int (nI at9), .int (nI pl), .int va, .long hs])), ((g 1), .inl (y 0, 4023, .inl R2))] ∧ va_S A s.heap H locs ∧ lv_has ls 3 [(0, .ref (g 0)), (1, .int (nI (57 + 65 * n))), (2, .int (nI i))]) 56 (fun _ => 0) (fun _ => 0) ?_ (0) ⟨upd (svS S sv) (57 + (65 * n)) ((svS S sv) 0), by omega, sv5_0, hP, hD, hS, lv_sub hl [2, 1, 0] rfl⟩
    clear hl hS hP hD
    rintro i H locs ls ⟨R2, hi, hR2, hP, hD, hS, hl⟩ ih56
    refine lv_iload_n hx hb dX5_survey_56 rfl (lv_at hl 2 rfl) ?_
    refine lv_bipush (v := 64) hx hb dX5_survey_57 (by decide) ?_
    refine lv_icmp_ge (tgt := 93) hx hb dX5_survey_59 (by decide) (fun c_59 => ?_) (fun c_59 => ?_)
    · replace c_59 : 64 ≤ i := (nI_leI (a := 64) (b := i) (by omega) (by omega)).mp c_59
      obtain rfl : i = 64 := by omega
      refine lv_aload_n hx hb dX5_survey_93 rfl (lv_at hl 0 rfl) ?_
      refine va_get (D := D) (ci := 5) (v := .ref (g 1)) (C := RX5) (T := TX5) (N := 10) hx hb htg iX5 hown hK hP 0 rfl rfl 1 (by decide) (htg _ tw_359) (fun _ h9 => h9) rfl dX5_survey_94 ?_
      refine lv_iconst (v := 4) hx hb dX5_survey_97 (by decide) ?_
      refine lv_dup2_11 hx hb dX5_survey_98 rfl rfl ?_
      refine va_iald hx hb hK hP 1 0 rfl rfl (vp_in_nI (n := 4) (by decide) (by decide)) dX5_survey_99 ?_
      refine zz_top (y := R2 4) (congrArg R2 (by decide)) ?_
      refine lv_iconst (v := 1) hx hb dX5_survey_100 (by decide) ?_
      refine lv_iadd hx hb dX5_survey_101 ?_
      refine va_iast hx hb hK hP hD hS 1 0 rfl rfl (vp_in_nI (n := 4) (by decide) (by decide)) dX5_survey_102 (fun H locs hP hD hS => ?_)
      rw [show ((4 : Int32)).toNatClampNeg = 4 from (by decide)] at hP hD
      have hP : va_P D vwCl [((g 0), .inr (5, [.int 0, .ref (g 1), .int (nI (sv2 sv)), .ref (g 2), .ref (g 3), .int (nI ln), .int (nI at9), .int (nI pl), .int va, .long hs])), ((g 1), .inl (y 0, 4023, .inl (upd R2 4 ((R2 4) + 1))))] H := hP
      have hD : va_D A [((g 0), .inr (5, [.int 0, .ref (g 1), .int (nI (sv2 sv)), .ref (g 2), .ref (g 3), .int (nI ln), .int (nI at9), .int (nI pl), .int va, .long hs])), ((g 1), .inl (y 0, 4023, .inl (upd R2 4 ((R2 4) + 1))))] := hD
      refine lv_aload_n hx hb dX5_survey_103 rfl (lv_at hl 0 rfl) ?_
      refine va_get (D := D) (ci := 5) (v := .ref (g 1)) (C := RX5) (T := TX5) (N := 10) hx hb htg iX5 hown hK hP 0 rfl rfl 1 (by decide) (htg _ tw_359) (fun _ h9 => h9) rfl dX5_survey_104 ?_
      refine lv_iconst (v := 1) hx hb dX5_survey_107 (by decide) ?_
      refine lv_dup2_11 hx hb dX5_survey_108 rfl rfl ?_
      refine va_iald hx hb hK hP 1 0 rfl rfl (vp_in_nI (n := 1) (by decide) (by decide)) dX5_survey_109 ?_
      refine zz_top (y := (upd R2 4 ((R2 4) + 1)) 1) (congrArg (upd R2 4 ((R2 4) + 1)) (by decide)) ?_
      refine zz_top (y := nI n) ((pk_un (by decide)).trans ((sv5_lo hR2 1 (by decide)).trans ((svS_lo (by decide)).trans hS1))) ?_
      refine lv_iconst (v := 1) hx hb dX5_survey_110 (by decide) ?_
      refine lv_iadd hx hb dX5_survey_111 ?_
      refine zz_top (y := nI (n + 1)) (nI_add n 1) ?_
      refine va_iast hx hb hK hP hD hS 1 0 rfl rfl (vp_in_nI (n := 1) (by decide) (by decide)) dX5_survey_112 (fun H locs hP hD hS => ?_)
      rw [show ((1 : Int32)).toNatClampNeg = 1 from (by decide)] at hP hD
      have hP : va_P D vwCl [((g 0), .inr (5, [.int 0, .ref (g 1), .int (nI (sv2 sv)), .ref (g 2), .ref (g 3), .int (nI ln), .int (nI at9), .int (nI pl), .int va, .long hs])), ((g 1), .inl (y 0, 4023, .inl (upd (upd R2 4 ((R2 4) + 1)) 1 (nI (n + 1)))))] H := hP
      have hD : va_D A [((g 0), .inr (5, [.int 0, .ref (g 1), .int (nI (sv2 sv)), .ref (g 2), .ref (g 3), .int (nI ln), .int (nI at9), .int (nI pl), .int va, .long hs])), ((g 1), .inl (y 0, 4023, .inl (upd (upd R2 4 ((R2 4) + 1)) 1 (nI (n + 1)))))] := hD
      rw [sv5_e hR2 ((svS_lo (by decide)).trans hS1)] at hP hD
      have hP : va_P D vwCl [((g 0), .inr (5, [.int 0, .ref (g 1), .int (nI (sv2 sv)), .ref (g 2), .ref (g 3), .int (nI ln), .int (nI at9), .int (nI pl), .int va, .long hs])), ((g 1), .inl (y 0, 4023, .inl (qSv (svS S sv) n)))] H := hP
      have hD : va_D A [((g 0), .inr (5, [.int 0, .ref (g 1), .int (nI (sv2 sv)), .ref (g 2), .ref (g 3), .int (nI ln), .int (nI at9), .int (nI pl), .int va, .long hs])), ((g 1), .inl (y 0, 4023, .inl (qSv (svS S sv) n)))] := hD
      refine lv_aload_n hx hb dX5_survey_113 rfl (lv_at hl 0 rfl) ?_
      refine va_get (D := D) (ci := 5) (v := .ref (g 1)) (C := RX5) (T := TX5) (N := 10) hx hb htg iX5 hown hK hP 0 rfl rfl 1 (by decide) (htg _ tw_359) (fun _ h9 => h9) rfl dX5_survey_114 ?_
      refine lv_iconst (v := 1) hx hb dX5_survey_117 (by decide) ?_
      refine va_iald hx hb hK hP 1 0 rfl rfl (vp_in_nI (n := 1) (by decide) (by decide)) dX5_survey_118 ?_
      refine zz_top (y := (qSv (svS S sv) n) 1) (congrArg (qSv (svS S sv) n) (by decide)) ?_
      refine zz_top (y := nI (n + 1)) (rfl) ?_
      refine lv_iconst (v := 1) hx hb dX5_survey_119 (by decide) ?_
      refine lv_isub hx hb dX5_survey_120 ?_
      refine zz_top (y := nI n) (pk_sub (a := n + 1) (b := 1) (by omega)) ?_
      refine W.widen (k := 0) (n := 0) (by first | exact Nat.le_of_ble_eq_true rfl | omega) (by first | exact Nat.le_of_ble_eq_true rfl | omega) ?_
      exact W.iret (v := (nI n)) hx hb hr (fun t ht hW => ⟨⟨nI n, (), rfl, by first | rfl | trivial | simp_all, ⟨by rw [ht]; exact hP, hD⟩⟩, hS.F ht⟩) hS.2.2 dX5_survey_121
    · replace c_59 : ¬ 64 ≤ i := fun h => c_59 ((nI_leI (a := 64) (b := i) (by omega) (by omega)).mpr h)
      refine lv_aload_n hx hb dX5_survey_62 rfl (lv_at hl 0 rfl) ?_
      refine va_get (D := D) (ci := 5) (v := .ref (g 1)) (C := RX5) (T := TX5) (N := 10) hx hb htg iX5 hown hK hP 0 rfl rfl 1 (by decide) (htg _ tw_359) (fun _ h9 => h9) rfl dX5_survey_63 ?_
      refine lv_iload_n hx hb dX5_survey_66 rfl (lv_at hl 1 rfl) ?_
      refine lv_iconst (v := 1) hx hb dX5_survey_67 (by decide) ?_
      refine lv_iadd hx hb dX5_survey_68 ?_
      refine zz_top (y := nI ((57 + 65 * n) + 1)) (nI_add (57 + 65 * n) 1) ?_
      refine lv_iload_n hx hb dX5_survey_69 rfl (lv_at hl 2 rfl) ?_
      refine lv_iadd hx hb dX5_survey_70 ?_
      refine zz_top (y := nI (((57 + 65 * n) + 1) + i)) (nI_add ((57 + 65 * n) + 1) i) ?_
      refine lv_aload_n hx hb dX5_survey_71 rfl (lv_at hl 0 rfl) ?_
      refine lv_iload_n hx hb dX5_survey_72 rfl (lv_at hl 2 rfl) ?_
      refine lv_iconst (v := 4) hx hb dX5_survey_73 (by decide) ?_
      refine lv_idiv hx hb dX5_survey_74 (by decide) ?_
      refine zz_top (y := nI (i / 4)) (pk_div (by omega) (by decide) (by decide)) ?_
      refine lv_iload_n hx hb dX5_survey_75 rfl (lv_at hl 2 rfl) ?_
      refine lv_iconst (v := 2) hx hb dX5_survey_76 (by decide) ?_
      refine lv_idiv hx hb dX5_survey_77 (by decide) ?_
      refine zz_top (y := nI (i / 2)) (pk_div (by omega) (by decide) (by decide)) ?_
      refine lv_iconst (v := 2) hx hb dX5_survey_78 (by decide) ?_
      refine lv_irem hx hb dX5_survey_79 (by decide) ?_
      refine zz_top (y := nI ((i / 2) % 2)) (pk_rem (by omega) (by decide) (by decide)) ?_
      refine lv_iload_n hx hb dX5_survey_80 rfl (lv_at hl 2 rfl) ?_
      refine lv_iconst (v := 2) hx hb dX5_survey_81 (by decide) ?_
      refine lv_irem hx hb dX5_survey_82 (by decide) ?_
      refine zz_top (y := nI (i % 2)) (pk_rem (by omega) (by decide) (by decide)) ?_
      refine zr_calli (va_runV (As := [.int (nI (i / 4)), .int (nI ((i / 2) % 2)), .int (nI (i % 2))]) (rest := [.int (nI (((57 + 65 * n) + 1) + i)), .ref (g 1)]) ⟨hx, hb, hml, hown, hts⟩ (mX5_wouldRead l D y g R2 0 (sv2 sv) ln at9 pl va hs (i / 4) ((i / 2) % 2) (i % 2) (by first | assumption | rfl | omega | decide) (by first | assumption | rfl | omega | decide) (by first | assumption | rfl | omega | decide) (hTq_of (sv5_lo hR2) (hTq_sv hTu))) (cwV 3 hts (zgV tw_443 tw_444 tw_445 tw_369 tw_382) rfl rfl rfl (by decide +kernel) ⟨Nat.le_of_ble_eq_true rfl, Nat.le_of_ble_eq_true rfl⟩) (zRO_preV hKN hP (ci := 5) (q0 := 0) rfl rfl [0, 1] rfl) rfl rfl hl.1 rfl (lv_room (Nat.le_of_ble_eq_true rfl)) dX5_survey_83 ⟨Nat.zero_le _, Nat.zero_le _⟩) hS (fun r_4 H locs hw_83 hT hS => ?_)
      replace hP := hT _ _ hP
      obtain rfl : r_4 = qPr R2 (i / 4) ((i / 2) % 2) (i % 2) := hw_83
      refine va_iast hx hb hK hP hD hS 1 0 rfl rfl (vp_in_nI (by omega) (by decide)) dX5_survey_86 (fun H locs hP hD hS => ?_)
      rw [show (nI (((57 + 65 * n) + 1) + i)).toNatClampNeg = ((57 + 65 * n) + 1) + i from (nI_clamp (by omega))] at hP hD
      have hP : va_P D vwCl [((g 0), .inr (5, [.int 0, .ref (g 1), .int (nI (sv2 sv)), .ref (g 2), .ref (g 3), .int (nI ln), .int (nI at9), .int (nI pl), .int va, .long hs])), ((g 1), .inl (y 0, 4023, .inl (upd R2 (((57 + 65 * n) + 1) + i) (qPr R2 (i / 4) ((i / 2) % 2) (i % 2)))))] H := hP
      have hD : va_D A [((g 0), .inr (5, [.int 0, .ref (g 1), .int (nI (sv2 sv)), .ref (g 2), .ref (g 3), .int (nI ln), .int (nI at9), .int (nI pl), .int va, .long hs])), ((g 1), .inl (y 0, 4023, .inl (upd R2 (((57 + 65 * n) + 1) + i) (qPr R2 (i / 4) ((i / 2) % 2) (i % 2)))))] := hD
      refine lv_iinc (v := nI (i + 1)) (lv' := [(2, .int (nI (i + 1))), (0, .ref (g 0)), (1, .int (nI (57 + 65 * n)))]) hx hb dX5_survey_87 hl (k := 2) rfl (nI_1 i) (by decide) rfl (fun ls hl => ?_)
      refine lv_goto (tgt := 56) hx hb dX5_survey_90 (by decide) ?_
      exact ih56 (i + 1) _ _ _ (by omega) ⟨upd R2 (((57 + 65 * n) + 1) + i) (qPr R2 (i / 4) ((i / 2) % 2) (i % 2)), by omega, sv5_1 hR2 (by omega), hP, hD, hS, lv_sub hl [1, 2, 0] rfl⟩
  · replace c_9 : n = 6 := (nI_eq (a := n) (b := 6) (by omega) (by omega)).mp c_9
    exfalso; omega

set_option maxHeartbeats 4000000 in
set_option maxRecDepth 100000 in
theorem mX5_survey_b1 (l : Launch) (D : va_G) (y : Nat → ClassId) (sz : Nat) (g : Nat → Nat) (S : (Nat → Int32)) (th : Int32) (sv : Nat) (ln : Nat) (at9 : Nat) (pl : Nat) (va : Int32) (hs : Int64) (hb1 : S 1 = 6) : Met l yX5_survey (ws_ yX5_survey cX5_survey 3 (some .int)) ({ frames := 1, cells := 0, slots := 0, locals := 21 }) (va_Pc [.ref (g 0)] (zRW D y [((g 0), .inr (5, [.int th, .ref (g 1), .int (nI sv), .ref (g 2), .ref (g 3), .int (nI ln), .int (nI at9), .int (nI pl), .int va, .long hs])), ((g 1), .inl (y 0, 4023, .inl S))] sz)) (va_Qi (fun (r : Int32) (_ : Unit) => r = 0) (fun (_ : Unit) t => zOut D (va_A [((g 0), .inr (5, [.int th, .ref (g 1), .int (nI sv), .ref (g 2), .ref (g 3), .int (nI ln), .int (nI at9), .int (nI pl), .int va, .long hs])), ((g 1), .inl (y 0, 4023, .inl S))] sz) [((g 0), .inr (5, [.int 1, .ref (g 1), .int (nI sv), .ref (g 2), .ref (g 3), .int (nI ln), .int (nI at9), .int (nI pl), .int va, .long hs])), ((g 1), .inl (y 0, 4023, .inl S))] t) (va_A [((g 0), .inr (5, [.int th, .ref (g 1), .int (nI sv), .ref (g 2), .ref (g 3), .int (nI ln), .int (nI at9), .int (nI pl), .int va, .long hs])), ((g 1), .inl (y 0, 4023, .inl S))] sz)) 0 0 (va_A [((g 0), .inr (5, [.int th, .ref (g 1), .int (nI sv), .ref (g 2), .ref (g 3), .int (nI ln), .int (nI at9), .int (nI pl), .int va, .long hs])), ((g 1), .inl (y 0, 4023, .inl S))] sz) := by
  refine Met.ofW (cc := cX5_survey) (maxL := 3) (ret := (some .int)) (by decide) rfl ?_
  intro p e s m args below meth c s₁ B hml hpre9
  obtain ⟨rfl, hsz, hP, hKN, hD0⟩ := hpre9
  have hK := hKN.1
  have hx := B.exec
  have hb := B.bytes
  have hr := B.returns
  have hts := atoms_spec (ws := (ws_ yX5_survey cX5_survey 3 (some .int))) B.pre
  have htg : ∀ w ∈ gT, w.before _ s = true := fun w h => hts w (List.mem_cons_of_mem _ h)
  have hown : s.vm.findClass RX5 = some m.cls := findClass_of_methodNamed B.named
  have hlocks := B.notSynchronized
  subst hsz
  have hD := hD0.self (sz := s.heap.size)
  clear hD0
  generalize hAe : va_A [((g 0), .inr (5, [.int th, .ref (g 1), .int (nI sv), .ref (g 2), .ref (g 3), .int (nI ln), .int (nI at9), .int (nI pl), .int va, .long hs])), ((g 1), .inl (y 0, 4023, .inl S))] s.heap.size = A at hD ⊢
  have hA : ∀ q : Nat, s.heap.size ≤ q → A q := fun q h => by rw [← hAe]; exact Or.inr h
  have hS : va_S A s.heap s.heap [] := va_S.rf
  have hP : va_P D vwCl [((g 0), .inr (5, [.int th, .ref (g 1), .int (nI sv), .ref (g 2), .ref (g 3), .int (nI ln), .int (nI at9), .int (nI pl), .int va, .long hs])), ((g 1), .inl (y 0, 4023, .inl S))] s.heap := hP
  have hl := lv_entry ([.ref (g 0)]) (n := 3) (Nat.le_of_ble_eq_true rfl)
  rw [lg_entry_eq]
  generalize (lg_sl ([.ref (g 0)]) ++ List.replicate (3 - (lg_sl ([.ref (g 0)])).length) Slot.unset).toArray = ls at hl ⊢
  have hl : lv_has ls 3 [(0, .ref (g 0))] := hl
  refine lv_aload_n hx hb dX5_survey_0 rfl (lv_at hl 0 rfl) ?_
  refine lv_aload_n hx hb dX5_survey_1 rfl (lv_at hl 0 rfl) ?_
  refine va_get (D := D) (ci := 5) (v := .ref (g 1)) (C := RX5) (T := TX5) (N := 10) hx hb htg iX5 hown hK hP 0 rfl rfl 1 (by decide) (htg _ tw_359) (fun _ h9 => h9) rfl dX5_survey_2 ?_
  refine lv_iconst (v := 1) hx hb dX5_survey_5 (by decide) ?_
  refine va_iald hx hb hK hP 1 0 rfl rfl (vp_in_nI (n := 1) (by decide) (by decide)) dX5_survey_6 ?_
  refine zz_top (y := S 1) (congrArg S (by decide)) ?_
  refine lv_bipush (v := 6) hx hb dX5_survey_7 (by decide) ?_
  refine lv_icmp_ne (tgt := 16) hx hb dX5_survey_9 (by decide) (fun c_9 => absurd (hb1) c_9) (fun _ => ?_)
  refine lv_iconst (v := 1) hx hb dX5_survey_12 (by decide) ?_
  refine lv_goto (tgt := 17) hx hb dX5_survey_13 (by decide) ?_
  refine zw_calli (wr := [((g 1), .inl (y 0, 4023, .inl S))]) (w1 := (fun _ : Unit => [((g 0), .inr (5, [.int 1, .ref (g 1), .int (nI sv), .ref (g 2), .ref (g 3), .int (nI ln), .int (nI at9), .int (nI pl), .int va, .long hs]))])) hP hD hS hA [0] [1] rfl rfl (by decide +kernel) (by decide +kernel) (va_runV (As := [.int 1]) (rest := []) ⟨hx, hb, hml, hown, hts⟩ (mX5_holds l D y _ g th sv ln at9 pl va hs 1) (cwV 1 hts (zgV tw_431 tw_432 tw_433 tw_369 tw_365) rfl rfl rfl (by decide +kernel) ⟨Nat.le_of_ble_eq_true rfl, Nat.le_of_ble_eq_true rfl⟩) (zRW_preV hKN hP hD (ci := 5) (q0 := 0) rfl rfl [0] rfl (by decide)) rfl rfl hl.1 rfl (lv_room (Nat.le_of_ble_eq_true rfl)) dX5_survey_17 ⟨Nat.zero_le _, Nat.zero_le _⟩) (fun r_1 u_2 H locs hw_17 hP hD hS => ?_)
  have hP : va_P D vwCl [((g 1), .inl (y 0, 4023, .inl S)), ((g 0), .inr (5, [.int 1, .ref (g 1), .int (nI sv), .ref (g 2), .ref (g 3), .int (nI ln), .int (nI at9), .int (nI pl), .int va, .long hs]))] H := hP
  have hD : va_D A [((g 1), .inl (y 0, 4023, .inl S)), ((g 0), .inr (5, [.int 1, .ref (g 1), .int (nI sv), .ref (g 2), .ref (g 3), .int (nI ln), .int (nI at9), .int (nI pl), .int va, .long hs]))] := hD
  obtain rfl : r_1 = 0 := hw_17
  refine lv_if_ne (tgt := 25) hx hb dX5_survey_20 (by decide) (fun c_20 => absurd (by decide) c_20) (fun _ => ?_)
  refine lv_iconst (v := 0) hx hb dX5_survey_23 (by decide) ?_
  have hP := hP.sub (ws' := [((g 0), .inr (5, [.int 1, .ref (g 1), .int (nI sv), .ref (g 2), .ref (g 3), .int (nI ln), .int (nI at9), .int (nI pl), .int va, .long hs])), ((g 1), .inl (y 0, 4023, .inl S))]) [1, 0] rfl
  have hD := hD.sub (ws' := [((g 0), .inr (5, [.int 1, .ref (g 1), .int (nI sv), .ref (g 2), .ref (g 3), .int (nI ln), .int (nI at9), .int (nI pl), .int va, .long hs])), ((g 1), .inl (y 0, 4023, .inl S))]) [1, 0] (by decide) rfl
  refine W.widen (k := 0) (n := 0) (by first | exact Nat.le_of_ble_eq_true rfl | omega) (by first | exact Nat.le_of_ble_eq_true rfl | omega) ?_
  exact W.iret (v := 0) hx hb hr (fun t ht hW => ⟨⟨0, (), rfl, by first | rfl | trivial | simp_all, ⟨by rw [ht]; exact hP, hD⟩⟩, hS.F ht⟩) hS.2.2 dX5_survey_24

set_option maxHeartbeats 4000000 in
set_option maxRecDepth 100000 in
theorem mX5_spoil (l : Launch) (D : va_G) (y : Nat → ClassId) (sz : Nat) (g : Nat → Nat) (S : (Nat → Int32)) (th : Int32) (sv : Nat) (ln : Nat) (at9 : Nat) (pl : Nat) (va : Int32) (hs : Int64) (n : Nat) (v : Nat) (q : Nat) (f : Nat) (x : Int32) (hv : sv ≤ 6) (hn : 0 < n) (hn6 : n ≤ 6) (hS1 : S 1 = nI n) (hl9 : v < 16) (hq : q < 2) (hf : f < 2) (hx1 : ¬ x < (-99) ∧ ¬ 99 < x) (hx2 : ¬ (S (58 + 65 * (n - 1) + 4 * v + 2 * q + f) + x) < (-900) ∧ ¬ 900 < (S (58 + 65 * (n - 1) + 4 * v + 2 * q + f) + x)) : Met l yX5_spoil (ws_ yX5_spoil cX5_spoil 8 (some .int)) ({ frames := 3, cells := 0, slots := 0, locals := 67 }) (va_Pc [.ref (g 0), .int (nI v), .int (nI q), .int (nI f), .int x] (zRW D y [((g 0), .inr (5, [.int th, .ref (g 1), .int (nI sv), .ref (g 2), .ref (g 3), .int (nI ln), .int (nI at9), .int (nI pl), .int va, .long hs])), ((g 1), .inl (y 0, 4023, .inl S))] sz)) (va_Qi (fun (r : Int32) (_ : Unit) => r = S (58 + 65 * (n - 1) + 4 * v + 2 * q + f) + x) (fun (_ : Unit) t => zOut D (va_A [((g 0), .inr (5, [.int th, .ref (g 1), .int (nI sv), .ref (g 2), .ref (g 3), .int (nI ln), .int (nI at9), .int (nI pl), .int va, .long hs])), ((g 1), .inl (y 0, 4023, .inl S))] sz) [((g 0), .inr (5, [.int 0, .ref (g 1), .int (nI (sv2 sv)), .ref (g 2), .ref (g 3), .int (nI ln), .int (nI at9), .int (nI pl), .int va, .long hs])), ((g 1), .inl (y 0, 4023, .inl (upd (upd (svS S sv) (58 + 65 * (n - 1) + 4 * v + 2 * q + f) (S (58 + 65 * (n - 1) + 4 * v + 2 * q + f) + x)) 5 (S 5 + 1))))] t) (va_A [((g 0), .inr (5, [.int th, .ref (g 1), .int (nI sv), .ref (g 2), .ref (g 3), .int (nI ln), .int (nI at9), .int (nI pl), .int va, .long hs])), ((g 1), .inl (y 0, 4023, .inl S))] sz)) 0 0 (va_A [((g 0), .inr (5, [.int th, .ref (g 1), .int (nI sv), .ref (g 2), .ref (g 3), .int (nI ln), .int (nI at9), .int (nI pl), .int va, .long hs])), ((g 1), .inl (y 0, 4023, .inl S))] sz) := by
  refine Met.ofW (cc := cX5_spoil) (maxL := 8) (ret := (some .int)) (by decide) rfl ?_
  intro p e s m args below meth c s₁ B hml hpre9
  obtain ⟨rfl, hsz, hP, hKN, hD0⟩ := hpre9
  have hK := hKN.1
  have hx := B.exec
  have hb := B.bytes
  have hr := B.returns
  have hts := atoms_spec (ws := (ws_ yX5_spoil cX5_spoil 8 (some .int))) B.pre
  have htg : ∀ w ∈ gT, w.before _ s = true := fun w h => hts w (List.mem_cons_of_mem _ h)
  have hown : s.vm.findClass RX5 = some m.cls := findClass_of_methodNamed B.named
  have hlocks := B.notSynchronized
  subst hsz
  have hD := hD0.self (sz := s.heap.size)
  clear hD0
  generalize hAe : va_A [((g 0), .inr (5, [.int th, .ref (g 1), .int (nI sv), .ref (g 2), .ref (g 3), .int (nI ln), .int (nI at9), .int (nI pl), .int va, .long hs])), ((g 1), .inl (y 0, 4023, .inl S))] s.heap.size = A at hD ⊢
  have hA : ∀ q : Nat, s.heap.size ≤ q → A q := fun q h => by rw [← hAe]; exact Or.inr h
  have hS : va_S A s.heap s.heap [] := va_S.rf
  have hP : va_P D vwCl [((g 0), .inr (5, [.int th, .ref (g 1), .int (nI sv), .ref (g 2), .ref (g 3), .int (nI ln), .int (nI at9), .int (nI pl), .int va, .long hs])), ((g 1), .inl (y 0, 4023, .inl S))] s.heap := hP
  have hl := lv_entry ([.ref (g 0), .int (nI v), .int (nI q), .int (nI f), .int x]) (n := 8) (Nat.le_of_ble_eq_true rfl)
  rw [lg_entry_eq]
  generalize (lg_sl ([.ref (g 0), .int (nI v), .int (nI q), .int (nI f), .int x]) ++ List.replicate (8 - (lg_sl ([.ref (g 0), .int (nI v), .int (nI q), .int (nI f), .int x])).length) Slot.unset).toArray = ls at hl ⊢
  have hl : lv_has ls 8 [(0, .ref (g 0)), (1, .int (nI v)), (2, .int (nI q)), (3, .int (nI f)), (4, .int x)] := hl
  refine lv_iload_n hx hb dX5_spoil_0 rfl (lv_at hl 1 rfl) ?_
  refine zr_calli (va_runS (As := [.int (nI v)]) (rest := []) ⟨hx, hb, hml, hown, hts⟩ (mX5_isLevel l (nI v)) (va_cwS 1 hts (zgS tw_427 tw_428 tw_369 tw_366) rfl rfl rfl (by decide +kernel) ⟨Nat.le_of_ble_eq_true rfl, Nat.le_of_ble_eq_true rfl⟩) zP_pre rfl rfl hl.1 rfl (lv_room (Nat.le_of_ble_eq_true rfl)) dX5_spoil_1 ⟨Nat.zero_le _, Nat.zero_le _⟩) hS (fun r_1 H locs hw_1 hT hS => ?_)
  replace hP := hT _ _ hP
  obtain rfl : r_1 = (if ¬ (nI v) < 0 ∧ ¬ 15 < (nI v) then (1 : Int32) else 0) := hw_1
  refine lv_if_eq (tgt := 25) hx hb dX5_spoil_4 (by decide) (fun c_4 => absurd c_4 (zb1.mpr ⟨nI_pos (n := v) (by omega), nI_nlt (a := 15) (b := v) (by omega) (by omega)⟩)) (fun _ => ?_)
  refine lv_iload_n hx hb dX5_spoil_7 rfl (lv_at hl 2 rfl) ?_
  refine zr_calli (va_runS (As := [.int (nI q)]) (rest := []) ⟨hx, hb, hml, hown, hts⟩ (mX5_isSide l (nI q)) (va_cwS 1 hts (zgS tw_429 tw_430 tw_369 tw_370) rfl rfl rfl (by decide +kernel) ⟨Nat.le_of_ble_eq_true rfl, Nat.le_of_ble_eq_true rfl⟩) zP_pre rfl rfl hl.1 rfl (lv_room (Nat.le_of_ble_eq_true rfl)) dX5_spoil_8 ⟨Nat.zero_le _, Nat.zero_le _⟩) hS (fun r_2 H locs hw_8 hT hS => ?_)
  replace hP := hT _ _ hP
  obtain rfl : r_2 = (if ¬ (nI q) < 0 ∧ ¬ 1 < (nI q) then (1 : Int32) else 0) := hw_8
  refine lv_if_eq (tgt := 25) hx hb dX5_spoil_11 (by decide) (fun c_11 => absurd c_11 (zb1.mpr ⟨nI_pos (n := q) (by omega), nI_nlt (a := 1) (b := q) (by omega) (by omega)⟩)) (fun _ => ?_)
  refine lv_iload_n hx hb dX5_spoil_14 rfl (lv_at hl 3 rfl) ?_
  refine zr_calli (va_runS (As := [.int (nI f)]) (rest := []) ⟨hx, hb, hml, hown, hts⟩ (mX5_isSide l (nI f)) (va_cwS 1 hts (zgS tw_429 tw_430 tw_369 tw_370) rfl rfl rfl (by decide +kernel) ⟨Nat.le_of_ble_eq_true rfl, Nat.le_of_ble_eq_true rfl⟩) zP_pre rfl rfl hl.1 rfl (lv_room (Nat.le_of_ble_eq_true rfl)) dX5_spoil_15 ⟨Nat.zero_le _, Nat.zero_le _⟩) hS (fun r_3 H locs hw_15 hT hS => ?_)
  replace hP := hT _ _ hP
  obtain rfl : r_3 = (if ¬ (nI f) < 0 ∧ ¬ 1 < (nI f) then (1 : Int32) else 0) := hw_15
  refine lv_if_eq (tgt := 25) hx hb dX5_spoil_18 (by decide) (fun c_18 => absurd c_18 (zb1.mpr ⟨nI_pos (n := f) (by omega), nI_nlt (a := 1) (b := f) (by omega) (by omega)⟩)) (fun _ => ?_)
  refine lv_iconst (v := 1) hx hb dX5_spoil_21 (by decide) ?_
  refine lv_goto (tgt := 26) hx hb dX5_spoil_22 (by decide) ?_
  refine lv_istore (lv' := [(5, .int 1), (0, .ref (g 0)), (1, .int (nI v)), (2, .int (nI q)), (3, .int (nI f)), (4, .int x)]) hx hb dX5_spoil_26 hl (by decide) rfl (fun ls hl => ?_)
  refine lv_iload hx hb dX5_spoil_28 (lv_at hl 0 rfl) ?_
  refine lv_if_eq (tgt := 76) hx hb dX5_spoil_30 (by decide) (fun c_30 => absurd c_30 (by decide)) (fun _ => ?_)
  refine lv_aload_n hx hb dX5_spoil_33 rfl (lv_at hl 1 rfl) ?_
  refine va_get (D := D) (ci := 5) (v := .ref (g 1)) (C := RX5) (T := TX5) (N := 10) hx hb htg iX5 hown hK hP 0 rfl rfl 1 (by decide) (htg _ tw_359) (fun _ h9 => h9) rfl dX5_spoil_34 ?_
  refine lv_iconst (v := 1) hx hb dX5_spoil_37 (by decide) ?_
  refine va_iald hx hb hK hP 1 0 rfl rfl (vp_in_nI (n := 1) (by decide) (by decide)) dX5_spoil_38 ?_
  refine zz_top (y := S 1) (congrArg S (by decide)) ?_
  refine zz_top (y := nI n) (hS1) ?_
  refine lv_if_le (tgt := 76) hx hb dX5_spoil_39 (by decide) (fun c_39 => ?_) (fun c_39 => ?_)
  · replace c_39 : n ≤ 0 := (nI_leI (a := n) (b := 0) (by omega) (by omega)).mp c_39
    exfalso; omega
  · replace c_39 : ¬ n ≤ 0 := fun h => c_39 ((nI_leI (a := n) (b := 0) (by omega) (by omega)).mpr h)
    refine lv_aload_n hx hb dX5_spoil_42 rfl (lv_at hl 1 rfl) ?_
    refine lv_aload_n hx hb dX5_spoil_43 rfl (lv_at hl 1 rfl) ?_
    refine va_get (D := D) (ci := 5) (v := .ref (g 1)) (C := RX5) (T := TX5) (N := 10) hx hb htg iX5 hown hK hP 0 rfl rfl 1 (by decide) (htg _ tw_359) (fun _ h9 => h9) rfl dX5_spoil_44 ?_
    refine lv_iconst (v := 1) hx hb dX5_spoil_47 (by decide) ?_
    refine va_iald hx hb hK hP 1 0 rfl rfl (vp_in_nI (n := 1) (by decide) (by decide)) dX5_spoil_48 ?_
    refine zz_top (y := S 1) (congrArg S (by decide)) ?_
    refine zz_top (y := nI n) (hS1) ?_
    refine lv_iconst (v := 1) hx hb dX5_spoil_49 (by decide) ?_
    refine lv_isub hx hb dX5_spoil_50 ?_
    refine zz_top (y := nI (n - 1)) (pk_sub (a := n) (b := 1) (by omega)) ?_
    refine lv_iload_n hx hb dX5_spoil_51 rfl (lv_at hl 2 rfl) ?_
    refine lv_iload_n hx hb dX5_spoil_52 rfl (lv_at hl 3 rfl) ?_
    refine lv_iload_n hx hb dX5_spoil_53 rfl (lv_at hl 4 rfl) ?_
    refine zr_calli (va_runV (As := [.int (nI (n - 1)), .int (nI v), .int (nI q), .int (nI f)]) (rest := []) ⟨hx, hb, hml, hown, hts⟩ (mX5_read l D y g S th sv ln at9 pl va hs (n - 1) v q f (by first | assumption | rfl | omega | decide) (by first | assumption | rfl | omega | decide) (by first | assumption | rfl | omega | decide) (by first | assumption | rfl | omega | decide)) (cwV 4 hts (zgV tw_391 tw_392 tw_393 tw_369 tw_387) rfl rfl rfl (by decide +kernel) ⟨Nat.le_of_ble_eq_true rfl, Nat.le_of_ble_eq_true rfl⟩) (zRO_preV hKN hP (ci := 5) (q0 := 0) rfl rfl [0, 1] rfl) rfl rfl hl.1 rfl (lv_room (Nat.le_of_ble_eq_true rfl)) dX5_spoil_54 ⟨Nat.zero_le _, Nat.zero_le _⟩) hS (fun r_4 H locs hw_54 hT hS => ?_)
    replace hP := hT _ _ hP
    obtain rfl : r_4 = qRd S (n - 1) v q f := hw_54
    refine lv_iload hx hb dX5_spoil_57 (lv_at hl 5 rfl) ?_
    refine lv_iadd hx hb dX5_spoil_59 ?_
    refine lv_sipush (v := (-900)) hx hb dX5_spoil_60 (by decide) ?_
    refine lv_sipush (v := 900) hx hb dX5_spoil_63 (by decide) ?_
    refine zr_calli (va_runS (As := [.int ((qRd S (n - 1) v q f) + x), .int (-900), .int 900]) (rest := []) ⟨hx, hb, hml, hown, hts⟩ (mX5_in l ((qRd S (n - 1) v q f) + x) (-900) 900) (va_cwS 3 hts (zgS tw_367 tw_368 tw_369 tw_364) rfl rfl rfl (by decide +kernel) ⟨Nat.le_of_ble_eq_true rfl, Nat.le_of_ble_eq_true rfl⟩) zP_pre rfl rfl hl.1 rfl (lv_room (Nat.le_of_ble_eq_true rfl)) dX5_spoil_66 ⟨Nat.zero_le _, Nat.zero_le _⟩) hS (fun r_5 H locs hw_66 hT hS => ?_)
    replace hP := hT _ _ hP
    obtain rfl : r_5 = (if ¬ ((qRd S (n - 1) v q f) + x) < (-900) ∧ ¬ 900 < ((qRd S (n - 1) v q f) + x) then (1 : Int32) else 0) := hw_66
    refine lv_if_eq (tgt := 76) hx hb dX5_spoil_69 (by decide) (fun c_69 => absurd c_69 (zb1.mpr hx2)) (fun _ => ?_)
    refine lv_iconst (v := 1) hx hb dX5_spoil_72 (by decide) ?_
    refine lv_goto (tgt := 77) hx hb dX5_spoil_73 (by decide) ?_
    refine lv_istore (lv' := [(6, .int 1), (5, .int 1), (0, .ref (g 0)), (1, .int (nI v)), (2, .int (nI q)), (3, .int (nI f)), (4, .int x)]) hx hb dX5_spoil_77 hl (by decide) rfl (fun ls hl => ?_)
    refine lv_aload_n hx hb dX5_spoil_79 rfl (lv_at hl 2 rfl) ?_
    refine lv_iload hx hb dX5_spoil_80 (lv_at hl 1 rfl) ?_
    refine lv_if_ne (tgt := 89) hx hb dX5_spoil_82 (by decide) (fun _ => ?_) (fun c_82 => absurd c_82 (by decide))
    refine lv_iload hx hb dX5_spoil_89 (lv_at hl 6 rfl) ?_
    refine lv_bipush (v := (-99)) hx hb dX5_spoil_91 (by decide) ?_
    refine lv_bipush (v := 99) hx hb dX5_spoil_93 (by decide) ?_
    refine zr_calli (va_runS (As := [.int x, .int (-99), .int 99]) (rest := [.ref (g 0)]) ⟨hx, hb, hml, hown, hts⟩ (mX5_in l x (-99) 99) (va_cwS 3 hts (zgS tw_367 tw_368 tw_369 tw_364) rfl rfl rfl (by decide +kernel) ⟨Nat.le_of_ble_eq_true rfl, Nat.le_of_ble_eq_true rfl⟩) zP_pre rfl rfl hl.1 rfl (lv_room (Nat.le_of_ble_eq_true rfl)) dX5_spoil_95 ⟨Nat.zero_le _, Nat.zero_le _⟩) hS (fun r_6 H locs hw_95 hT hS => ?_)
    replace hP := hT _ _ hP
    obtain rfl : r_6 = (if ¬ x < (-99) ∧ ¬ 99 < x then (1 : Int32) else 0) := hw_95
    refine lv_if_ne (tgt := 105) hx hb dX5_spoil_98 (by decide) (fun _ => ?_) (fun c_98 => absurd c_98 (zb1.mpr hx1))
    refine lv_iload hx hb dX5_spoil_105 (lv_at hl 0 rfl) ?_
    refine lv_if_ne (tgt := 114) hx hb dX5_spoil_107 (by decide) (fun _ => ?_) (fun c_107 => absurd c_107 (by decide))
    refine lv_iconst (v := 0) hx hb dX5_spoil_114 (by decide) ?_
    refine zw_calli (wr := [((g 1), .inl (y 0, 4023, .inl S))]) (w1 := (fun _ : Unit => [((g 0), .inr (5, [.int 0, .ref (g 1), .int (nI sv), .ref (g 2), .ref (g 3), .int (nI ln), .int (nI at9), .int (nI pl), .int va, .long hs]))])) hP hD hS hA [0] [1] rfl rfl (by decide +kernel) (by decide +kernel) (va_runV (As := [.int 0]) (rest := []) ⟨hx, hb, hml, hown, hts⟩ (mX5_holds l D y _ g th sv ln at9 pl va hs 0) (cwV 1 hts (zgV tw_431 tw_432 tw_433 tw_369 tw_365) rfl rfl rfl (by decide +kernel) ⟨Nat.le_of_ble_eq_true rfl, Nat.le_of_ble_eq_true rfl⟩) (zRW_preV hKN hP hD (ci := 5) (q0 := 0) rfl rfl [0] rfl (by decide)) rfl rfl hl.1 rfl (lv_room (Nat.le_of_ble_eq_true rfl)) dX5_spoil_115 ⟨Nat.zero_le _, Nat.zero_le _⟩) (fun r_7 u_8 H locs hw_115 hP hD hS => ?_)
    have hP : va_P D vwCl [((g 1), .inl (y 0, 4023, .inl S)), ((g 0), .inr (5, [.int 0, .ref (g 1), .int (nI sv), .ref (g 2), .ref (g 3), .int (nI ln), .int (nI at9), .int (nI pl), .int va, .long hs]))] H := hP
    have hD : va_D A [((g 1), .inl (y 0, 4023, .inl S)), ((g 0), .inr (5, [.int 0, .ref (g 1), .int (nI sv), .ref (g 2), .ref (g 3), .int (nI ln), .int (nI at9), .int (nI pl), .int va, .long hs]))] := hD
    obtain rfl : r_7 = 1 := hw_115
    refine lv_if_ne (tgt := 123) hx hb dX5_spoil_118 (by decide) (fun _ => ?_) (fun c_118 => absurd c_118 (by decide))
    refine lv_bipush (v := 57) hx hb dX5_spoil_123 (by decide) ?_
    refine lv_bipush (v := 65) hx hb dX5_spoil_125 (by decide) ?_
    refine lv_aload_n hx hb dX5_spoil_127 rfl (lv_at hl 2 rfl) ?_
    refine va_get (D := D) (ci := 5) (v := .ref (g 1)) (C := RX5) (T := TX5) (N := 10) hx hb htg iX5 hown hK hP 1 rfl rfl 1 (by decide) (htg _ tw_359) (fun _ h9 => h9) rfl dX5_spoil_128 ?_
    refine lv_iconst (v := 1) hx hb dX5_spoil_131 (by decide) ?_
    refine va_iald hx hb hK hP 0 0 rfl rfl (vp_in_nI (n := 1) (by decide) (by decide)) dX5_spoil_132 ?_
    refine zz_top (y := S 1) (congrArg S (by decide)) ?_
    refine zz_top (y := nI n) (hS1) ?_
    refine lv_iconst (v := 1) hx hb dX5_spoil_133 (by decide) ?_
    refine lv_isub hx hb dX5_spoil_134 ?_
    refine zz_top (y := nI (n - 1)) (pk_sub (a := n) (b := 1) (by omega)) ?_
    refine lv_imul hx hb dX5_spoil_135 ?_
    refine zz_top (y := nI (65 * (n - 1))) (pk_mul 65 (n - 1)) ?_
    refine lv_iadd hx hb dX5_spoil_136 ?_
    refine zz_top (y := nI (57 + (65 * (n - 1)))) (nI_add 57 (65 * (n - 1))) ?_
    refine lv_iload_n hx hb dX5_spoil_137 rfl (lv_at hl 3 rfl) ?_
    refine lv_iload_n hx hb dX5_spoil_138 rfl (lv_at hl 4 rfl) ?_
    refine lv_iload_n hx hb dX5_spoil_139 rfl (lv_at hl 5 rfl) ?_
    refine zr_calli (va_runS (As := [.int (nI v), .int (nI q), .int (nI f)]) (rest := [.int (nI (57 + (65 * (n - 1))))]) ⟨hx, hb, hml, hown, hts⟩ (mX5_placeOf l v q f) (va_cwS 3 hts (zgS tw_388 tw_389 tw_369 tw_386) rfl rfl rfl (by decide +kernel) ⟨Nat.le_of_ble_eq_true rfl, Nat.le_of_ble_eq_true rfl⟩) zP_pre rfl rfl hl.1 rfl (lv_room (Nat.le_of_ble_eq_true rfl)) dX5_spoil_140 ⟨Nat.zero_le _, Nat.zero_le _⟩) hS (fun r_9 H locs hw_140 hT hS => ?_)
    replace hP := hT _ _ hP
    obtain rfl : r_9 = nI (1 + 4 * v + 2 * q + f) := hw_140
    refine lv_iadd hx hb dX5_spoil_143 ?_
    refine zz_top (y := nI ((57 + (65 * (n - 1))) + (1 + 4 * v + 2 * q + f))) (nI_add (57 + (65 * (n - 1))) (1 + 4 * v + 2 * q + f)) ?_
    refine zz_top (y := nI (58 + 65 * (n - 1) + 4 * v + 2 * q + f)) (congrArg nI (by omega)) ?_
    refine lv_istore (lv' := [(7, .int (nI (58 + 65 * (n - 1) + 4 * v + 2 * q + f))), (6, .int 1), (5, .int 1), (0, .ref (g 0)), (1, .int (nI v)), (2, .int (nI q)), (3, .int (nI f)), (4, .int x)]) hx hb dX5_spoil_144 hl (by decide) rfl (fun ls hl => ?_)
    refine lv_aload_n hx hb dX5_spoil_146 rfl (lv_at hl 3 rfl) ?_
    refine lv_iload hx hb dX5_spoil_147 (lv_at hl 0 rfl) ?_
    refine lv_aload_n hx hb dX5_spoil_149 rfl (lv_at hl 3 rfl) ?_
    refine va_get (D := D) (ci := 5) (v := .ref (g 1)) (C := RX5) (T := TX5) (N := 10) hx hb htg iX5 hown hK hP 1 rfl rfl 1 (by decide) (htg _ tw_359) (fun _ h9 => h9) rfl dX5_spoil_150 ?_
    refine lv_iload hx hb dX5_spoil_153 (lv_at hl 0 rfl) ?_
    refine va_iald hx hb hK hP 0 0 rfl rfl (vp_in_nI (by omega) (by decide)) dX5_spoil_155 ?_
    refine zz_top (y := S (58 + 65 * (n - 1) + 4 * v + 2 * q + f)) (congrArg S (nI_clamp (by omega))) ?_
    refine lv_iload hx hb dX5_spoil_156 (lv_at hl 7 rfl) ?_
    refine lv_iadd hx hb dX5_spoil_158 ?_
    refine zw_calli (wr := []) (w1 := (fun _ : Unit => [((g 0), .inr (5, [.int 0, .ref (g 1), .int (nI (sv2 sv)), .ref (g 2), .ref (g 3), .int (nI ln), .int (nI at9), .int (nI pl), .int va, .long hs])), ((g 1), .inl (y 0, 4023, .inl (upd (svS S sv) (58 + 65 * (n - 1) + 4 * v + 2 * q + f) ((S (58 + 65 * (n - 1) + 4 * v + 2 * q + f)) + x))))])) hP hD hS hA [1, 0] [] rfl rfl (by decide +kernel) (by decide +kernel) (va_runV (As := [.int (nI (58 + 65 * (n - 1) + 4 * v + 2 * q + f)), .int ((S (58 + 65 * (n - 1) + 4 * v + 2 * q + f)) + x)]) (rest := []) ⟨hx, hb, hml, hown, hts⟩ (mX5_changed l D y _ g S 0 sv ln at9 pl va hs (58 + 65 * (n - 1) + 4 * v + 2 * q + f) ((S (58 + 65 * (n - 1) + 4 * v + 2 * q + f)) + x) (by first | assumption | rfl | omega | decide) (by first | assumption | rfl | omega | decide)) (cwV 2 hts (zgV tw_434 tw_435 tw_436 tw_369 tw_422) rfl rfl rfl (by decide +kernel) ⟨Nat.le_of_ble_eq_true rfl, Nat.le_of_ble_eq_true rfl⟩) (zRW_preV hKN hP hD (ci := 5) (q0 := 1) rfl rfl [1, 0] rfl (by decide)) rfl rfl hl.1 rfl (lv_room (Nat.le_of_ble_eq_true rfl)) dX5_spoil_159 ⟨Nat.zero_le _, Nat.zero_le _⟩) (fun r_10 u_11 H locs hw_159 hP hD hS => ?_)
    have hP : va_P D vwCl [((g 0), .inr (5, [.int 0, .ref (g 1), .int (nI (sv2 sv)), .ref (g 2), .ref (g 3), .int (nI ln), .int (nI at9), .int (nI pl), .int va, .long hs])), ((g 1), .inl (y 0, 4023, .inl (upd (svS S sv) (58 + 65 * (n - 1) + 4 * v + 2 * q + f) ((S (58 + 65 * (n - 1) + 4 * v + 2 * q + f)) + x))))] H := hP
    have hD : va_D A [((g 0), .inr (5, [.int 0, .ref (g 1), .int (nI (sv2 sv)), .ref (g 2), .ref (g 3), .int (nI ln), .int (nI at9), .int (nI pl), .int va, .long hs])), ((g 1), .inl (y 0, 4023, .inl (upd (svS S sv) (58 + 65 * (n - 1) + 4 * v + 2 * q + f) ((S (58 + 65 * (n - 1) + 4 * v + 2 * q + f)) + x))))] := hD
    obtain rfl : r_10 = S (58 + 65 * (n - 1) + 4 * v + 2 * q + f) := hw_159
    refine lv_pop hx hb dX5_spoil_162 rfl ?_
    refine lv_aload_n hx hb dX5_spoil_163 rfl (lv_at hl 3 rfl) ?_
    refine va_get (D := D) (ci := 5) (v := .ref (g 1)) (C := RX5) (T := TX5) (N := 10) hx hb htg iX5 hown hK hP 0 rfl rfl 1 (by decide) (htg _ tw_359) (fun _ h9 => h9) rfl dX5_spoil_164 ?_
    refine lv_iconst (v := 5) hx hb dX5_spoil_167 (by decide) ?_
    refine lv_dup2_11 hx hb dX5_spoil_168 rfl rfl ?_
    refine va_iald hx hb hK hP 1 0 rfl rfl (vp_in_nI (n := 5) (by decide) (by decide)) dX5_spoil_169 ?_
    refine zz_top (y := (upd (svS S sv) (58 + 65 * (n - 1) + 4 * v + 2 * q + f) ((S (58 + 65 * (n - 1) + 4 * v + 2 * q + f)) + x)) 5) (congrArg (upd (svS S sv) (58 + 65 * (n - 1) + 4 * v + 2 * q + f) ((S (58 + 65 * (n - 1) + 4 * v + 2 * q + f)) + x)) (by decide)) ?_
    refine zz_top (y := S 5) ((pk_un (by omega)).trans (svS_lo (by decide))) ?_
    refine lv_iconst (v := 1) hx hb dX5_spoil_170 (by decide) ?_
    refine lv_iadd hx hb dX5_spoil_171 ?_
    refine va_iast hx hb hK hP hD hS 1 0 rfl rfl (vp_in_nI (n := 5) (by decide) (by decide)) dX5_spoil_172 (fun H locs hP hD hS => ?_)
    rw [show ((5 : Int32)).toNatClampNeg = 5 from (by decide)] at hP hD
    have hP : va_P D vwCl [((g 0), .inr (5, [.int 0, .ref (g 1), .int (nI (sv2 sv)), .ref (g 2), .ref (g 3), .int (nI ln), .int (nI at9), .int (nI pl), .int va, .long hs])), ((g 1), .inl (y 0, 4023, .inl (upd (upd (svS S sv) (58 + 65 * (n - 1) + 4 * v + 2 * q + f) ((S (58 + 65 * (n - 1) + 4 * v + 2 * q + f)) + x)) 5 ((S 5) + 1))))] H := hP
    have hD : va_D A [((g 0), .inr (5, [.int 0, .ref (g 1), .int (nI (sv2 sv)), .ref (g 2), .ref (g 3), .int (nI ln), .int (nI at9), .int (nI pl), .int va, .long hs])), ((g 1), .inl (y 0, 4023, .inl (upd (upd (svS S sv) (58 + 65 * (n - 1) + 4 * v + 2 * q + f) ((S (58 + 65 * (n - 1) + 4 * v + 2 * q + f)) + x)) 5 ((S 5) + 1))))] := hD
    refine lv_aload_n hx hb dX5_spoil_173 rfl (lv_at hl 3 rfl) ?_
    refine va_get (D := D) (ci := 5) (v := .ref (g 1)) (C := RX5) (T := TX5) (N := 10) hx hb htg iX5 hown hK hP 0 rfl rfl 1 (by decide) (htg _ tw_359) (fun _ h9 => h9) rfl dX5_spoil_174 ?_
    refine lv_iload hx hb dX5_spoil_177 (lv_at hl 0 rfl) ?_
    refine va_iald hx hb hK hP 1 0 rfl rfl (vp_in_nI (by omega) (by decide)) dX5_spoil_179 ?_
    refine zz_top (y := (upd (upd (svS S sv) (58 + 65 * (n - 1) + 4 * v + 2 * q + f) ((S (58 + 65 * (n - 1) + 4 * v + 2 * q + f)) + x)) 5 ((S 5) + 1)) (58 + 65 * (n - 1) + 4 * v + 2 * q + f)) (congrArg (upd (upd (svS S sv) (58 + 65 * (n - 1) + 4 * v + 2 * q + f) ((S (58 + 65 * (n - 1) + 4 * v + 2 * q + f)) + x)) 5 ((S 5) + 1)) (nI_clamp (by omega))) ?_
    refine zz_top (y := S (58 + 65 * (n - 1) + 4 * v + 2 * q + f) + x) (by rw [pk_un (by omega), pk_us]) ?_
    refine W.widen (k := 0) (n := 0) (by first | exact Nat.le_of_ble_eq_true rfl | omega) (by first | exact Nat.le_of_ble_eq_true rfl | omega) ?_
    exact W.iret (v := (S (58 + 65 * (n - 1) + 4 * v + 2 * q + f) + x)) hx hb hr (fun t ht hW => ⟨⟨S (58 + 65 * (n - 1) + 4 * v + 2 * q + f) + x, (), rfl, by first | rfl | trivial | simp_all, ⟨by rw [ht]; exact hP, hD⟩⟩, hS.F ht⟩) hS.2.2 dX5_spoil_180

set_option maxHeartbeats 4000000 in
set_option maxRecDepth 100000 in
theorem mX5_spoil_b1 (l : Launch) (D : va_G) (y : Nat → ClassId) (sz : Nat) (g : Nat → Nat) (th : Int32) (sv : Nat) (ln : Nat) (at9 : Nat) (pl : Nat) (va : Int32) (hs : Int64) (v : Int32) (q : Int32) (f : Int32) (x : Int32) (hb1 : ¬ ((¬ v < 0 ∧ ¬ 15 < v) ∧ (¬ q < 0 ∧ ¬ 1 < q) ∧ (¬ f < 0 ∧ ¬ 1 < f))) : Met l yX5_spoil (ws_ yX5_spoil cX5_spoil 8 (some .int)) ({ frames := 2, cells := 0, slots := 0, locals := 42 }) (va_Pc [.ref (g 0), .int v, .int q, .int f, .int x] (zRW D y [((g 0), .inr (5, [.int th, .ref (g 1), .int (nI sv), .ref (g 2), .ref (g 3), .int (nI ln), .int (nI at9), .int (nI pl), .int va, .long hs]))] sz)) (va_Qi (fun (r : Int32) (_ : Unit) => r = 0) (fun (_ : Unit) t => zOut D (va_A [((g 0), .inr (5, [.int th, .ref (g 1), .int (nI sv), .ref (g 2), .ref (g 3), .int (nI ln), .int (nI at9), .int (nI pl), .int va, .long hs]))] sz) [((g 0), .inr (5, [.int 1, .ref (g 1), .int (nI sv), .ref (g 2), .ref (g 3), .int (nI ln), .int (nI at9), .int (nI pl), .int va, .long hs]))] t) (va_A [((g 0), .inr (5, [.int th, .ref (g 1), .int (nI sv), .ref (g 2), .ref (g 3), .int (nI ln), .int (nI at9), .int (nI pl), .int va, .long hs]))] sz)) 0 0 (va_A [((g 0), .inr (5, [.int th, .ref (g 1), .int (nI sv), .ref (g 2), .ref (g 3), .int (nI ln), .int (nI at9), .int (nI pl), .int va, .long hs]))] sz) := by
  refine Met.ofW (cc := cX5_spoil) (maxL := 8) (ret := (some .int)) (by decide) rfl ?_
  intro p e s m args below meth c s₁ B hml hpre9
  obtain ⟨rfl, hsz, hP, hKN, hD0⟩ := hpre9
  have hK := hKN.1
  have hx := B.exec
  have hb := B.bytes
  have hr := B.returns
  have hts := atoms_spec (ws := (ws_ yX5_spoil cX5_spoil 8 (some .int))) B.pre
  have htg : ∀ w ∈ gT, w.before _ s = true := fun w h => hts w (List.mem_cons_of_mem _ h)
  have hown : s.vm.findClass RX5 = some m.cls := findClass_of_methodNamed B.named
  have hlocks := B.notSynchronized
  subst hsz
  have hD := hD0.self (sz := s.heap.size)
  clear hD0
  generalize hAe : va_A [((g 0), .inr (5, [.int th, .ref (g 1), .int (nI sv), .ref (g 2), .ref (g 3), .int (nI ln), .int (nI at9), .int (nI pl), .int va, .long hs]))] s.heap.size = A at hD ⊢
  have hA : ∀ q : Nat, s.heap.size ≤ q → A q := fun q h => by rw [← hAe]; exact Or.inr h
  have hS : va_S A s.heap s.heap [] := va_S.rf
  have hP : va_P D vwCl [((g 0), .inr (5, [.int th, .ref (g 1), .int (nI sv), .ref (g 2), .ref (g 3), .int (nI ln), .int (nI at9), .int (nI pl), .int va, .long hs]))] s.heap := hP
  have hl := lv_entry ([.ref (g 0), .int v, .int q, .int f, .int x]) (n := 8) (Nat.le_of_ble_eq_true rfl)
  rw [lg_entry_eq]
  generalize (lg_sl ([.ref (g 0), .int v, .int q, .int f, .int x]) ++ List.replicate (8 - (lg_sl ([.ref (g 0), .int v, .int q, .int f, .int x])).length) Slot.unset).toArray = ls at hl ⊢
  have hl : lv_has ls 8 [(0, .ref (g 0)), (1, .int v), (2, .int q), (3, .int f), (4, .int x)] := hl
  refine lv_iload_n hx hb dX5_spoil_0 rfl (lv_at hl 1 rfl) ?_
  refine zr_calli (va_runS (As := [.int v]) (rest := []) ⟨hx, hb, hml, hown, hts⟩ (mX5_isLevel l v) (va_cwS 1 hts (zgS tw_427 tw_428 tw_369 tw_366) rfl rfl rfl (by decide +kernel) ⟨Nat.le_of_ble_eq_true rfl, Nat.le_of_ble_eq_true rfl⟩) zP_pre rfl rfl hl.1 rfl (lv_room (Nat.le_of_ble_eq_true rfl)) dX5_spoil_1 ⟨Nat.zero_le _, Nat.zero_le _⟩) hS (fun r_1 H locs hw_1 hT hS => ?_)
  replace hP := hT _ _ hP
  obtain rfl : r_1 = (if ¬ v < 0 ∧ ¬ 15 < v then (1 : Int32) else 0) := hw_1
  refine lv_if_eq (tgt := 25) hx hb dX5_spoil_4 (by decide) (fun c_4 => ?_) (fun c_4 => ?_)
  · replace c_4 := zb0.mp c_4
    refine lv_iconst (v := 0) hx hb dX5_spoil_25 (by decide) ?_
    refine lv_istore (lv' := [(5, .int 0), (0, .ref (g 0)), (1, .int v), (2, .int q), (3, .int f), (4, .int x)]) hx hb dX5_spoil_26 hl (by decide) rfl (fun ls hl => ?_)
    refine lv_iload hx hb dX5_spoil_28 (lv_at hl 0 rfl) ?_
    refine lv_if_eq (tgt := 76) hx hb dX5_spoil_30 (by decide) (fun _ => ?_) (fun c_30 => absurd (by decide) c_30)
    refine lv_iconst (v := 0) hx hb dX5_spoil_76 (by decide) ?_
    refine lv_istore (lv' := [(6, .int 0), (5, .int 0), (0, .ref (g 0)), (1, .int v), (2, .int q), (3, .int f), (4, .int x)]) hx hb dX5_spoil_77 hl (by decide) rfl (fun ls hl => ?_)
    refine lv_aload_n hx hb dX5_spoil_79 rfl (lv_at hl 2 rfl) ?_
    refine lv_iload hx hb dX5_spoil_80 (lv_at hl 1 rfl) ?_
    refine lv_if_ne (tgt := 89) hx hb dX5_spoil_82 (by decide) (fun c_82 => absurd (by decide) c_82) (fun _ => ?_)
    refine lv_iconst (v := 1) hx hb dX5_spoil_85 (by decide) ?_
    refine lv_goto (tgt := 115) hx hb dX5_spoil_86 (by decide) ?_
    refine zw_calli (wr := []) (w1 := (fun _ : Unit => [((g 0), .inr (5, [.int 1, .ref (g 1), .int (nI sv), .ref (g 2), .ref (g 3), .int (nI ln), .int (nI at9), .int (nI pl), .int va, .long hs]))])) hP hD hS hA [0] [] rfl rfl (by decide +kernel) (by decide +kernel) (va_runV (As := [.int 1]) (rest := []) ⟨hx, hb, hml, hown, hts⟩ (mX5_holds l D y _ g th sv ln at9 pl va hs 1) (cwV 1 hts (zgV tw_431 tw_432 tw_433 tw_369 tw_365) rfl rfl rfl (by decide +kernel) ⟨Nat.le_of_ble_eq_true rfl, Nat.le_of_ble_eq_true rfl⟩) (zRW_preV hKN hP hD (ci := 5) (q0 := 0) rfl rfl [0] rfl (by decide)) rfl rfl hl.1 rfl (lv_room (Nat.le_of_ble_eq_true rfl)) dX5_spoil_115 ⟨Nat.zero_le _, Nat.zero_le _⟩) (fun r_2 u_3 H locs hw_115 hP hD hS => ?_)
    have hP : va_P D vwCl [((g 0), .inr (5, [.int 1, .ref (g 1), .int (nI sv), .ref (g 2), .ref (g 3), .int (nI ln), .int (nI at9), .int (nI pl), .int va, .long hs]))] H := hP
    have hD : va_D A [((g 0), .inr (5, [.int 1, .ref (g 1), .int (nI sv), .ref (g 2), .ref (g 3), .int (nI ln), .int (nI at9), .int (nI pl), .int va, .long hs]))] := hD
    obtain rfl : r_2 = 0 := hw_115
    refine lv_if_ne (tgt := 123) hx hb dX5_spoil_118 (by decide) (fun c_118 => absurd (by decide) c_118) (fun _ => ?_)
    refine lv_iconst (v := 0) hx hb dX5_spoil_121 (by decide) ?_
    refine W.widen (k := 0) (n := 0) (by first | exact Nat.le_of_ble_eq_true rfl | omega) (by first | exact Nat.le_of_ble_eq_true rfl | omega) ?_
    exact W.iret (v := 0) hx hb hr (fun t ht hW => ⟨⟨0, (), rfl, by first | rfl | trivial | simp_all, ⟨by rw [ht]; exact hP, hD⟩⟩, hS.F ht⟩) hS.2.2 dX5_spoil_122
  · replace c_4 := zb1.mp c_4
    refine lv_iload_n hx hb dX5_spoil_7 rfl (lv_at hl 2 rfl) ?_
    refine zr_calli (va_runS (As := [.int q]) (rest := []) ⟨hx, hb, hml, hown, hts⟩ (mX5_isSide l q) (va_cwS 1 hts (zgS tw_429 tw_430 tw_369 tw_370) rfl rfl rfl (by decide +kernel) ⟨Nat.le_of_ble_eq_true rfl, Nat.le_of_ble_eq_true rfl⟩) zP_pre rfl rfl hl.1 rfl (lv_room (Nat.le_of_ble_eq_true rfl)) dX5_spoil_8 ⟨Nat.zero_le _, Nat.zero_le _⟩) hS (fun r_4 H locs hw_8 hT hS => ?_)
    replace hP := hT _ _ hP
    obtain rfl : r_4 = (if ¬ q < 0 ∧ ¬ 1 < q then (1 : Int32) else 0) := hw_8
    refine lv_if_eq (tgt := 25) hx hb dX5_spoil_11 (by decide) (fun c_11 => ?_) (fun c_11 => ?_)
    · replace c_11 := zb0.mp c_11
      refine lv_iconst (v := 0) hx hb dX5_spoil_25 (by decide) ?_
      refine lv_istore (lv' := [(5, .int 0), (0, .ref (g 0)), (1, .int v), (2, .int q), (3, .int f), (4, .int x)]) hx hb dX5_spoil_26 hl (by decide) rfl (fun ls hl => ?_)
      refine lv_iload hx hb dX5_spoil_28 (lv_at hl 0 rfl) ?_
      refine lv_if_eq (tgt := 76) hx hb dX5_spoil_30 (by decide) (fun _ => ?_) (fun c_30 => absurd (by decide) c_30)
      refine lv_iconst (v := 0) hx hb dX5_spoil_76 (by decide) ?_
      refine lv_istore (lv' := [(6, .int 0), (5, .int 0), (0, .ref (g 0)), (1, .int v), (2, .int q), (3, .int f), (4, .int x)]) hx hb dX5_spoil_77 hl (by decide) rfl (fun ls hl => ?_)
      refine lv_aload_n hx hb dX5_spoil_79 rfl (lv_at hl 2 rfl) ?_
      refine lv_iload hx hb dX5_spoil_80 (lv_at hl 1 rfl) ?_
      refine lv_if_ne (tgt := 89) hx hb dX5_spoil_82 (by decide) (fun c_82 => absurd (by decide) c_82) (fun _ => ?_)
      refine lv_iconst (v := 1) hx hb dX5_spoil_85 (by decide) ?_
      refine lv_goto (tgt := 115) hx hb dX5_spoil_86 (by decide) ?_
      refine zw_calli (wr := []) (w1 := (fun _ : Unit => [((g 0), .inr (5, [.int 1, .ref (g 1), .int (nI sv), .ref (g 2), .ref (g 3), .int (nI ln), .int (nI at9), .int (nI pl), .int va, .long hs]))])) hP hD hS hA [0] [] rfl rfl (by decide +kernel) (by decide +kernel) (va_runV (As := [.int 1]) (rest := []) ⟨hx, hb, hml, hown, hts⟩ (mX5_holds l D y _ g th sv ln at9 pl va hs 1) (cwV 1 hts (zgV tw_431 tw_432 tw_433 tw_369 tw_365) rfl rfl rfl (by decide +kernel) ⟨Nat.le_of_ble_eq_true rfl, Nat.le_of_ble_eq_true rfl⟩) (zRW_preV hKN hP hD (ci := 5) (q0 := 0) rfl rfl [0] rfl (by decide)) rfl rfl hl.1 rfl (lv_room (Nat.le_of_ble_eq_true rfl)) dX5_spoil_115 ⟨Nat.zero_le _, Nat.zero_le _⟩) (fun r_5 u_6 H locs hw_115 hP hD hS => ?_)
      have hP : va_P D vwCl [((g 0), .inr (5, [.int 1, .ref (g 1), .int (nI sv), .ref (g 2), .ref (g 3), .int (nI ln), .int (nI at9), .int (nI pl), .int va, .long hs]))] H := hP
      have hD : va_D A [((g 0), .inr (5, [.int 1, .ref (g 1), .int (nI sv), .ref (g 2), .ref (g 3), .int (nI ln), .int (nI at9), .int (nI pl), .int va, .long hs]))] := hD
      obtain rfl : r_5 = 0 := hw_115
      refine lv_if_ne (tgt := 123) hx hb dX5_spoil_118 (by decide) (fun c_118 => absurd (by decide) c_118) (fun _ => ?_)
      refine lv_iconst (v := 0) hx hb dX5_spoil_121 (by decide) ?_
      refine W.widen (k := 0) (n := 0) (by first | exact Nat.le_of_ble_eq_true rfl | omega) (by first | exact Nat.le_of_ble_eq_true rfl | omega) ?_
      exact W.iret (v := 0) hx hb hr (fun t ht hW => ⟨⟨0, (), rfl, by first | rfl | trivial | simp_all, ⟨by rw [ht]; exact hP, hD⟩⟩, hS.F ht⟩) hS.2.2 dX5_spoil_122
    · replace c_11 := zb1.mp c_11
      refine lv_iload_n hx hb dX5_spoil_14 rfl (lv_at hl 3 rfl) ?_
      refine zr_calli (va_runS (As := [.int f]) (rest := []) ⟨hx, hb, hml, hown, hts⟩ (mX5_isSide l f) (va_cwS 1 hts (zgS tw_429 tw_430 tw_369 tw_370) rfl rfl rfl (by decide +kernel) ⟨Nat.le_of_ble_eq_true rfl, Nat.le_of_ble_eq_true rfl⟩) zP_pre rfl rfl hl.1 rfl (lv_room (Nat.le_of_ble_eq_true rfl)) dX5_spoil_15 ⟨Nat.zero_le _, Nat.zero_le _⟩) hS (fun r_7 H locs hw_15 hT hS => ?_)
      replace hP := hT _ _ hP
      obtain rfl : r_7 = (if ¬ f < 0 ∧ ¬ 1 < f then (1 : Int32) else 0) := hw_15
      refine lv_if_eq (tgt := 25) hx hb dX5_spoil_18 (by decide) (fun c_18 => ?_) (fun c_18 => ?_)
      · replace c_18 := zb0.mp c_18
        refine lv_iconst (v := 0) hx hb dX5_spoil_25 (by decide) ?_
        refine lv_istore (lv' := [(5, .int 0), (0, .ref (g 0)), (1, .int v), (2, .int q), (3, .int f), (4, .int x)]) hx hb dX5_spoil_26 hl (by decide) rfl (fun ls hl => ?_)
        refine lv_iload hx hb dX5_spoil_28 (lv_at hl 0 rfl) ?_
        refine lv_if_eq (tgt := 76) hx hb dX5_spoil_30 (by decide) (fun _ => ?_) (fun c_30 => absurd (by decide) c_30)
        refine lv_iconst (v := 0) hx hb dX5_spoil_76 (by decide) ?_
        refine lv_istore (lv' := [(6, .int 0), (5, .int 0), (0, .ref (g 0)), (1, .int v), (2, .int q), (3, .int f), (4, .int x)]) hx hb dX5_spoil_77 hl (by decide) rfl (fun ls hl => ?_)
        refine lv_aload_n hx hb dX5_spoil_79 rfl (lv_at hl 2 rfl) ?_
        refine lv_iload hx hb dX5_spoil_80 (lv_at hl 1 rfl) ?_
        refine lv_if_ne (tgt := 89) hx hb dX5_spoil_82 (by decide) (fun c_82 => absurd (by decide) c_82) (fun _ => ?_)
        refine lv_iconst (v := 1) hx hb dX5_spoil_85 (by decide) ?_
        refine lv_goto (tgt := 115) hx hb dX5_spoil_86 (by decide) ?_
        refine zw_calli (wr := []) (w1 := (fun _ : Unit => [((g 0), .inr (5, [.int 1, .ref (g 1), .int (nI sv), .ref (g 2), .ref (g 3), .int (nI ln), .int (nI at9), .int (nI pl), .int va, .long hs]))])) hP hD hS hA [0] [] rfl rfl (by decide +kernel) (by decide +kernel) (va_runV (As := [.int 1]) (rest := []) ⟨hx, hb, hml, hown, hts⟩ (mX5_holds l D y _ g th sv ln at9 pl va hs 1) (cwV 1 hts (zgV tw_431 tw_432 tw_433 tw_369 tw_365) rfl rfl rfl (by decide +kernel) ⟨Nat.le_of_ble_eq_true rfl, Nat.le_of_ble_eq_true rfl⟩) (zRW_preV hKN hP hD (ci := 5) (q0 := 0) rfl rfl [0] rfl (by decide)) rfl rfl hl.1 rfl (lv_room (Nat.le_of_ble_eq_true rfl)) dX5_spoil_115 ⟨Nat.zero_le _, Nat.zero_le _⟩) (fun r_8 u_9 H locs hw_115 hP hD hS => ?_)
        have hP : va_P D vwCl [((g 0), .inr (5, [.int 1, .ref (g 1), .int (nI sv), .ref (g 2), .ref (g 3), .int (nI ln), .int (nI at9), .int (nI pl), .int va, .long hs]))] H := hP
        have hD : va_D A [((g 0), .inr (5, [.int 1, .ref (g 1), .int (nI sv), .ref (g 2), .ref (g 3), .int (nI ln), .int (nI at9), .int (nI pl), .int va, .long hs]))] := hD
        obtain rfl : r_8 = 0 := hw_115
        refine lv_if_ne (tgt := 123) hx hb dX5_spoil_118 (by decide) (fun c_118 => absurd (by decide) c_118) (fun _ => ?_)
        refine lv_iconst (v := 0) hx hb dX5_spoil_121 (by decide) ?_
        refine W.widen (k := 0) (n := 0) (by first | exact Nat.le_of_ble_eq_true rfl | omega) (by first | exact Nat.le_of_ble_eq_true rfl | omega) ?_
        exact W.iret (v := 0) hx hb hr (fun t ht hW => ⟨⟨0, (), rfl, by first | rfl | trivial | simp_all, ⟨by rw [ht]; exact hP, hD⟩⟩, hS.F ht⟩) hS.2.2 dX5_spoil_122
      · replace c_18 := zb1.mp c_18
        exact absurd ⟨c_4, c_11, c_18⟩ hb1

set_option maxHeartbeats 4000000 in
set_option maxRecDepth 100000 in
theorem mX5_spoil_b2 (l : Launch) (D : va_G) (y : Nat → ClassId) (sz : Nat) (g : Nat → Nat) (S : (Nat → Int32)) (th : Int32) (sv : Nat) (ln : Nat) (at9 : Nat) (pl : Nat) (va : Int32) (hs : Int64) (n : Nat) (v : Nat) (q : Nat) (f : Nat) (x : Int32) (hn6 : n ≤ 6) (hS1 : S 1 = nI n) (hl9 : v < 16) (hq : q < 2) (hf : f < 2) (hb1 : ¬ (¬ x < (-99) ∧ ¬ 99 < x)) : Met l yX5_spoil (ws_ yX5_spoil cX5_spoil 8 (some .int)) ({ frames := 2, cells := 0, slots := 0, locals := 46 }) (va_Pc [.ref (g 0), .int (nI v), .int (nI q), .int (nI f), .int x] (zRW D y [((g 0), .inr (5, [.int th, .ref (g 1), .int (nI sv), .ref (g 2), .ref (g 3), .int (nI ln), .int (nI at9), .int (nI pl), .int va, .long hs])), ((g 1), .inl (y 0, 4023, .inl S))] sz)) (va_Qi (fun (r : Int32) (_ : Unit) => r = 0) (fun (_ : Unit) t => zOut D (va_A [((g 0), .inr (5, [.int th, .ref (g 1), .int (nI sv), .ref (g 2), .ref (g 3), .int (nI ln), .int (nI at9), .int (nI pl), .int va, .long hs])), ((g 1), .inl (y 0, 4023, .inl S))] sz) [((g 0), .inr (5, [.int 2, .ref (g 1), .int (nI sv), .ref (g 2), .ref (g 3), .int (nI ln), .int (nI at9), .int (nI pl), .int va, .long hs])), ((g 1), .inl (y 0, 4023, .inl S))] t) (va_A [((g 0), .inr (5, [.int th, .ref (g 1), .int (nI sv), .ref (g 2), .ref (g 3), .int (nI ln), .int (nI at9), .int (nI pl), .int va, .long hs])), ((g 1), .inl (y 0, 4023, .inl S))] sz)) 0 0 (va_A [((g 0), .inr (5, [.int th, .ref (g 1), .int (nI sv), .ref (g 2), .ref (g 3), .int (nI ln), .int (nI at9), .int (nI pl), .int va, .long hs])), ((g 1), .inl (y 0, 4023, .inl S))] sz) := by
  refine Met.ofW (cc := cX5_spoil) (maxL := 8) (ret := (some .int)) (by decide) rfl ?_
  intro p e s m args below meth c s₁ B hml hpre9
  obtain ⟨rfl, hsz, hP, hKN, hD0⟩ := hpre9
  have hK := hKN.1
  have hx := B.exec
  have hb := B.bytes
  have hr := B.returns
  have hts := atoms_spec (ws := (ws_ yX5_spoil cX5_spoil 8 (some .int))) B.pre
  have htg : ∀ w ∈ gT, w.before _ s = true := fun w h => hts w (List.mem_cons_of_mem _ h)
  have hown : s.vm.findClass RX5 = some m.cls := findClass_of_methodNamed B.named
  have hlocks := B.notSynchronized
  subst hsz
  have hD := hD0.self (sz := s.heap.size)
  clear hD0
  generalize hAe : va_A [((g 0), .inr (5, [.int th, .ref (g 1), .int (nI sv), .ref (g 2), .ref (g 3), .int (nI ln), .int (nI at9), .int (nI pl), .int va, .long hs])), ((g 1), .inl (y 0, 4023, .inl S))] s.heap.size = A at hD ⊢
  have hA : ∀ q : Nat, s.heap.size ≤ q → A q := fun q h => by rw [← hAe]; exact Or.inr h
  have hS : va_S A s.heap s.heap [] := va_S.rf
  have hP : va_P D vwCl [((g 0), .inr (5, [.int th, .ref (g 1), .int (nI sv), .ref (g 2), .ref (g 3), .int (nI ln), .int (nI at9), .int (nI pl), .int va, .long hs])), ((g 1), .inl (y 0, 4023, .inl S))] s.heap := hP
  have hl := lv_entry ([.ref (g 0), .int (nI v), .int (nI q), .int (nI f), .int x]) (n := 8) (Nat.le_of_ble_eq_true rfl)
  rw [lg_entry_eq]
  generalize (lg_sl ([.ref (g 0), .int (nI v), .int (nI q), .int (nI f), .int x]) ++ List.replicate (8 - (lg_sl ([.ref (g 0), .int (nI v), .int (nI q), .int (nI f), .int x])).length) Slot.unset).toArray = ls at hl ⊢
  have hl : lv_has ls 8 [(0, .ref (g 0)), (1, .int (nI v)), (2, .int (nI q)), (3, .int (nI f)), (4, .int x)] := hl
  refine lv_iload_n hx hb dX5_spoil_0 rfl (lv_at hl 1 rfl) ?_
  refine zr_calli (va_runS (As := [.int (nI v)]) (rest := []) ⟨hx, hb, hml, hown, hts⟩ (mX5_isLevel l (nI v)) (va_cwS 1 hts (zgS tw_427 tw_428 tw_369 tw_366) rfl rfl rfl (by decide +kernel) ⟨Nat.le_of_ble_eq_true rfl, Nat.le_of_ble_eq_true rfl⟩) zP_pre rfl rfl hl.1 rfl (lv_room (Nat.le_of_ble_eq_true rfl)) dX5_spoil_1 ⟨Nat.zero_le _, Nat.zero_le _⟩) hS (fun r_1 H locs hw_1 hT hS => ?_)
  replace hP := hT _ _ hP
  obtain rfl : r_1 = (if ¬ (nI v) < 0 ∧ ¬ 15 < (nI v) then (1 : Int32) else 0) := hw_1
  refine lv_if_eq (tgt := 25) hx hb dX5_spoil_4 (by decide) (fun c_4 => absurd c_4 (zb1.mpr ⟨nI_pos (n := v) (by omega), nI_nlt (a := 15) (b := v) (by omega) (by omega)⟩)) (fun _ => ?_)
  refine lv_iload_n hx hb dX5_spoil_7 rfl (lv_at hl 2 rfl) ?_
  refine zr_calli (va_runS (As := [.int (nI q)]) (rest := []) ⟨hx, hb, hml, hown, hts⟩ (mX5_isSide l (nI q)) (va_cwS 1 hts (zgS tw_429 tw_430 tw_369 tw_370) rfl rfl rfl (by decide +kernel) ⟨Nat.le_of_ble_eq_true rfl, Nat.le_of_ble_eq_true rfl⟩) zP_pre rfl rfl hl.1 rfl (lv_room (Nat.le_of_ble_eq_true rfl)) dX5_spoil_8 ⟨Nat.zero_le _, Nat.zero_le _⟩) hS (fun r_2 H locs hw_8 hT hS => ?_)
  replace hP := hT _ _ hP
  obtain rfl : r_2 = (if ¬ (nI q) < 0 ∧ ¬ 1 < (nI q) then (1 : Int32) else 0) := hw_8
  refine lv_if_eq (tgt := 25) hx hb dX5_spoil_11 (by decide) (fun c_11 => absurd c_11 (zb1.mpr ⟨nI_pos (n := q) (by omega), nI_nlt (a := 1) (b := q) (by omega) (by omega)⟩)) (fun _ => ?_)
  refine lv_iload_n hx hb dX5_spoil_14 rfl (lv_at hl 3 rfl) ?_
  refine zr_calli (va_runS (As := [.int (nI f)]) (rest := []) ⟨hx, hb, hml, hown, hts⟩ (mX5_isSide l (nI f)) (va_cwS 1 hts (zgS tw_429 tw_430 tw_369 tw_370) rfl rfl rfl (by decide +kernel) ⟨Nat.le_of_ble_eq_true rfl, Nat.le_of_ble_eq_true rfl⟩) zP_pre rfl rfl hl.1 rfl (lv_room (Nat.le_of_ble_eq_true rfl)) dX5_spoil_15 ⟨Nat.zero_le _, Nat.zero_le _⟩) hS (fun r_3 H locs hw_15 hT hS => ?_)
  replace hP := hT _ _ hP
  obtain rfl : r_3 = (if ¬ (nI f) < 0 ∧ ¬ 1 < (nI f) then (1 : Int32) else 0) := hw_15
  refine lv_if_eq (tgt := 25) hx hb dX5_spoil_18 (by decide) (fun c_18 => absurd c_18 (zb1.mpr ⟨nI_pos (n := f) (by omega), nI_nlt (a := 1) (b := f) (by omega) (by omega)⟩)) (fun _ => ?_)
  refine lv_iconst (v := 1) hx hb dX5_spoil_21 (by decide) ?_
  refine lv_goto (tgt := 26) hx hb dX5_spoil_22 (by decide) ?_
  refine lv_istore (lv' := [(5, .int 1), (0, .ref (g 0)), (1, .int (nI v)), (2, .int (nI q)), (3, .int (nI f)), (4, .int x)]) hx hb dX5_spoil_26 hl (by decide) rfl (fun ls hl => ?_)
  refine lv_iload hx hb dX5_spoil_28 (lv_at hl 0 rfl) ?_
  refine lv_if_eq (tgt := 76) hx hb dX5_spoil_30 (by decide) (fun c_30 => absurd c_30 (by decide)) (fun _ => ?_)
  refine lv_aload_n hx hb dX5_spoil_33 rfl (lv_at hl 1 rfl) ?_
  refine va_get (D := D) (ci := 5) (v := .ref (g 1)) (C := RX5) (T := TX5) (N := 10) hx hb htg iX5 hown hK hP 0 rfl rfl 1 (by decide) (htg _ tw_359) (fun _ h9 => h9) rfl dX5_spoil_34 ?_
  refine lv_iconst (v := 1) hx hb dX5_spoil_37 (by decide) ?_
  refine va_iald hx hb hK hP 1 0 rfl rfl (vp_in_nI (n := 1) (by decide) (by decide)) dX5_spoil_38 ?_
  refine zz_top (y := S 1) (congrArg S (by decide)) ?_
  refine zz_top (y := nI n) (hS1) ?_
  refine lv_if_le (tgt := 76) hx hb dX5_spoil_39 (by decide) (fun c_39 => ?_) (fun c_39 => ?_)
  · replace c_39 : n ≤ 0 := (nI_leI (a := n) (b := 0) (by omega) (by omega)).mp c_39
    refine lv_iconst (v := 0) hx hb dX5_spoil_76 (by decide) ?_
    refine lv_istore (lv' := [(6, .int 0), (5, .int 1), (0, .ref (g 0)), (1, .int (nI v)), (2, .int (nI q)), (3, .int (nI f)), (4, .int x)]) hx hb dX5_spoil_77 hl (by decide) rfl (fun ls hl => ?_)
    refine lv_aload_n hx hb dX5_spoil_79 rfl (lv_at hl 2 rfl) ?_
    refine lv_iload hx hb dX5_spoil_80 (lv_at hl 1 rfl) ?_
    refine lv_if_ne (tgt := 89) hx hb dX5_spoil_82 (by decide) (fun _ => ?_) (fun c_82 => absurd c_82 (by decide))
    refine lv_iload hx hb dX5_spoil_89 (lv_at hl 6 rfl) ?_
    refine lv_bipush (v := (-99)) hx hb dX5_spoil_91 (by decide) ?_
    refine lv_bipush (v := 99) hx hb dX5_spoil_93 (by decide) ?_
    refine zr_calli (va_runS (As := [.int x, .int (-99), .int 99]) (rest := [.ref (g 0)]) ⟨hx, hb, hml, hown, hts⟩ (mX5_in l x (-99) 99) (va_cwS 3 hts (zgS tw_367 tw_368 tw_369 tw_364) rfl rfl rfl (by decide +kernel) ⟨Nat.le_of_ble_eq_true rfl, Nat.le_of_ble_eq_true rfl⟩) zP_pre rfl rfl hl.1 rfl (lv_room (Nat.le_of_ble_eq_true rfl)) dX5_spoil_95 ⟨Nat.zero_le _, Nat.zero_le _⟩) hS (fun r_4 H locs hw_95 hT hS => ?_)
    replace hP := hT _ _ hP
    obtain rfl : r_4 = (if ¬ x < (-99) ∧ ¬ 99 < x then (1 : Int32) else 0) := hw_95
    refine lv_if_ne (tgt := 105) hx hb dX5_spoil_98 (by decide) (fun c_98 => absurd (zb0.mpr hb1) c_98) (fun _ => ?_)
    refine lv_iconst (v := 2) hx hb dX5_spoil_101 (by decide) ?_
    refine lv_goto (tgt := 115) hx hb dX5_spoil_102 (by decide) ?_
    refine zw_calli (wr := [((g 1), .inl (y 0, 4023, .inl S))]) (w1 := (fun _ : Unit => [((g 0), .inr (5, [.int 2, .ref (g 1), .int (nI sv), .ref (g 2), .ref (g 3), .int (nI ln), .int (nI at9), .int (nI pl), .int va, .long hs]))])) hP hD hS hA [0] [1] rfl rfl (by decide +kernel) (by decide +kernel) (va_runV (As := [.int 2]) (rest := []) ⟨hx, hb, hml, hown, hts⟩ (mX5_holds l D y _ g th sv ln at9 pl va hs 2) (cwV 1 hts (zgV tw_431 tw_432 tw_433 tw_369 tw_365) rfl rfl rfl (by decide +kernel) ⟨Nat.le_of_ble_eq_true rfl, Nat.le_of_ble_eq_true rfl⟩) (zRW_preV hKN hP hD (ci := 5) (q0 := 0) rfl rfl [0] rfl (by decide)) rfl rfl hl.1 rfl (lv_room (Nat.le_of_ble_eq_true rfl)) dX5_spoil_115 ⟨Nat.zero_le _, Nat.zero_le _⟩) (fun r_5 u_6 H locs hw_115 hP hD hS => ?_)
    have hP : va_P D vwCl [((g 1), .inl (y 0, 4023, .inl S)), ((g 0), .inr (5, [.int 2, .ref (g 1), .int (nI sv), .ref (g 2), .ref (g 3), .int (nI ln), .int (nI at9), .int (nI pl), .int va, .long hs]))] H := hP
    have hD : va_D A [((g 1), .inl (y 0, 4023, .inl S)), ((g 0), .inr (5, [.int 2, .ref (g 1), .int (nI sv), .ref (g 2), .ref (g 3), .int (nI ln), .int (nI at9), .int (nI pl), .int va, .long hs]))] := hD
    obtain rfl : r_5 = 0 := hw_115
    refine lv_if_ne (tgt := 123) hx hb dX5_spoil_118 (by decide) (fun c_118 => absurd (by decide) c_118) (fun _ => ?_)
    refine lv_iconst (v := 0) hx hb dX5_spoil_121 (by decide) ?_
    have hP := hP.sub (ws' := [((g 0), .inr (5, [.int 2, .ref (g 1), .int (nI sv), .ref (g 2), .ref (g 3), .int (nI ln), .int (nI at9), .int (nI pl), .int va, .long hs])), ((g 1), .inl (y 0, 4023, .inl S))]) [1, 0] rfl
    have hD := hD.sub (ws' := [((g 0), .inr (5, [.int 2, .ref (g 1), .int (nI sv), .ref (g 2), .ref (g 3), .int (nI ln), .int (nI at9), .int (nI pl), .int va, .long hs])), ((g 1), .inl (y 0, 4023, .inl S))]) [1, 0] (by decide) rfl
    refine W.widen (k := 0) (n := 0) (by first | exact Nat.le_of_ble_eq_true rfl | omega) (by first | exact Nat.le_of_ble_eq_true rfl | omega) ?_
    exact W.iret (v := 0) hx hb hr (fun t ht hW => ⟨⟨0, (), rfl, by first | rfl | trivial | simp_all, ⟨by rw [ht]; exact hP, hD⟩⟩, hS.F ht⟩) hS.2.2 dX5_spoil_122
  · replace c_39 : ¬ n ≤ 0 := fun h => c_39 ((nI_leI (a := n) (b := 0) (by omega) (by omega)).mpr h)
    refine lv_aload_n hx hb dX5_spoil_42 rfl (lv_at hl 1 rfl) ?_
    refine lv_aload_n hx hb dX5_spoil_43 rfl (lv_at hl 1 rfl) ?_
    refine va_get (D := D) (ci := 5) (v := .ref (g 1)) (C := RX5) (T := TX5) (N := 10) hx hb htg iX5 hown hK hP 0 rfl rfl 1 (by decide) (htg _ tw_359) (fun _ h9 => h9) rfl dX5_spoil_44 ?_
    refine lv_iconst (v := 1) hx hb dX5_spoil_47 (by decide) ?_
    refine va_iald hx hb hK hP 1 0 rfl rfl (vp_in_nI (n := 1) (by decide) (by decide)) dX5_spoil_48 ?_
    refine zz_top (y := S 1) (congrArg S (by decide)) ?_
    refine zz_top (y := nI n) (hS1) ?_
    refine lv_iconst (v := 1) hx hb dX5_spoil_49 (by decide) ?_
    refine lv_isub hx hb dX5_spoil_50 ?_
    refine zz_top (y := nI (n - 1)) (pk_sub (a := n) (b := 1) (by omega)) ?_
    refine lv_iload_n hx hb dX5_spoil_51 rfl (lv_at hl 2 rfl) ?_
    refine lv_iload_n hx hb dX5_spoil_52 rfl (lv_at hl 3 rfl) ?_
    refine lv_iload_n hx hb dX5_spoil_53 rfl (lv_at hl 4 rfl) ?_
    refine zr_calli (va_runV (As := [.int (nI (n - 1)), .int (nI v), .int (nI q), .int (nI f)]) (rest := []) ⟨hx, hb, hml, hown, hts⟩ (mX5_read l D y g S th sv ln at9 pl va hs (n - 1) v q f (by first | assumption | rfl | omega | decide) (by first | assumption | rfl | omega | decide) (by first | assumption | rfl | omega | decide) (by first | assumption | rfl | omega | decide)) (cwV 4 hts (zgV tw_391 tw_392 tw_393 tw_369 tw_387) rfl rfl rfl (by decide +kernel) ⟨Nat.le_of_ble_eq_true rfl, Nat.le_of_ble_eq_true rfl⟩) (zRO_preV hKN hP (ci := 5) (q0 := 0) rfl rfl [0, 1] rfl) rfl rfl hl.1 rfl (lv_room (Nat.le_of_ble_eq_true rfl)) dX5_spoil_54 ⟨Nat.zero_le _, Nat.zero_le _⟩) hS (fun r_7 H locs hw_54 hT hS => ?_)
    replace hP := hT _ _ hP
    obtain rfl : r_7 = qRd S (n - 1) v q f := hw_54
    refine lv_iload hx hb dX5_spoil_57 (lv_at hl 5 rfl) ?_
    refine lv_iadd hx hb dX5_spoil_59 ?_
    refine lv_sipush (v := (-900)) hx hb dX5_spoil_60 (by decide) ?_
    refine lv_sipush (v := 900) hx hb dX5_spoil_63 (by decide) ?_
    refine zr_calli (va_runS (As := [.int ((qRd S (n - 1) v q f) + x), .int (-900), .int 900]) (rest := []) ⟨hx, hb, hml, hown, hts⟩ (mX5_in l ((qRd S (n - 1) v q f) + x) (-900) 900) (va_cwS 3 hts (zgS tw_367 tw_368 tw_369 tw_364) rfl rfl rfl (by decide +kernel) ⟨Nat.le_of_ble_eq_true rfl, Nat.le_of_ble_eq_true rfl⟩) zP_pre rfl rfl hl.1 rfl (lv_room (Nat.le_of_ble_eq_true rfl)) dX5_spoil_66 ⟨Nat.zero_le _, Nat.zero_le _⟩) hS (fun r_8 H locs hw_66 hT hS => ?_)
    replace hP := hT _ _ hP
    obtain rfl : r_8 = (if ¬ ((qRd S (n - 1) v q f) + x) < (-900) ∧ ¬ 900 < ((qRd S (n - 1) v q f) + x) then (1 : Int32) else 0) := hw_66
    refine lv_if_eq (tgt := 76) hx hb dX5_spoil_69 (by decide) (fun c_69 => ?_) (fun c_69 => ?_)
    · replace c_69 := zb0.mp c_69
      refine lv_iconst (v := 0) hx hb dX5_spoil_76 (by decide) ?_
      refine lv_istore (lv' := [(6, .int 0), (5, .int 1), (0, .ref (g 0)), (1, .int (nI v)), (2, .int (nI q)), (3, .int (nI f)), (4, .int x)]) hx hb dX5_spoil_77 hl (by decide) rfl (fun ls hl => ?_)
      refine lv_aload_n hx hb dX5_spoil_79 rfl (lv_at hl 2 rfl) ?_
      refine lv_iload hx hb dX5_spoil_80 (lv_at hl 1 rfl) ?_
      refine lv_if_ne (tgt := 89) hx hb dX5_spoil_82 (by decide) (fun _ => ?_) (fun c_82 => absurd c_82 (by decide))
      refine lv_iload hx hb dX5_spoil_89 (lv_at hl 6 rfl) ?_
      refine lv_bipush (v := (-99)) hx hb dX5_spoil_91 (by decide) ?_
      refine lv_bipush (v := 99) hx hb dX5_spoil_93 (by decide) ?_
      refine zr_calli (va_runS (As := [.int x, .int (-99), .int 99]) (rest := [.ref (g 0)]) ⟨hx, hb, hml, hown, hts⟩ (mX5_in l x (-99) 99) (va_cwS 3 hts (zgS tw_367 tw_368 tw_369 tw_364) rfl rfl rfl (by decide +kernel) ⟨Nat.le_of_ble_eq_true rfl, Nat.le_of_ble_eq_true rfl⟩) zP_pre rfl rfl hl.1 rfl (lv_room (Nat.le_of_ble_eq_true rfl)) dX5_spoil_95 ⟨Nat.zero_le _, Nat.zero_le _⟩) hS (fun r_9 H locs hw_95 hT hS => ?_)
      replace hP := hT _ _ hP
      obtain rfl : r_9 = (if ¬ x < (-99) ∧ ¬ 99 < x then (1 : Int32) else 0) := hw_95
      refine lv_if_ne (tgt := 105) hx hb dX5_spoil_98 (by decide) (fun c_98 => absurd (zb0.mpr hb1) c_98) (fun _ => ?_)
      refine lv_iconst (v := 2) hx hb dX5_spoil_101 (by decide) ?_
      refine lv_goto (tgt := 115) hx hb dX5_spoil_102 (by decide) ?_
      refine zw_calli (wr := [((g 1), .inl (y 0, 4023, .inl S))]) (w1 := (fun _ : Unit => [((g 0), .inr (5, [.int 2, .ref (g 1), .int (nI sv), .ref (g 2), .ref (g 3), .int (nI ln), .int (nI at9), .int (nI pl), .int va, .long hs]))])) hP hD hS hA [0] [1] rfl rfl (by decide +kernel) (by decide +kernel) (va_runV (As := [.int 2]) (rest := []) ⟨hx, hb, hml, hown, hts⟩ (mX5_holds l D y _ g th sv ln at9 pl va hs 2) (cwV 1 hts (zgV tw_431 tw_432 tw_433 tw_369 tw_365) rfl rfl rfl (by decide +kernel) ⟨Nat.le_of_ble_eq_true rfl, Nat.le_of_ble_eq_true rfl⟩) (zRW_preV hKN hP hD (ci := 5) (q0 := 0) rfl rfl [0] rfl (by decide)) rfl rfl hl.1 rfl (lv_room (Nat.le_of_ble_eq_true rfl)) dX5_spoil_115 ⟨Nat.zero_le _, Nat.zero_le _⟩) (fun r_10 u_11 H locs hw_115 hP hD hS => ?_)
      have hP : va_P D vwCl [((g 1), .inl (y 0, 4023, .inl S)), ((g 0), .inr (5, [.int 2, .ref (g 1), .int (nI sv), .ref (g 2), .ref (g 3), .int (nI ln), .int (nI at9), .int (nI pl), .int va, .long hs]))] H := hP
      have hD : va_D A [((g 1), .inl (y 0, 4023, .inl S)), ((g 0), .inr (5, [.int 2, .ref (g 1), .int (nI sv), .ref (g 2), .ref (g 3), .int (nI ln), .int (nI at9), .int (nI pl), .int va, .long hs]))] := hD
      obtain rfl : r_10 = 0 := hw_115
      refine lv_if_ne (tgt := 123) hx hb dX5_spoil_118 (by decide) (fun c_118 => absurd (by decide) c_118) (fun _ => ?_)
      refine lv_iconst (v := 0) hx hb dX5_spoil_121 (by decide) ?_
      have hP := hP.sub (ws' := [((g 0), .inr (5, [.int 2, .ref (g 1), .int (nI sv), .ref (g 2), .ref (g 3), .int (nI ln), .int (nI at9), .int (nI pl), .int va, .long hs])), ((g 1), .inl (y 0, 4023, .inl S))]) [1, 0] rfl
      have hD := hD.sub (ws' := [((g 0), .inr (5, [.int 2, .ref (g 1), .int (nI sv), .ref (g 2), .ref (g 3), .int (nI ln), .int (nI at9), .int (nI pl), .int va, .long hs])), ((g 1), .inl (y 0, 4023, .inl S))]) [1, 0] (by decide) rfl
      refine W.widen (k := 0) (n := 0) (by first | exact Nat.le_of_ble_eq_true rfl | omega) (by first | exact Nat.le_of_ble_eq_true rfl | omega) ?_
      exact W.iret (v := 0) hx hb hr (fun t ht hW => ⟨⟨0, (), rfl, by first | rfl | trivial | simp_all, ⟨by rw [ht]; exact hP, hD⟩⟩, hS.F ht⟩) hS.2.2 dX5_spoil_122
    · replace c_69 := zb1.mp c_69
      refine lv_iconst (v := 1) hx hb dX5_spoil_72 (by decide) ?_
      refine lv_goto (tgt := 77) hx hb dX5_spoil_73 (by decide) ?_
      refine lv_istore (lv' := [(6, .int 1), (5, .int 1), (0, .ref (g 0)), (1, .int (nI v)), (2, .int (nI q)), (3, .int (nI f)), (4, .int x)]) hx hb dX5_spoil_77 hl (by decide) rfl (fun ls hl => ?_)
      refine lv_aload_n hx hb dX5_spoil_79 rfl (lv_at hl 2 rfl) ?_
      refine lv_iload hx hb dX5_spoil_80 (lv_at hl 1 rfl) ?_
      refine lv_if_ne (tgt := 89) hx hb dX5_spoil_82 (by decide) (fun _ => ?_) (fun c_82 => absurd c_82 (by decide))
      refine lv_iload hx hb dX5_spoil_89 (lv_at hl 6 rfl) ?_
      refine lv_bipush (v := (-99)) hx hb dX5_spoil_91 (by decide) ?_
      refine lv_bipush (v := 99) hx hb dX5_spoil_93 (by decide) ?_
      refine zr_calli (va_runS (As := [.int x, .int (-99), .int 99]) (rest := [.ref (g 0)]) ⟨hx, hb, hml, hown, hts⟩ (mX5_in l x (-99) 99) (va_cwS 3 hts (zgS tw_367 tw_368 tw_369 tw_364) rfl rfl rfl (by decide +kernel) ⟨Nat.le_of_ble_eq_true rfl, Nat.le_of_ble_eq_true rfl⟩) zP_pre rfl rfl hl.1 rfl (lv_room (Nat.le_of_ble_eq_true rfl)) dX5_spoil_95 ⟨Nat.zero_le _, Nat.zero_le _⟩) hS (fun r_12 H locs hw_95 hT hS => ?_)
      replace hP := hT _ _ hP
      obtain rfl : r_12 = (if ¬ x < (-99) ∧ ¬ 99 < x then (1 : Int32) else 0) := hw_95
      refine lv_if_ne (tgt := 105) hx hb dX5_spoil_98 (by decide) (fun c_98 => absurd (zb0.mpr hb1) c_98) (fun _ => ?_)
      refine lv_iconst (v := 2) hx hb dX5_spoil_101 (by decide) ?_
      refine lv_goto (tgt := 115) hx hb dX5_spoil_102 (by decide) ?_
      refine zw_calli (wr := [((g 1), .inl (y 0, 4023, .inl S))]) (w1 := (fun _ : Unit => [((g 0), .inr (5, [.int 2, .ref (g 1), .int (nI sv), .ref (g 2), .ref (g 3), .int (nI ln), .int (nI at9), .int (nI pl), .int va, .long hs]))])) hP hD hS hA [0] [1] rfl rfl (by decide +kernel) (by decide +kernel) (va_runV (As := [.int 2]) (rest := []) ⟨hx, hb, hml, hown, hts⟩ (mX5_holds l D y _ g th sv ln at9 pl va hs 2) (cwV 1 hts (zgV tw_431 tw_432 tw_433 tw_369 tw_365) rfl rfl rfl (by decide +kernel) ⟨Nat.le_of_ble_eq_true rfl, Nat.le_of_ble_eq_true rfl⟩) (zRW_preV hKN hP hD (ci := 5) (q0 := 0) rfl rfl [0] rfl (by decide)) rfl rfl hl.1 rfl (lv_room (Nat.le_of_ble_eq_true rfl)) dX5_spoil_115 ⟨Nat.zero_le _, Nat.zero_le _⟩) (fun r_13 u_14 H locs hw_115 hP hD hS => ?_)
      have hP : va_P D vwCl [((g 1), .inl (y 0, 4023, .inl S)), ((g 0), .inr (5, [.int 2, .ref (g 1), .int (nI sv), .ref (g 2), .ref (g 3), .int (nI ln), .int (nI at9), .int (nI pl), .int va, .long hs]))] H := hP
      have hD : va_D A [((g 1), .inl (y 0, 4023, .inl S)), ((g 0), .inr (5, [.int 2, .ref (g 1), .int (nI sv), .ref (g 2), .ref (g 3), .int (nI ln), .int (nI at9), .int (nI pl), .int va, .long hs]))] := hD
      obtain rfl : r_13 = 0 := hw_115
      refine lv_if_ne (tgt := 123) hx hb dX5_spoil_118 (by decide) (fun c_118 => absurd (by decide) c_118) (fun _ => ?_)
      refine lv_iconst (v := 0) hx hb dX5_spoil_121 (by decide) ?_
      have hP := hP.sub (ws' := [((g 0), .inr (5, [.int 2, .ref (g 1), .int (nI sv), .ref (g 2), .ref (g 3), .int (nI ln), .int (nI at9), .int (nI pl), .int va, .long hs])), ((g 1), .inl (y 0, 4023, .inl S))]) [1, 0] rfl
      have hD := hD.sub (ws' := [((g 0), .inr (5, [.int 2, .ref (g 1), .int (nI sv), .ref (g 2), .ref (g 3), .int (nI ln), .int (nI at9), .int (nI pl), .int va, .long hs])), ((g 1), .inl (y 0, 4023, .inl S))]) [1, 0] (by decide) rfl
      refine W.widen (k := 0) (n := 0) (by first | exact Nat.le_of_ble_eq_true rfl | omega) (by first | exact Nat.le_of_ble_eq_true rfl | omega) ?_
      exact W.iret (v := 0) hx hb hr (fun t ht hW => ⟨⟨0, (), rfl, by first | rfl | trivial | simp_all, ⟨by rw [ht]; exact hP, hD⟩⟩, hS.F ht⟩) hS.2.2 dX5_spoil_122

set_option maxHeartbeats 4000000 in
set_option maxRecDepth 100000 in
theorem mX5_spoil_b3 (l : Launch) (D : va_G) (y : Nat → ClassId) (sz : Nat) (g : Nat → Nat) (S : (Nat → Int32)) (th : Int32) (sv : Nat) (ln : Nat) (at9 : Nat) (pl : Nat) (va : Int32) (hs : Int64) (n : Nat) (v : Nat) (q : Nat) (f : Nat) (x : Int32) (hn6 : n ≤ 6) (hS1 : S 1 = nI n) (hl9 : v < 16) (hq : q < 2) (hf : f < 2) (hx1 : ¬ x < (-99) ∧ ¬ 99 < x) (hb1 : ¬ (0 < n ∧ (¬ (S (58 + 65 * (n - 1) + 4 * v + 2 * q + f) + x) < (-900) ∧ ¬ 900 < (S (58 + 65 * (n - 1) + 4 * v + 2 * q + f) + x)))) : Met l yX5_spoil (ws_ yX5_spoil cX5_spoil 8 (some .int)) ({ frames := 2, cells := 0, slots := 0, locals := 46 }) (va_Pc [.ref (g 0), .int (nI v), .int (nI q), .int (nI f), .int x] (zRW D y [((g 0), .inr (5, [.int th, .ref (g 1), .int (nI sv), .ref (g 2), .ref (g 3), .int (nI ln), .int (nI at9), .int (nI pl), .int va, .long hs])), ((g 1), .inl (y 0, 4023, .inl S))] sz)) (va_Qi (fun (r : Int32) (_ : Unit) => r = 0) (fun (_ : Unit) t => zOut D (va_A [((g 0), .inr (5, [.int th, .ref (g 1), .int (nI sv), .ref (g 2), .ref (g 3), .int (nI ln), .int (nI at9), .int (nI pl), .int va, .long hs])), ((g 1), .inl (y 0, 4023, .inl S))] sz) [((g 0), .inr (5, [.int 3, .ref (g 1), .int (nI sv), .ref (g 2), .ref (g 3), .int (nI ln), .int (nI at9), .int (nI pl), .int va, .long hs])), ((g 1), .inl (y 0, 4023, .inl S))] t) (va_A [((g 0), .inr (5, [.int th, .ref (g 1), .int (nI sv), .ref (g 2), .ref (g 3), .int (nI ln), .int (nI at9), .int (nI pl), .int va, .long hs])), ((g 1), .inl (y 0, 4023, .inl S))] sz)) 0 0 (va_A [((g 0), .inr (5, [.int th, .ref (g 1), .int (nI sv), .ref (g 2), .ref (g 3), .int (nI ln), .int (nI at9), .int (nI pl), .int va, .long hs])), ((g 1), .inl (y 0, 4023, .inl S))] sz) := by
  refine Met.ofW (cc := cX5_spoil) (maxL := 8) (ret := (some .int)) (by decide) rfl ?_
  intro p e s m args below meth c s₁ B hml hpre9
  obtain ⟨rfl, hsz, hP, hKN, hD0⟩ := hpre9
  have hK := hKN.1
  have hx := B.exec
  have hb := B.bytes
  have hr := B.returns
  have hts := atoms_spec (ws := (ws_ yX5_spoil cX5_spoil 8 (some .int))) B.pre
  have htg : ∀ w ∈ gT, w.before _ s = true := fun w h => hts w (List.mem_cons_of_mem _ h)
  have hown : s.vm.findClass RX5 = some m.cls := findClass_of_methodNamed B.named
  have hlocks := B.notSynchronized
  subst hsz
  have hD := hD0.self (sz := s.heap.size)
  clear hD0
  generalize hAe : va_A [((g 0), .inr (5, [.int th, .ref (g 1), .int (nI sv), .ref (g 2), .ref (g 3), .int (nI ln), .int (nI at9), .int (nI pl), .int va, .long hs])), ((g 1), .inl (y 0, 4023, .inl S))] s.heap.size = A at hD ⊢
  have hA : ∀ q : Nat, s.heap.size ≤ q → A q := fun q h => by rw [← hAe]; exact Or.inr h
  have hS : va_S A s.heap s.heap [] := va_S.rf
  have hP : va_P D vwCl [((g 0), .inr (5, [.int th, .ref (g 1), .int (nI sv), .ref (g 2), .ref (g 3), .int (nI ln), .int (nI at9), .int (nI pl), .int va, .long hs])), ((g 1), .inl (y 0, 4023, .inl S))] s.heap := hP
  have hl := lv_entry ([.ref (g 0), .int (nI v), .int (nI q), .int (nI f), .int x]) (n := 8) (Nat.le_of_ble_eq_true rfl)
  rw [lg_entry_eq]
  generalize (lg_sl ([.ref (g 0), .int (nI v), .int (nI q), .int (nI f), .int x]) ++ List.replicate (8 - (lg_sl ([.ref (g 0), .int (nI v), .int (nI q), .int (nI f), .int x])).length) Slot.unset).toArray = ls at hl ⊢
  have hl : lv_has ls 8 [(0, .ref (g 0)), (1, .int (nI v)), (2, .int (nI q)), (3, .int (nI f)), (4, .int x)] := hl
  refine lv_iload_n hx hb dX5_spoil_0 rfl (lv_at hl 1 rfl) ?_
  refine zr_calli (va_runS (As := [.int (nI v)]) (rest := []) ⟨hx, hb, hml, hown, hts⟩ (mX5_isLevel l (nI v)) (va_cwS 1 hts (zgS tw_427 tw_428 tw_369 tw_366) rfl rfl rfl (by decide +kernel) ⟨Nat.le_of_ble_eq_true rfl, Nat.le_of_ble_eq_true rfl⟩) zP_pre rfl rfl hl.1 rfl (lv_room (Nat.le_of_ble_eq_true rfl)) dX5_spoil_1 ⟨Nat.zero_le _, Nat.zero_le _⟩) hS (fun r_1 H locs hw_1 hT hS => ?_)
  replace hP := hT _ _ hP
  obtain rfl : r_1 = (if ¬ (nI v) < 0 ∧ ¬ 15 < (nI v) then (1 : Int32) else 0) := hw_1
  refine lv_if_eq (tgt := 25) hx hb dX5_spoil_4 (by decide) (fun c_4 => absurd c_4 (zb1.mpr ⟨nI_pos (n := v) (by omega), nI_nlt (a := 15) (b := v) (by omega) (by omega)⟩)) (fun _ => ?_)
  refine lv_iload_n hx hb dX5_spoil_7 rfl (lv_at hl 2 rfl) ?_
  refine zr_calli (va_runS (As := [.int (nI q)]) (rest := []) ⟨hx, hb, hml, hown, hts⟩ (mX5_isSide l (nI q)) (va_cwS 1 hts (zgS tw_429 tw_430 tw_369 tw_370) rfl rfl rfl (by decide +kernel) ⟨Nat.le_of_ble_eq_true rfl, Nat.le_of_ble_eq_true rfl⟩) zP_pre rfl rfl hl.1 rfl (lv_room (Nat.le_of_ble_eq_true rfl)) dX5_spoil_8 ⟨Nat.zero_le _, Nat.zero_le _⟩) hS (fun r_2 H locs hw_8 hT hS => ?_)
  replace hP := hT _ _ hP
  obtain rfl : r_2 = (if ¬ (nI q) < 0 ∧ ¬ 1 < (nI q) then (1 : Int32) else 0) := hw_8
  refine lv_if_eq (tgt := 25) hx hb dX5_spoil_11 (by decide) (fun c_11 => absurd c_11 (zb1.mpr ⟨nI_pos (n := q) (by omega), nI_nlt (a := 1) (b := q) (by omega) (by omega)⟩)) (fun _ => ?_)
  refine lv_iload_n hx hb dX5_spoil_14 rfl (lv_at hl 3 rfl) ?_
  refine zr_calli (va_runS (As := [.int (nI f)]) (rest := []) ⟨hx, hb, hml, hown, hts⟩ (mX5_isSide l (nI f)) (va_cwS 1 hts (zgS tw_429 tw_430 tw_369 tw_370) rfl rfl rfl (by decide +kernel) ⟨Nat.le_of_ble_eq_true rfl, Nat.le_of_ble_eq_true rfl⟩) zP_pre rfl rfl hl.1 rfl (lv_room (Nat.le_of_ble_eq_true rfl)) dX5_spoil_15 ⟨Nat.zero_le _, Nat.zero_le _⟩) hS (fun r_3 H locs hw_15 hT hS => ?_)
  replace hP := hT _ _ hP
  obtain rfl : r_3 = (if ¬ (nI f) < 0 ∧ ¬ 1 < (nI f) then (1 : Int32) else 0) := hw_15
  refine lv_if_eq (tgt := 25) hx hb dX5_spoil_18 (by decide) (fun c_18 => absurd c_18 (zb1.mpr ⟨nI_pos (n := f) (by omega), nI_nlt (a := 1) (b := f) (by omega) (by omega)⟩)) (fun _ => ?_)
  refine lv_iconst (v := 1) hx hb dX5_spoil_21 (by decide) ?_
  refine lv_goto (tgt := 26) hx hb dX5_spoil_22 (by decide) ?_
  refine lv_istore (lv' := [(5, .int 1), (0, .ref (g 0)), (1, .int (nI v)), (2, .int (nI q)), (3, .int (nI f)), (4, .int x)]) hx hb dX5_spoil_26 hl (by decide) rfl (fun ls hl => ?_)
  refine lv_iload hx hb dX5_spoil_28 (lv_at hl 0 rfl) ?_
  refine lv_if_eq (tgt := 76) hx hb dX5_spoil_30 (by decide) (fun c_30 => absurd c_30 (by decide)) (fun _ => ?_)
  refine lv_aload_n hx hb dX5_spoil_33 rfl (lv_at hl 1 rfl) ?_
  refine va_get (D := D) (ci := 5) (v := .ref (g 1)) (C := RX5) (T := TX5) (N := 10) hx hb htg iX5 hown hK hP 0 rfl rfl 1 (by decide) (htg _ tw_359) (fun _ h9 => h9) rfl dX5_spoil_34 ?_
  refine lv_iconst (v := 1) hx hb dX5_spoil_37 (by decide) ?_
  refine va_iald hx hb hK hP 1 0 rfl rfl (vp_in_nI (n := 1) (by decide) (by decide)) dX5_spoil_38 ?_
  refine zz_top (y := S 1) (congrArg S (by decide)) ?_
  refine zz_top (y := nI n) (hS1) ?_
  refine lv_if_le (tgt := 76) hx hb dX5_spoil_39 (by decide) (fun c_39 => ?_) (fun c_39 => ?_)
  · replace c_39 : n ≤ 0 := (nI_leI (a := n) (b := 0) (by omega) (by omega)).mp c_39
    refine lv_iconst (v := 0) hx hb dX5_spoil_76 (by decide) ?_
    refine lv_istore (lv' := [(6, .int 0), (5, .int 1), (0, .ref (g 0)), (1, .int (nI v)), (2, .int (nI q)), (3, .int (nI f)), (4, .int x)]) hx hb dX5_spoil_77 hl (by decide) rfl (fun ls hl => ?_)
    refine lv_aload_n hx hb dX5_spoil_79 rfl (lv_at hl 2 rfl) ?_
    refine lv_iload hx hb dX5_spoil_80 (lv_at hl 1 rfl) ?_
    refine lv_if_ne (tgt := 89) hx hb dX5_spoil_82 (by decide) (fun _ => ?_) (fun c_82 => absurd c_82 (by decide))
    refine lv_iload hx hb dX5_spoil_89 (lv_at hl 6 rfl) ?_
    refine lv_bipush (v := (-99)) hx hb dX5_spoil_91 (by decide) ?_
    refine lv_bipush (v := 99) hx hb dX5_spoil_93 (by decide) ?_
    refine zr_calli (va_runS (As := [.int x, .int (-99), .int 99]) (rest := [.ref (g 0)]) ⟨hx, hb, hml, hown, hts⟩ (mX5_in l x (-99) 99) (va_cwS 3 hts (zgS tw_367 tw_368 tw_369 tw_364) rfl rfl rfl (by decide +kernel) ⟨Nat.le_of_ble_eq_true rfl, Nat.le_of_ble_eq_true rfl⟩) zP_pre rfl rfl hl.1 rfl (lv_room (Nat.le_of_ble_eq_true rfl)) dX5_spoil_95 ⟨Nat.zero_le _, Nat.zero_le _⟩) hS (fun r_4 H locs hw_95 hT hS => ?_)
    replace hP := hT _ _ hP
    obtain rfl : r_4 = (if ¬ x < (-99) ∧ ¬ 99 < x then (1 : Int32) else 0) := hw_95
    refine lv_if_ne (tgt := 105) hx hb dX5_spoil_98 (by decide) (fun _ => ?_) (fun c_98 => absurd c_98 (zb1.mpr hx1))
    refine lv_iload hx hb dX5_spoil_105 (lv_at hl 0 rfl) ?_
    refine lv_if_ne (tgt := 114) hx hb dX5_spoil_107 (by decide) (fun c_107 => absurd (by decide) c_107) (fun _ => ?_)
    refine lv_iconst (v := 3) hx hb dX5_spoil_110 (by decide) ?_
    refine lv_goto (tgt := 115) hx hb dX5_spoil_111 (by decide) ?_
    refine zw_calli (wr := [((g 1), .inl (y 0, 4023, .inl S))]) (w1 := (fun _ : Unit => [((g 0), .inr (5, [.int 3, .ref (g 1), .int (nI sv), .ref (g 2), .ref (g 3), .int (nI ln), .int (nI at9), .int (nI pl), .int va, .long hs]))])) hP hD hS hA [0] [1] rfl rfl (by decide +kernel) (by decide +kernel) (va_runV (As := [.int 3]) (rest := []) ⟨hx, hb, hml, hown, hts⟩ (mX5_holds l D y _ g th sv ln at9 pl va hs 3) (cwV 1 hts (zgV tw_431 tw_432 tw_433 tw_369 tw_365) rfl rfl rfl (by decide +kernel) ⟨Nat.le_of_ble_eq_true rfl, Nat.le_of_ble_eq_true rfl⟩) (zRW_preV hKN hP hD (ci := 5) (q0 := 0) rfl rfl [0] rfl (by decide)) rfl rfl hl.1 rfl (lv_room (Nat.le_of_ble_eq_true rfl)) dX5_spoil_115 ⟨Nat.zero_le _, Nat.zero_le _⟩) (fun r_5 u_6 H locs hw_115 hP hD hS => ?_)
    have hP : va_P D vwCl [((g 1), .inl (y 0, 4023, .inl S)), ((g 0), .inr (5, [.int 3, .ref (g 1), .int (nI sv), .ref (g 2), .ref (g 3), .int (nI ln), .int (nI at9), .int (nI pl), .int va, .long hs]))] H := hP
    have hD : va_D A [((g 1), .inl (y 0, 4023, .inl S)), ((g 0), .inr (5, [.int 3, .ref (g 1), .int (nI sv), .ref (g 2), .ref (g 3), .int (nI ln), .int (nI at9), .int (nI pl), .int va, .long hs]))] := hD
    obtain rfl : r_5 = 0 := hw_115
    refine lv_if_ne (tgt := 123) hx hb dX5_spoil_118 (by decide) (fun c_118 => absurd (by decide) c_118) (fun _ => ?_)
    refine lv_iconst (v := 0) hx hb dX5_spoil_121 (by decide) ?_
    have hP := hP.sub (ws' := [((g 0), .inr (5, [.int 3, .ref (g 1), .int (nI sv), .ref (g 2), .ref (g 3), .int (nI ln), .int (nI at9), .int (nI pl), .int va, .long hs])), ((g 1), .inl (y 0, 4023, .inl S))]) [1, 0] rfl
    have hD := hD.sub (ws' := [((g 0), .inr (5, [.int 3, .ref (g 1), .int (nI sv), .ref (g 2), .ref (g 3), .int (nI ln), .int (nI at9), .int (nI pl), .int va, .long hs])), ((g 1), .inl (y 0, 4023, .inl S))]) [1, 0] (by decide) rfl
    refine W.widen (k := 0) (n := 0) (by first | exact Nat.le_of_ble_eq_true rfl | omega) (by first | exact Nat.le_of_ble_eq_true rfl | omega) ?_
    exact W.iret (v := 0) hx hb hr (fun t ht hW => ⟨⟨0, (), rfl, by first | rfl | trivial | simp_all, ⟨by rw [ht]; exact hP, hD⟩⟩, hS.F ht⟩) hS.2.2 dX5_spoil_122
  · replace c_39 : ¬ n ≤ 0 := fun h => c_39 ((nI_leI (a := n) (b := 0) (by omega) (by omega)).mpr h)
    refine lv_aload_n hx hb dX5_spoil_42 rfl (lv_at hl 1 rfl) ?_
    refine lv_aload_n hx hb dX5_spoil_43 rfl (lv_at hl 1 rfl) ?_
    refine va_get (D := D) (ci := 5) (v := .ref (g 1)) (C := RX5) (T := TX5) (N := 10) hx hb htg iX5 hown hK hP 0 rfl rfl 1 (by decide) (htg _ tw_359) (fun _ h9 => h9) rfl dX5_spoil_44 ?_
    refine lv_iconst (v := 1) hx hb dX5_spoil_47 (by decide) ?_
    refine va_iald hx hb hK hP 1 0 rfl rfl (vp_in_nI (n := 1) (by decide) (by decide)) dX5_spoil_48 ?_
    refine zz_top (y := S 1) (congrArg S (by decide)) ?_
    refine zz_top (y := nI n) (hS1) ?_
    refine lv_iconst (v := 1) hx hb dX5_spoil_49 (by decide) ?_
    refine lv_isub hx hb dX5_spoil_50 ?_
    refine zz_top (y := nI (n - 1)) (pk_sub (a := n) (b := 1) (by omega)) ?_
    refine lv_iload_n hx hb dX5_spoil_51 rfl (lv_at hl 2 rfl) ?_
    refine lv_iload_n hx hb dX5_spoil_52 rfl (lv_at hl 3 rfl) ?_
    refine lv_iload_n hx hb dX5_spoil_53 rfl (lv_at hl 4 rfl) ?_
    refine zr_calli (va_runV (As := [.int (nI (n - 1)), .int (nI v), .int (nI q), .int (nI f)]) (rest := []) ⟨hx, hb, hml, hown, hts⟩ (mX5_read l D y g S th sv ln at9 pl va hs (n - 1) v q f (by first | assumption | rfl | omega | decide) (by first | assumption | rfl | omega | decide) (by first | assumption | rfl | omega | decide) (by first | assumption | rfl | omega | decide)) (cwV 4 hts (zgV tw_391 tw_392 tw_393 tw_369 tw_387) rfl rfl rfl (by decide +kernel) ⟨Nat.le_of_ble_eq_true rfl, Nat.le_of_ble_eq_true rfl⟩) (zRO_preV hKN hP (ci := 5) (q0 := 0) rfl rfl [0, 1] rfl) rfl rfl hl.1 rfl (lv_room (Nat.le_of_ble_eq_true rfl)) dX5_spoil_54 ⟨Nat.zero_le _, Nat.zero_le _⟩) hS (fun r_7 H locs hw_54 hT hS => ?_)
    replace hP := hT _ _ hP
    obtain rfl : r_7 = qRd S (n - 1) v q f := hw_54
    refine lv_iload hx hb dX5_spoil_57 (lv_at hl 5 rfl) ?_
    refine lv_iadd hx hb dX5_spoil_59 ?_
    refine lv_sipush (v := (-900)) hx hb dX5_spoil_60 (by decide) ?_
    refine lv_sipush (v := 900) hx hb dX5_spoil_63 (by decide) ?_
    refine zr_calli (va_runS (As := [.int ((qRd S (n - 1) v q f) + x), .int (-900), .int 900]) (rest := []) ⟨hx, hb, hml, hown, hts⟩ (mX5_in l ((qRd S (n - 1) v q f) + x) (-900) 900) (va_cwS 3 hts (zgS tw_367 tw_368 tw_369 tw_364) rfl rfl rfl (by decide +kernel) ⟨Nat.le_of_ble_eq_true rfl, Nat.le_of_ble_eq_true rfl⟩) zP_pre rfl rfl hl.1 rfl (lv_room (Nat.le_of_ble_eq_true rfl)) dX5_spoil_66 ⟨Nat.zero_le _, Nat.zero_le _⟩) hS (fun r_8 H locs hw_66 hT hS => ?_)
    replace hP := hT _ _ hP
    obtain rfl : r_8 = (if ¬ ((qRd S (n - 1) v q f) + x) < (-900) ∧ ¬ 900 < ((qRd S (n - 1) v q f) + x) then (1 : Int32) else 0) := hw_66
    refine lv_if_eq (tgt := 76) hx hb dX5_spoil_69 (by decide) (fun c_69 => ?_) (fun c_69 => ?_)
    · replace c_69 := zb0.mp c_69
      refine lv_iconst (v := 0) hx hb dX5_spoil_76 (by decide) ?_
      refine lv_istore (lv' := [(6, .int 0), (5, .int 1), (0, .ref (g 0)), (1, .int (nI v)), (2, .int (nI q)), (3, .int (nI f)), (4, .int x)]) hx hb dX5_spoil_77 hl (by decide) rfl (fun ls hl => ?_)
      refine lv_aload_n hx hb dX5_spoil_79 rfl (lv_at hl 2 rfl) ?_
      refine lv_iload hx hb dX5_spoil_80 (lv_at hl 1 rfl) ?_
      refine lv_if_ne (tgt := 89) hx hb dX5_spoil_82 (by decide) (fun _ => ?_) (fun c_82 => absurd c_82 (by decide))
      refine lv_iload hx hb dX5_spoil_89 (lv_at hl 6 rfl) ?_
      refine lv_bipush (v := (-99)) hx hb dX5_spoil_91 (by decide) ?_
      refine lv_bipush (v := 99) hx hb dX5_spoil_93 (by decide) ?_
      refine zr_calli (va_runS (As := [.int x, .int (-99), .int 99]) (rest := [.ref (g 0)]) ⟨hx, hb, hml, hown, hts⟩ (mX5_in l x (-99) 99) (va_cwS 3 hts (zgS tw_367 tw_368 tw_369 tw_364) rfl rfl rfl (by decide +kernel) ⟨Nat.le_of_ble_eq_true rfl, Nat.le_of_ble_eq_true rfl⟩) zP_pre rfl rfl hl.1 rfl (lv_room (Nat.le_of_ble_eq_true rfl)) dX5_spoil_95 ⟨Nat.zero_le _, Nat.zero_le _⟩) hS (fun r_9 H locs hw_95 hT hS => ?_)
      replace hP := hT _ _ hP
      obtain rfl : r_9 = (if ¬ x < (-99) ∧ ¬ 99 < x then (1 : Int32) else 0) := hw_95
      refine lv_if_ne (tgt := 105) hx hb dX5_spoil_98 (by decide) (fun _ => ?_) (fun c_98 => absurd c_98 (zb1.mpr hx1))
      refine lv_iload hx hb dX5_spoil_105 (lv_at hl 0 rfl) ?_
      refine lv_if_ne (tgt := 114) hx hb dX5_spoil_107 (by decide) (fun c_107 => absurd (by decide) c_107) (fun _ => ?_)
      refine lv_iconst (v := 3) hx hb dX5_spoil_110 (by decide) ?_
      refine lv_goto (tgt := 115) hx hb dX5_spoil_111 (by decide) ?_
      refine zw_calli (wr := [((g 1), .inl (y 0, 4023, .inl S))]) (w1 := (fun _ : Unit => [((g 0), .inr (5, [.int 3, .ref (g 1), .int (nI sv), .ref (g 2), .ref (g 3), .int (nI ln), .int (nI at9), .int (nI pl), .int va, .long hs]))])) hP hD hS hA [0] [1] rfl rfl (by decide +kernel) (by decide +kernel) (va_runV (As := [.int 3]) (rest := []) ⟨hx, hb, hml, hown, hts⟩ (mX5_holds l D y _ g th sv ln at9 pl va hs 3) (cwV 1 hts (zgV tw_431 tw_432 tw_433 tw_369 tw_365) rfl rfl rfl (by decide +kernel) ⟨Nat.le_of_ble_eq_true rfl, Nat.le_of_ble_eq_true rfl⟩) (zRW_preV hKN hP hD (ci := 5) (q0 := 0) rfl rfl [0] rfl (by decide)) rfl rfl hl.1 rfl (lv_room (Nat.le_of_ble_eq_true rfl)) dX5_spoil_115 ⟨Nat.zero_le _, Nat.zero_le _⟩) (fun r_10 u_11 H locs hw_115 hP hD hS => ?_)
      have hP : va_P D vwCl [((g 1), .inl (y 0, 4023, .inl S)), ((g 0), .inr (5, [.int 3, .ref (g 1), .int (nI sv), .ref (g 2), .ref (g 3), .int (nI ln), .int (nI at9), .int (nI pl), .int va, .long hs]))] H := hP
      have hD : va_D A [((g 1), .inl (y 0, 4023, .inl S)), ((g 0), .inr (5, [.int 3, .ref (g 1), .int (nI sv), .ref (g 2), .ref (g 3), .int (nI ln), .int (nI at9), .int (nI pl), .int va, .long hs]))] := hD
      obtain rfl : r_10 = 0 := hw_115
      refine lv_if_ne (tgt := 123) hx hb dX5_spoil_118 (by decide) (fun c_118 => absurd (by decide) c_118) (fun _ => ?_)
      refine lv_iconst (v := 0) hx hb dX5_spoil_121 (by decide) ?_
      have hP := hP.sub (ws' := [((g 0), .inr (5, [.int 3, .ref (g 1), .int (nI sv), .ref (g 2), .ref (g 3), .int (nI ln), .int (nI at9), .int (nI pl), .int va, .long hs])), ((g 1), .inl (y 0, 4023, .inl S))]) [1, 0] rfl
      have hD := hD.sub (ws' := [((g 0), .inr (5, [.int 3, .ref (g 1), .int (nI sv), .ref (g 2), .ref (g 3), .int (nI ln), .int (nI at9), .int (nI pl), .int va, .long hs])), ((g 1), .inl (y 0, 4023, .inl S))]) [1, 0] (by decide) rfl
      refine W.widen (k := 0) (n := 0) (by first | exact Nat.le_of_ble_eq_true rfl | omega) (by first | exact Nat.le_of_ble_eq_true rfl | omega) ?_
      exact W.iret (v := 0) hx hb hr (fun t ht hW => ⟨⟨0, (), rfl, by first | rfl | trivial | simp_all, ⟨by rw [ht]; exact hP, hD⟩⟩, hS.F ht⟩) hS.2.2 dX5_spoil_122
    · replace c_69 := zb1.mp c_69
      exact absurd ⟨by omega, c_69⟩ hb1

set_option maxHeartbeats 4000000 in
set_option maxRecDepth 100000 in
theorem mX5_append (l : Launch) (D : va_G) (y : Nat → ClassId) (sz : Nat) (g : Nat → Nat) (th : Int32) (sv : Nat) (ln : Nat) (at9 : Nat) (pl : Nat) (va : Int32) (hs : Int64) (tx : (Nat → Int32)) (ch : Nat) (hl9 : ln < 60) (hc1 : 33 ≤ ch) (hc2 : ch ≤ 126) : Met l yX5_append (ws_ yX5_append cX5_append 2 (some .int)) ({ frames := 1, cells := 0, slots := 0, locals := 22 }) (va_Pc [.ref (g 0), .int (nI ch)] (zRW D y [((g 0), .inr (5, [.int th, .ref (g 1), .int (nI sv), .ref (g 2), .ref (g 3), .int (nI ln), .int (nI at9), .int (nI pl), .int va, .long hs])), ((g 3), .inl (y 0, 60, .inl tx))] sz)) (va_Qi (fun (r : Int32) (_ : Unit) => r = nI (ln + 1)) (fun (_ : Unit) t => zOut D (va_A [((g 0), .inr (5, [.int th, .ref (g 1), .int (nI sv), .ref (g 2), .ref (g 3), .int (nI ln), .int (nI at9), .int (nI pl), .int va, .long hs])), ((g 3), .inl (y 0, 60, .inl tx))] sz) [((g 0), .inr (5, [.int 0, .ref (g 1), .int (nI sv), .ref (g 2), .ref (g 3), .int (nI (ln + 1)), .int (nI at9), .int (nI pl), .int va, .long hs])), ((g 3), .inl (y 0, 60, .inl (upd tx ln (nI ch))))] t) (va_A [((g 0), .inr (5, [.int th, .ref (g 1), .int (nI sv), .ref (g 2), .ref (g 3), .int (nI ln), .int (nI at9), .int (nI pl), .int va, .long hs])), ((g 3), .inl (y 0, 60, .inl tx))] sz)) 0 0 (va_A [((g 0), .inr (5, [.int th, .ref (g 1), .int (nI sv), .ref (g 2), .ref (g 3), .int (nI ln), .int (nI at9), .int (nI pl), .int va, .long hs])), ((g 3), .inl (y 0, 60, .inl tx))] sz) := by
  refine Met.ofW (cc := cX5_append) (maxL := 2) (ret := (some .int)) (by decide) rfl ?_
  intro p e s m args below meth c s₁ B hml hpre9
  obtain ⟨rfl, hsz, hP, hKN, hD0⟩ := hpre9
  have hK := hKN.1
  have hx := B.exec
  have hb := B.bytes
  have hr := B.returns
  have hts := atoms_spec (ws := (ws_ yX5_append cX5_append 2 (some .int))) B.pre
  have htg : ∀ w ∈ gT, w.before _ s = true := fun w h => hts w (List.mem_cons_of_mem _ h)
  have hown : s.vm.findClass RX5 = some m.cls := findClass_of_methodNamed B.named
  have hlocks := B.notSynchronized
  subst hsz
  have hD := hD0.self (sz := s.heap.size)
  clear hD0
  generalize hAe : va_A [((g 0), .inr (5, [.int th, .ref (g 1), .int (nI sv), .ref (g 2), .ref (g 3), .int (nI ln), .int (nI at9), .int (nI pl), .int va, .long hs])), ((g 3), .inl (y 0, 60, .inl tx))] s.heap.size = A at hD ⊢
  have hA : ∀ q : Nat, s.heap.size ≤ q → A q := fun q h => by rw [← hAe]; exact Or.inr h
  have hS : va_S A s.heap s.heap [] := va_S.rf
  have hP : va_P D vwCl [((g 0), .inr (5, [.int th, .ref (g 1), .int (nI sv), .ref (g 2), .ref (g 3), .int (nI ln), .int (nI at9), .int (nI pl), .int va, .long hs])), ((g 3), .inl (y 0, 60, .inl tx))] s.heap := hP
  have hl := lv_entry ([.ref (g 0), .int (nI ch)]) (n := 2) (Nat.le_of_ble_eq_true rfl)
  rw [lg_entry_eq]
  generalize (lg_sl ([.ref (g 0), .int (nI ch)]) ++ List.replicate (2 - (lg_sl ([.ref (g 0), .int (nI ch)])).length) Slot.unset).toArray = ls at hl ⊢
  have hl : lv_has ls 2 [(0, .ref (g 0)), (1, .int (nI ch))] := hl
  refine lv_aload_n hx hb dX5_append_0 rfl (lv_at hl 0 rfl) ?_
  refine lv_iload_n hx hb dX5_append_1 rfl (lv_at hl 1 rfl) ?_
  refine lv_bipush (v := 33) hx hb dX5_append_2 (by decide) ?_
  refine lv_bipush (v := 126) hx hb dX5_append_4 (by decide) ?_
  refine zr_calli (va_runS (As := [.int (nI ch), .int 33, .int 126]) (rest := [.ref (g 0)]) ⟨hx, hb, hml, hown, hts⟩ (mX5_in l (nI ch) 33 126) (va_cwS 3 hts (zgS tw_367 tw_368 tw_369 tw_364) rfl rfl rfl (by decide +kernel) ⟨Nat.le_of_ble_eq_true rfl, Nat.le_of_ble_eq_true rfl⟩) zP_pre rfl rfl hl.1 rfl (lv_room (Nat.le_of_ble_eq_true rfl)) dX5_append_6 ⟨Nat.zero_le _, Nat.zero_le _⟩) hS (fun r_1 H locs hw_6 hT hS => ?_)
  replace hP := hT _ _ hP
  obtain rfl : r_1 = (if ¬ (nI ch) < 33 ∧ ¬ 126 < (nI ch) then (1 : Int32) else 0) := hw_6
  refine lv_if_ne (tgt := 16) hx hb dX5_append_9 (by decide) (fun _ => ?_) (fun c_9 => absurd c_9 (zb1.mpr ⟨nI_nlt (a := ch) (b := 33) (by omega) (by omega), nI_nlt (a := 126) (b := ch) (by omega) (by omega)⟩))
  refine lv_aload_n hx hb dX5_append_16 rfl (lv_at hl 0 rfl) ?_
  refine va_get (D := D) (ci := 5) (v := .int (nI ln)) (C := RX5) (T := TX5) (N := 10) hx hb htg iX5 hown hK hP 0 rfl rfl 5 (by decide) (htg _ tw_449) (fun _ h9 => h9) rfl dX5_append_17 ?_
  refine lv_bipush (v := 60) hx hb dX5_append_20 (by decide) ?_
  refine lv_icmp_ne (tgt := 29) hx hb dX5_append_22 (by decide) (fun c_22 => ?_) (fun c_22 => ?_)
  · replace c_22 : ¬ ln = 60 := fun h => c_22 ((nI_eq (a := ln) (b := 60) (by omega) (by omega)).mpr h)
    refine lv_iconst (v := 0) hx hb dX5_append_29 (by decide) ?_
    refine zw_calli (wr := [((g 3), .inl (y 0, 60, .inl tx))]) (w1 := (fun _ : Unit => [((g 0), .inr (5, [.int 0, .ref (g 1), .int (nI sv), .ref (g 2), .ref (g 3), .int (nI ln), .int (nI at9), .int (nI pl), .int va, .long hs]))])) hP hD hS hA [0] [1] rfl rfl (by decide +kernel) (by decide +kernel) (va_runV (As := [.int 0]) (rest := []) ⟨hx, hb, hml, hown, hts⟩ (mX5_holds l D y _ g th sv ln at9 pl va hs 0) (cwV 1 hts (zgV tw_431 tw_432 tw_433 tw_369 tw_365) rfl rfl rfl (by decide +kernel) ⟨Nat.le_of_ble_eq_true rfl, Nat.le_of_ble_eq_true rfl⟩) (zRW_preV hKN hP hD (ci := 5) (q0 := 0) rfl rfl [0] rfl (by decide)) rfl rfl hl.1 rfl (lv_room (Nat.le_of_ble_eq_true rfl)) dX5_append_30 ⟨Nat.zero_le _, Nat.zero_le _⟩) (fun r_2 u_3 H locs hw_30 hP hD hS => ?_)
    have hP : va_P D vwCl [((g 3), .inl (y 0, 60, .inl tx)), ((g 0), .inr (5, [.int 0, .ref (g 1), .int (nI sv), .ref (g 2), .ref (g 3), .int (nI ln), .int (nI at9), .int (nI pl), .int va, .long hs]))] H := hP
    have hD : va_D A [((g 3), .inl (y 0, 60, .inl tx)), ((g 0), .inr (5, [.int 0, .ref (g 1), .int (nI sv), .ref (g 2), .ref (g 3), .int (nI ln), .int (nI at9), .int (nI pl), .int va, .long hs]))] := hD
    obtain rfl : r_2 = 1 := hw_30
    refine lv_if_ne (tgt := 38) hx hb dX5_append_33 (by decide) (fun _ => ?_) (fun c_33 => absurd c_33 (by decide))
    refine lv_aload_n hx hb dX5_append_38 rfl (lv_at hl 0 rfl) ?_
    refine va_get (D := D) (ci := 5) (v := .ref (g 3)) (C := RX5) (T := TX5) (N := 10) hx hb htg iX5 hown hK hP 1 rfl rfl 4 (by decide) (htg _ tw_361) (fun _ h9 => h9) rfl dX5_append_39 ?_
    refine lv_aload_n hx hb dX5_append_42 rfl (lv_at hl 0 rfl) ?_
    refine va_get (D := D) (ci := 5) (v := .int (nI ln)) (C := RX5) (T := TX5) (N := 10) hx hb htg iX5 hown hK hP 1 rfl rfl 5 (by decide) (htg _ tw_449) (fun _ h9 => h9) rfl dX5_append_43 ?_
    refine lv_iload_n hx hb dX5_append_46 rfl (lv_at hl 1 rfl) ?_
    refine va_iast hx hb hK hP hD hS 0 0 rfl rfl (vp_in_nI (by omega) (by decide)) dX5_append_47 (fun H locs hP hD hS => ?_)
    rw [show (nI ln).toNatClampNeg = ln from (nI_clamp (by omega))] at hP hD
    have hP : va_P D vwCl [((g 3), .inl (y 0, 60, .inl (upd tx ln (nI ch)))), ((g 0), .inr (5, [.int 0, .ref (g 1), .int (nI sv), .ref (g 2), .ref (g 3), .int (nI ln), .int (nI at9), .int (nI pl), .int va, .long hs]))] H := hP
    have hD : va_D A [((g 3), .inl (y 0, 60, .inl (upd tx ln (nI ch)))), ((g 0), .inr (5, [.int 0, .ref (g 1), .int (nI sv), .ref (g 2), .ref (g 3), .int (nI ln), .int (nI at9), .int (nI pl), .int va, .long hs]))] := hD
    refine lv_aload_n hx hb dX5_append_48 rfl (lv_at hl 0 rfl) ?_
    refine lv_dup hx hb dX5_append_49 rfl ?_
    refine va_get (D := D) (ci := 5) (v := .int (nI ln)) (C := RX5) (T := TX5) (N := 10) hx hb htg iX5 hown hK hP 1 rfl rfl 5 (by decide) (htg _ tw_449) (fun _ h9 => h9) rfl dX5_append_50 ?_
    refine lv_iconst (v := 1) hx hb dX5_append_53 (by decide) ?_
    refine lv_iadd hx hb dX5_append_54 ?_
    refine zz_top (y := nI (ln + 1)) (nI_add ln 1) ?_
    refine va_put (D := D) (ci := 5) (v := .int (nI (ln + 1))) (ty := .int) (C := RX5) (T := TX5) (N := 10) hx hb htg iX5 tyX5 tyX5_ok nmX5 hown hK hP hD hS 1 rfl rfl 5 (by decide) (htg _ tw_449) (fun _ h9 => h9) rfl (tyX5_ok 5 (by decide)) (rfl) (rfl) (Nat.le_of_ble_eq_true rfl) dX5_append_55 (fun H locs hP hD hS => ?_)
    have hP : va_P D vwCl [((g 3), .inl (y 0, 60, .inl (upd tx ln (nI ch)))), ((g 0), .inr (5, [.int 0, .ref (g 1), .int (nI sv), .ref (g 2), .ref (g 3), .int (nI (ln + 1)), .int (nI at9), .int (nI pl), .int va, .long hs]))] H := hP
    have hD : va_D A [((g 3), .inl (y 0, 60, .inl (upd tx ln (nI ch)))), ((g 0), .inr (5, [.int 0, .ref (g 1), .int (nI sv), .ref (g 2), .ref (g 3), .int (nI (ln + 1)), .int (nI at9), .int (nI pl), .int va, .long hs]))] := hD
    refine lv_aload_n hx hb dX5_append_58 rfl (lv_at hl 0 rfl) ?_
    refine va_get (D := D) (ci := 5) (v := .int (nI (ln + 1))) (C := RX5) (T := TX5) (N := 10) hx hb htg iX5 hown hK hP 1 rfl rfl 5 (by decide) (htg _ tw_449) (fun _ h9 => h9) rfl dX5_append_59 ?_
    have hP := hP.sub (ws' := [((g 0), .inr (5, [.int 0, .ref (g 1), .int (nI sv), .ref (g 2), .ref (g 3), .int (nI (ln + 1)), .int (nI at9), .int (nI pl), .int va, .long hs])), ((g 3), .inl (y 0, 60, .inl (upd tx ln (nI ch))))]) [1, 0] rfl
    have hD := hD.sub (ws' := [((g 0), .inr (5, [.int 0, .ref (g 1), .int (nI sv), .ref (g 2), .ref (g 3), .int (nI (ln + 1)), .int (nI at9), .int (nI pl), .int va, .long hs])), ((g 3), .inl (y 0, 60, .inl (upd tx ln (nI ch))))]) [1, 0] (by decide) rfl
    refine W.widen (k := 0) (n := 0) (by first | exact Nat.le_of_ble_eq_true rfl | omega) (by first | exact Nat.le_of_ble_eq_true rfl | omega) ?_
    exact W.iret (v := (nI (ln + 1))) hx hb hr (fun t ht hW => ⟨⟨nI (ln + 1), (), rfl, by first | rfl | trivial | simp_all, ⟨by rw [ht]; exact hP, hD⟩⟩, hS.F ht⟩) hS.2.2 dX5_append_62
  · replace c_22 : ln = 60 := (nI_eq (a := ln) (b := 60) (by omega) (by omega)).mp c_22
    exfalso; omega

set_option maxHeartbeats 4000000 in
set_option maxRecDepth 100000 in
theorem mX5_append_b1 (l : Launch) (D : va_G) (y : Nat → ClassId) (sz : Nat) (g : Nat → Nat) (th : Int32) (sv : Nat) (ln : Nat) (at9 : Nat) (pl : Nat) (va : Int32) (hs : Int64) (x : Int32) (hb1 : ¬ (¬ x < 33 ∧ ¬ 126 < x)) : Met l yX5_append (ws_ yX5_append cX5_append 2 (some .int)) ({ frames := 1, cells := 0, slots := 0, locals := 22 }) (va_Pc [.ref (g 0), .int x] (zRW D y [((g 0), .inr (5, [.int th, .ref (g 1), .int (nI sv), .ref (g 2), .ref (g 3), .int (nI ln), .int (nI at9), .int (nI pl), .int va, .long hs]))] sz)) (va_Qi (fun (r : Int32) (_ : Unit) => r = 0) (fun (_ : Unit) t => zOut D (va_A [((g 0), .inr (5, [.int th, .ref (g 1), .int (nI sv), .ref (g 2), .ref (g 3), .int (nI ln), .int (nI at9), .int (nI pl), .int va, .long hs]))] sz) [((g 0), .inr (5, [.int 1, .ref (g 1), .int (nI sv), .ref (g 2), .ref (g 3), .int (nI ln), .int (nI at9), .int (nI pl), .int va, .long hs]))] t) (va_A [((g 0), .inr (5, [.int th, .ref (g 1), .int (nI sv), .ref (g 2), .ref (g 3), .int (nI ln), .int (nI at9), .int (nI pl), .int va, .long hs]))] sz)) 0 0 (va_A [((g 0), .inr (5, [.int th, .ref (g 1), .int (nI sv), .ref (g 2), .ref (g 3), .int (nI ln), .int (nI at9), .int (nI pl), .int va, .long hs]))] sz) := by
  refine Met.ofW (cc := cX5_append) (maxL := 2) (ret := (some .int)) (by decide) rfl ?_
  intro p e s m args below meth c s₁ B hml hpre9
  obtain ⟨rfl, hsz, hP, hKN, hD0⟩ := hpre9
  have hK := hKN.1
  have hx := B.exec
  have hb := B.bytes
  have hr := B.returns
  have hts := atoms_spec (ws := (ws_ yX5_append cX5_append 2 (some .int))) B.pre
  have htg : ∀ w ∈ gT, w.before _ s = true := fun w h => hts w (List.mem_cons_of_mem _ h)
  have hown : s.vm.findClass RX5 = some m.cls := findClass_of_methodNamed B.named
  have hlocks := B.notSynchronized
  subst hsz
  have hD := hD0.self (sz := s.heap.size)
  clear hD0
  generalize hAe : va_A [((g 0), .inr (5, [.int th, .ref (g 1), .int (nI sv), .ref (g 2), .ref (g 3), .int (nI ln), .int (nI at9), .int (nI pl), .int va, .long hs]))] s.heap.size = A at hD ⊢
  have hA : ∀ q : Nat, s.heap.size ≤ q → A q := fun q h => by rw [← hAe]; exact Or.inr h
  have hS : va_S A s.heap s.heap [] := va_S.rf
  have hP : va_P D vwCl [((g 0), .inr (5, [.int th, .ref (g 1), .int (nI sv), .ref (g 2), .ref (g 3), .int (nI ln), .int (nI at9), .int (nI pl), .int va, .long hs]))] s.heap := hP
  have hl := lv_entry ([.ref (g 0), .int x]) (n := 2) (Nat.le_of_ble_eq_true rfl)
  rw [lg_entry_eq]
  generalize (lg_sl ([.ref (g 0), .int x]) ++ List.replicate (2 - (lg_sl ([.ref (g 0), .int x])).length) Slot.unset).toArray = ls at hl ⊢
  have hl : lv_has ls 2 [(0, .ref (g 0)), (1, .int x)] := hl
  refine lv_aload_n hx hb dX5_append_0 rfl (lv_at hl 0 rfl) ?_
  refine lv_iload_n hx hb dX5_append_1 rfl (lv_at hl 1 rfl) ?_
  refine lv_bipush (v := 33) hx hb dX5_append_2 (by decide) ?_
  refine lv_bipush (v := 126) hx hb dX5_append_4 (by decide) ?_
  refine zr_calli (va_runS (As := [.int x, .int 33, .int 126]) (rest := [.ref (g 0)]) ⟨hx, hb, hml, hown, hts⟩ (mX5_in l x 33 126) (va_cwS 3 hts (zgS tw_367 tw_368 tw_369 tw_364) rfl rfl rfl (by decide +kernel) ⟨Nat.le_of_ble_eq_true rfl, Nat.le_of_ble_eq_true rfl⟩) zP_pre rfl rfl hl.1 rfl (lv_room (Nat.le_of_ble_eq_true rfl)) dX5_append_6 ⟨Nat.zero_le _, Nat.zero_le _⟩) hS (fun r_1 H locs hw_6 hT hS => ?_)
  replace hP := hT _ _ hP
  obtain rfl : r_1 = (if ¬ x < 33 ∧ ¬ 126 < x then (1 : Int32) else 0) := hw_6
  refine lv_if_ne (tgt := 16) hx hb dX5_append_9 (by decide) (fun c_9 => absurd (zb0.mpr hb1) c_9) (fun _ => ?_)
  refine lv_iconst (v := 1) hx hb dX5_append_12 (by decide) ?_
  refine lv_goto (tgt := 30) hx hb dX5_append_13 (by decide) ?_
  refine zw_calli (wr := []) (w1 := (fun _ : Unit => [((g 0), .inr (5, [.int 1, .ref (g 1), .int (nI sv), .ref (g 2), .ref (g 3), .int (nI ln), .int (nI at9), .int (nI pl), .int va, .long hs]))])) hP hD hS hA [0] [] rfl rfl (by decide +kernel) (by decide +kernel) (va_runV (As := [.int 1]) (rest := []) ⟨hx, hb, hml, hown, hts⟩ (mX5_holds l D y _ g th sv ln at9 pl va hs 1) (cwV 1 hts (zgV tw_431 tw_432 tw_433 tw_369 tw_365) rfl rfl rfl (by decide +kernel) ⟨Nat.le_of_ble_eq_true rfl, Nat.le_of_ble_eq_true rfl⟩) (zRW_preV hKN hP hD (ci := 5) (q0 := 0) rfl rfl [0] rfl (by decide)) rfl rfl hl.1 rfl (lv_room (Nat.le_of_ble_eq_true rfl)) dX5_append_30 ⟨Nat.zero_le _, Nat.zero_le _⟩) (fun r_2 u_3 H locs hw_30 hP hD hS => ?_)
  have hP : va_P D vwCl [((g 0), .inr (5, [.int 1, .ref (g 1), .int (nI sv), .ref (g 2), .ref (g 3), .int (nI ln), .int (nI at9), .int (nI pl), .int va, .long hs]))] H := hP
  have hD : va_D A [((g 0), .inr (5, [.int 1, .ref (g 1), .int (nI sv), .ref (g 2), .ref (g 3), .int (nI ln), .int (nI at9), .int (nI pl), .int va, .long hs]))] := hD
  obtain rfl : r_2 = 0 := hw_30
  refine lv_if_ne (tgt := 38) hx hb dX5_append_33 (by decide) (fun c_33 => absurd (by decide) c_33) (fun _ => ?_)
  refine lv_iconst (v := 0) hx hb dX5_append_36 (by decide) ?_
  refine W.widen (k := 0) (n := 0) (by first | exact Nat.le_of_ble_eq_true rfl | omega) (by first | exact Nat.le_of_ble_eq_true rfl | omega) ?_
  exact W.iret (v := 0) hx hb hr (fun t ht hW => ⟨⟨0, (), rfl, by first | rfl | trivial | simp_all, ⟨by rw [ht]; exact hP, hD⟩⟩, hS.F ht⟩) hS.2.2 dX5_append_37

set_option maxHeartbeats 4000000 in
set_option maxRecDepth 100000 in
theorem mX5_append_b2 (l : Launch) (D : va_G) (y : Nat → ClassId) (sz : Nat) (g : Nat → Nat) (th : Int32) (sv : Nat) (ln : Nat) (at9 : Nat) (pl : Nat) (va : Int32) (hs : Int64) (x : Int32) (h1 : ¬ x < 33 ∧ ¬ 126 < x) (hl9 : ln = 60) : Met l yX5_append (ws_ yX5_append cX5_append 2 (some .int)) ({ frames := 1, cells := 0, slots := 0, locals := 22 }) (va_Pc [.ref (g 0), .int x] (zRW D y [((g 0), .inr (5, [.int th, .ref (g 1), .int (nI sv), .ref (g 2), .ref (g 3), .int (nI ln), .int (nI at9), .int (nI pl), .int va, .long hs]))] sz)) (va_Qi (fun (r : Int32) (_ : Unit) => r = 0) (fun (_ : Unit) t => zOut D (va_A [((g 0), .inr (5, [.int th, .ref (g 1), .int (nI sv), .ref (g 2), .ref (g 3), .int (nI ln), .int (nI at9), .int (nI pl), .int va, .long hs]))] sz) [((g 0), .inr (5, [.int 2, .ref (g 1), .int (nI sv), .ref (g 2), .ref (g 3), .int (nI ln), .int (nI at9), .int (nI pl), .int va, .long hs]))] t) (va_A [((g 0), .inr (5, [.int th, .ref (g 1), .int (nI sv), .ref (g 2), .ref (g 3), .int (nI ln), .int (nI at9), .int (nI pl), .int va, .long hs]))] sz)) 0 0 (va_A [((g 0), .inr (5, [.int th, .ref (g 1), .int (nI sv), .ref (g 2), .ref (g 3), .int (nI ln), .int (nI at9), .int (nI pl), .int va, .long hs]))] sz) := by
  refine Met.ofW (cc := cX5_append) (maxL := 2) (ret := (some .int)) (by decide) rfl ?_
  intro p e s m args below meth c s₁ B hml hpre9
  obtain ⟨rfl, hsz, hP, hKN, hD0⟩ := hpre9
  have hK := hKN.1
  have hx := B.exec
  have hb := B.bytes
  have hr := B.returns
  have hts := atoms_spec (ws := (ws_ yX5_append cX5_append 2 (some .int))) B.pre
  have htg : ∀ w ∈ gT, w.before _ s = true := fun w h => hts w (List.mem_cons_of_mem _ h)
  have hown : s.vm.findClass RX5 = some m.cls := findClass_of_methodNamed B.named
  have hlocks := B.notSynchronized
  subst hsz
  have hD := hD0.self (sz := s.heap.size)
  clear hD0
  generalize hAe : va_A [((g 0), .inr (5, [.int th, .ref (g 1), .int (nI sv), .ref (g 2), .ref (g 3), .int (nI ln), .int (nI at9), .int (nI pl), .int va, .long hs]))] s.heap.size = A at hD ⊢
  have hA : ∀ q : Nat, s.heap.size ≤ q → A q := fun q h => by rw [← hAe]; exact Or.inr h
  have hS : va_S A s.heap s.heap [] := va_S.rf
  have hP : va_P D vwCl [((g 0), .inr (5, [.int th, .ref (g 1), .int (nI sv), .ref (g 2), .ref (g 3), .int (nI ln), .int (nI at9), .int (nI pl), .int va, .long hs]))] s.heap := hP
  have hl := lv_entry ([.ref (g 0), .int x]) (n := 2) (Nat.le_of_ble_eq_true rfl)
  rw [lg_entry_eq]
  generalize (lg_sl ([.ref (g 0), .int x]) ++ List.replicate (2 - (lg_sl ([.ref (g 0), .int x])).length) Slot.unset).toArray = ls at hl ⊢
  have hl : lv_has ls 2 [(0, .ref (g 0)), (1, .int x)] := hl
  refine lv_aload_n hx hb dX5_append_0 rfl (lv_at hl 0 rfl) ?_
  refine lv_iload_n hx hb dX5_append_1 rfl (lv_at hl 1 rfl) ?_
  refine lv_bipush (v := 33) hx hb dX5_append_2 (by decide) ?_
  refine lv_bipush (v := 126) hx hb dX5_append_4 (by decide) ?_
  refine zr_calli (va_runS (As := [.int x, .int 33, .int 126]) (rest := [.ref (g 0)]) ⟨hx, hb, hml, hown, hts⟩ (mX5_in l x 33 126) (va_cwS 3 hts (zgS tw_367 tw_368 tw_369 tw_364) rfl rfl rfl (by decide +kernel) ⟨Nat.le_of_ble_eq_true rfl, Nat.le_of_ble_eq_true rfl⟩) zP_pre rfl rfl hl.1 rfl (lv_room (Nat.le_of_ble_eq_true rfl)) dX5_append_6 ⟨Nat.zero_le _, Nat.zero_le _⟩) hS (fun r_1 H locs hw_6 hT hS => ?_)
  replace hP := hT _ _ hP
  obtain rfl : r_1 = (if ¬ x < 33 ∧ ¬ 126 < x then (1 : Int32) else 0) := hw_6
  refine lv_if_ne (tgt := 16) hx hb dX5_append_9 (by decide) (fun _ => ?_) (fun c_9 => absurd c_9 (zb1.mpr h1))
  refine lv_aload_n hx hb dX5_append_16 rfl (lv_at hl 0 rfl) ?_
  refine va_get (D := D) (ci := 5) (v := .int (nI ln)) (C := RX5) (T := TX5) (N := 10) hx hb htg iX5 hown hK hP 0 rfl rfl 5 (by decide) (htg _ tw_449) (fun _ h9 => h9) rfl dX5_append_17 ?_
  refine lv_bipush (v := 60) hx hb dX5_append_20 (by decide) ?_
  refine lv_icmp_ne (tgt := 29) hx hb dX5_append_22 (by decide) (fun c_22 => ?_) (fun c_22 => ?_)
  · replace c_22 : ¬ ln = 60 := fun h => c_22 ((nI_eq (a := ln) (b := 60) (by omega) (by omega)).mpr h)
    exfalso; omega
  · replace c_22 : ln = 60 := (nI_eq (a := ln) (b := 60) (by omega) (by omega)).mp c_22
    refine lv_iconst (v := 2) hx hb dX5_append_25 (by decide) ?_
    refine lv_goto (tgt := 30) hx hb dX5_append_26 (by decide) ?_
    refine zw_calli (wr := []) (w1 := (fun _ : Unit => [((g 0), .inr (5, [.int 2, .ref (g 1), .int (nI sv), .ref (g 2), .ref (g 3), .int (nI ln), .int (nI at9), .int (nI pl), .int va, .long hs]))])) hP hD hS hA [0] [] rfl rfl (by decide +kernel) (by decide +kernel) (va_runV (As := [.int 2]) (rest := []) ⟨hx, hb, hml, hown, hts⟩ (mX5_holds l D y _ g th sv ln at9 pl va hs 2) (cwV 1 hts (zgV tw_431 tw_432 tw_433 tw_369 tw_365) rfl rfl rfl (by decide +kernel) ⟨Nat.le_of_ble_eq_true rfl, Nat.le_of_ble_eq_true rfl⟩) (zRW_preV hKN hP hD (ci := 5) (q0 := 0) rfl rfl [0] rfl (by decide)) rfl rfl hl.1 rfl (lv_room (Nat.le_of_ble_eq_true rfl)) dX5_append_30 ⟨Nat.zero_le _, Nat.zero_le _⟩) (fun r_2 u_3 H locs hw_30 hP hD hS => ?_)
    have hP : va_P D vwCl [((g 0), .inr (5, [.int 2, .ref (g 1), .int (nI sv), .ref (g 2), .ref (g 3), .int (nI ln), .int (nI at9), .int (nI pl), .int va, .long hs]))] H := hP
    have hD : va_D A [((g 0), .inr (5, [.int 2, .ref (g 1), .int (nI sv), .ref (g 2), .ref (g 3), .int (nI ln), .int (nI at9), .int (nI pl), .int va, .long hs]))] := hD
    obtain rfl : r_2 = 0 := hw_30
    refine lv_if_ne (tgt := 38) hx hb dX5_append_33 (by decide) (fun c_33 => absurd (by decide) c_33) (fun _ => ?_)
    refine lv_iconst (v := 0) hx hb dX5_append_36 (by decide) ?_
    refine W.widen (k := 0) (n := 0) (by first | exact Nat.le_of_ble_eq_true rfl | omega) (by first | exact Nat.le_of_ble_eq_true rfl | omega) ?_
    exact W.iret (v := 0) hx hb hr (fun t ht hW => ⟨⟨0, (), rfl, by first | rfl | trivial | simp_all, ⟨by rw [ht]; exact hP, hD⟩⟩, hS.F ht⟩) hS.2.2 dX5_append_37

set_option maxHeartbeats 4000000 in
set_option maxRecDepth 100000 in
theorem mX5_clearBuffer (l : Launch) (D : va_G) (y : Nat → ClassId) (sz : Nat) (g : Nat → Nat) (th : Int32) (sv : Nat) (ln : Nat) (at9 : Nat) (pl : Nat) (va : Int32) (hs : Int64) : Met l yX5_clearBuffer (ws_ yX5_clearBuffer cX5_clearBuffer 2 (some .int)) ({ frames := 0, cells := 0, slots := 0, locals := 0 }) (va_Pc [.ref (g 0)] (zRW D y [((g 0), .inr (5, [.int th, .ref (g 1), .int (nI sv), .ref (g 2), .ref (g 3), .int (nI ln), .int (nI at9), .int (nI pl), .int va, .long hs]))] sz)) (va_Qi (fun (r : Int32) (_ : Unit) => r = nI ln) (fun (_ : Unit) t => zOut D (va_A [((g 0), .inr (5, [.int th, .ref (g 1), .int (nI sv), .ref (g 2), .ref (g 3), .int (nI ln), .int (nI at9), .int (nI pl), .int va, .long hs]))] sz) [((g 0), .inr (5, [.int 0, .ref (g 1), .int (nI sv), .ref (g 2), .ref (g 3), .int 0, .int (nI at9), .int (nI pl), .int va, .long hs]))] t) (va_A [((g 0), .inr (5, [.int th, .ref (g 1), .int (nI sv), .ref (g 2), .ref (g 3), .int (nI ln), .int (nI at9), .int (nI pl), .int va, .long hs]))] sz)) 0 0 (va_A [((g 0), .inr (5, [.int th, .ref (g 1), .int (nI sv), .ref (g 2), .ref (g 3), .int (nI ln), .int (nI at9), .int (nI pl), .int va, .long hs]))] sz) := by
  refine Met.ofW (cc := cX5_clearBuffer) (maxL := 2) (ret := (some .int)) (by decide) rfl ?_
  intro p e s m args below meth c s₁ B hml hpre9
  obtain ⟨rfl, hsz, hP, hKN, hD0⟩ := hpre9
  have hK := hKN.1
  have hx := B.exec
  have hb := B.bytes
  have hr := B.returns
  have hts := atoms_spec (ws := (ws_ yX5_clearBuffer cX5_clearBuffer 2 (some .int))) B.pre
  have htg : ∀ w ∈ gT, w.before _ s = true := fun w h => hts w (List.mem_cons_of_mem _ h)
  have hown : s.vm.findClass RX5 = some m.cls := findClass_of_methodNamed B.named
  have hlocks := B.notSynchronized
  subst hsz
  have hD := hD0.self (sz := s.heap.size)
  clear hD0
  generalize hAe : va_A [((g 0), .inr (5, [.int th, .ref (g 1), .int (nI sv), .ref (g 2), .ref (g 3), .int (nI ln), .int (nI at9), .int (nI pl), .int va, .long hs]))] s.heap.size = A at hD ⊢
  have hA : ∀ q : Nat, s.heap.size ≤ q → A q := fun q h => by rw [← hAe]; exact Or.inr h
  have hS : va_S A s.heap s.heap [] := va_S.rf
  have hP : va_P D vwCl [((g 0), .inr (5, [.int th, .ref (g 1), .int (nI sv), .ref (g 2), .ref (g 3), .int (nI ln), .int (nI at9), .int (nI pl), .int va, .long hs]))] s.heap := hP
  have hl := lv_entry ([.ref (g 0)]) (n := 2) (Nat.le_of_ble_eq_true rfl)
  rw [lg_entry_eq]
  generalize (lg_sl ([.ref (g 0)]) ++ List.replicate (2 - (lg_sl ([.ref (g 0)])).length) Slot.unset).toArray = ls at hl ⊢
  have hl : lv_has ls 2 [(0, .ref (g 0))] := hl
  refine lv_aload_n hx hb dX5_clearBuffer_0 rfl (lv_at hl 0 rfl) ?_
  refine lv_iconst (v := 0) hx hb dX5_clearBuffer_1 (by decide) ?_
  refine va_put (D := D) (ci := 5) (v := .int 0) (ty := .int) (C := RX5) (T := TX5) (N := 10) hx hb htg iX5 tyX5 tyX5_ok nmX5 hown hK hP hD hS 0 rfl rfl 0 (by decide) (htg _ tw_363) (fun _ h9 => h9) rfl (tyX5_ok 0 (by decide)) (rfl) (rfl) (Nat.le_of_ble_eq_true rfl) dX5_clearBuffer_2 (fun H locs hP hD hS => ?_)
  have hP : va_P D vwCl [((g 0), .inr (5, [.int 0, .ref (g 1), .int (nI sv), .ref (g 2), .ref (g 3), .int (nI ln), .int (nI at9), .int (nI pl), .int va, .long hs]))] H := hP
  have hD : va_D A [((g 0), .inr (5, [.int 0, .ref (g 1), .int (nI sv), .ref (g 2), .ref (g 3), .int (nI ln), .int (nI at9), .int (nI pl), .int va, .long hs]))] := hD
  refine lv_aload_n hx hb dX5_clearBuffer_5 rfl (lv_at hl 0 rfl) ?_
  refine va_get (D := D) (ci := 5) (v := .int (nI ln)) (C := RX5) (T := TX5) (N := 10) hx hb htg iX5 hown hK hP 0 rfl rfl 5 (by decide) (htg _ tw_449) (fun _ h9 => h9) rfl dX5_clearBuffer_6 ?_
  refine lv_istore_n (lv' := [(1, .int (nI ln)), (0, .ref (g 0))]) hx hb dX5_clearBuffer_9 rfl hl (by decide) rfl (fun ls hl => ?_)
  refine lv_aload_n hx hb dX5_clearBuffer_10 rfl (lv_at hl 1 rfl) ?_
  refine lv_iconst (v := 0) hx hb dX5_clearBuffer_11 (by decide) ?_
  refine va_put (D := D) (ci := 5) (v := .int 0) (ty := .int) (C := RX5) (T := TX5) (N := 10) hx hb htg iX5 tyX5 tyX5_ok nmX5 hown hK hP hD hS 0 rfl rfl 5 (by decide) (htg _ tw_449) (fun _ h9 => h9) rfl (tyX5_ok 5 (by decide)) (rfl) (rfl) (Nat.le_of_ble_eq_true rfl) dX5_clearBuffer_12 (fun H locs hP hD hS => ?_)
  have hP : va_P D vwCl [((g 0), .inr (5, [.int 0, .ref (g 1), .int (nI sv), .ref (g 2), .ref (g 3), .int 0, .int (nI at9), .int (nI pl), .int va, .long hs]))] H := hP
  have hD : va_D A [((g 0), .inr (5, [.int 0, .ref (g 1), .int (nI sv), .ref (g 2), .ref (g 3), .int 0, .int (nI at9), .int (nI pl), .int va, .long hs]))] := hD
  refine lv_iload_n hx hb dX5_clearBuffer_15 rfl (lv_at hl 0 rfl) ?_
  refine W.widen (k := 0) (n := 0) (by first | exact Nat.le_of_ble_eq_true rfl | omega) (by first | exact Nat.le_of_ble_eq_true rfl | omega) ?_
  exact W.iret (v := (nI ln)) hx hb hr (fun t ht hW => ⟨⟨nI ln, (), rfl, by first | rfl | trivial | simp_all, ⟨by rw [ht]; exact hP, hD⟩⟩, hS.F ht⟩) hS.2.2 dX5_clearBuffer_16

set_option maxHeartbeats 4000000 in
set_option maxRecDepth 100000 in
theorem mX5_keep (l : Launch) (D : va_G) (y : Nat → ClassId) (sz : Nat) (g : Nat → Nat) (S : (Nat → Int32)) (th : Int32) (sv : Nat) (ln : Nat) (at9 : Nat) (pl : Nat) (va : Int32) (hs : Int64) (kp : (Nat → Int32)) (j : Nat) (hj : j < 2) : Met l yX5_keep (ws_ yX5_keep cX5_keep 2 (some .int)) ({ frames := 2, cells := 0, slots := 0, locals := 42 }) (va_Pc [.ref (g 0), .int (nI j)] (zRW D y [((g 0), .inr (5, [.int th, .ref (g 1), .int (nI sv), .ref (g 2), .ref (g 3), .int (nI ln), .int (nI at9), .int (nI pl), .int va, .long hs])), ((g 1), .inl (y 0, 4023, .inl S)), ((g 2), .inl (y 2, 2, .inl kp))] sz)) (va_Qi (fun (r : Int32) (_ : Unit) => r = S 1) (fun (_ : Unit) t => zOut D (va_A [((g 0), .inr (5, [.int th, .ref (g 1), .int (nI sv), .ref (g 2), .ref (g 3), .int (nI ln), .int (nI at9), .int (nI pl), .int va, .long hs])), ((g 1), .inl (y 0, 4023, .inl S)), ((g 2), .inl (y 2, 2, .inl kp))] sz) [((g 0), .inr (5, [.int 0, .ref (g 1), .int (nI sv), .ref (g 2), .ref (g 3), .int (nI ln), .int (nI at9), .int (nI pl), .int va, .long hs])), ((g 1), .inl (y 0, 4023, .inl (cpS S 0 (7 + j)))), ((g 2), .inl (y 2, 2, .inl (upd kp j 1)))] t) (va_A [((g 0), .inr (5, [.int th, .ref (g 1), .int (nI sv), .ref (g 2), .ref (g 3), .int (nI ln), .int (nI at9), .int (nI pl), .int va, .long hs])), ((g 1), .inl (y 0, 4023, .inl S)), ((g 2), .inl (y 2, 2, .inl kp))] sz)) 0 0 (va_A [((g 0), .inr (5, [.int th, .ref (g 1), .int (nI sv), .ref (g 2), .ref (g 3), .int (nI ln), .int (nI at9), .int (nI pl), .int va, .long hs])), ((g 1), .inl (y 0, 4023, .inl S)), ((g 2), .inl (y 2, 2, .inl kp))] sz) := by
  refine Met.ofW (cc := cX5_keep) (maxL := 2) (ret := (some .int)) (by decide) rfl ?_
  intro p e s m args below meth c s₁ B hml hpre9
  obtain ⟨rfl, hsz, hP, hKN, hD0⟩ := hpre9
  have hK := hKN.1
  have hx := B.exec
  have hb := B.bytes
  have hr := B.returns
  have hts := atoms_spec (ws := (ws_ yX5_keep cX5_keep 2 (some .int))) B.pre
  have htg : ∀ w ∈ gT, w.before _ s = true := fun w h => hts w (List.mem_cons_of_mem _ h)
  have hown : s.vm.findClass RX5 = some m.cls := findClass_of_methodNamed B.named
  have hlocks := B.notSynchronized
  subst hsz
  have hD := hD0.self (sz := s.heap.size)
  clear hD0
  generalize hAe : va_A [((g 0), .inr (5, [.int th, .ref (g 1), .int (nI sv), .ref (g 2), .ref (g 3), .int (nI ln), .int (nI at9), .int (nI pl), .int va, .long hs])), ((g 1), .inl (y 0, 4023, .inl S)), ((g 2), .inl (y 2, 2, .inl kp))] s.heap.size = A at hD ⊢
  have hA : ∀ q : Nat, s.heap.size ≤ q → A q := fun q h => by rw [← hAe]; exact Or.inr h
  have hS : va_S A s.heap s.heap [] := va_S.rf
  have hP : va_P D vwCl [((g 0), .inr (5, [.int th, .ref (g 1), .int (nI sv), .ref (g 2), .ref (g 3), .int (nI ln), .int (nI at9), .int (nI pl), .int va, .long hs])), ((g 1), .inl (y 0, 4023, .inl S)), ((g 2), .inl (y 2, 2, .inl kp))] s.heap := hP
  have hl := lv_entry ([.ref (g 0), .int (nI j)]) (n := 2) (Nat.le_of_ble_eq_true rfl)
  rw [lg_entry_eq]
  generalize (lg_sl ([.ref (g 0), .int (nI j)]) ++ List.replicate (2 - (lg_sl ([.ref (g 0), .int (nI j)])).length) Slot.unset).toArray = ls at hl ⊢
  have hl : lv_has ls 2 [(0, .ref (g 0)), (1, .int (nI j))] := hl
  refine lv_aload_n hx hb dX5_keep_0 rfl (lv_at hl 0 rfl) ?_
  refine lv_iload_n hx hb dX5_keep_1 rfl (lv_at hl 1 rfl) ?_
  refine zr_calli (va_runS (As := [.int (nI j)]) (rest := [.ref (g 0)]) ⟨hx, hb, hml, hown, hts⟩ (mX5_isSide l (nI j)) (va_cwS 1 hts (zgS tw_429 tw_430 tw_369 tw_370) rfl rfl rfl (by decide +kernel) ⟨Nat.le_of_ble_eq_true rfl, Nat.le_of_ble_eq_true rfl⟩) zP_pre rfl rfl hl.1 rfl (lv_room (Nat.le_of_ble_eq_true rfl)) dX5_keep_2 ⟨Nat.zero_le _, Nat.zero_le _⟩) hS (fun r_1 H locs hw_2 hT hS => ?_)
  replace hP := hT _ _ hP
  obtain rfl : r_1 = (if ¬ (nI j) < 0 ∧ ¬ 1 < (nI j) then (1 : Int32) else 0) := hw_2
  refine lv_if_eq (tgt := 12) hx hb dX5_keep_5 (by decide) (fun c_5 => absurd c_5 (zb1.mpr ⟨nI_pos (n := j) (by omega), nI_nlt (a := 1) (b := j) (by omega) (by omega)⟩)) (fun _ => ?_)
  refine lv_iconst (v := 0) hx hb dX5_keep_8 (by decide) ?_
  refine lv_goto (tgt := 13) hx hb dX5_keep_9 (by decide) ?_
  refine zw_calli (wr := [((g 1), .inl (y 0, 4023, .inl S)), ((g 2), .inl (y 2, 2, .inl kp))]) (w1 := (fun _ : Unit => [((g 0), .inr (5, [.int 0, .ref (g 1), .int (nI sv), .ref (g 2), .ref (g 3), .int (nI ln), .int (nI at9), .int (nI pl), .int va, .long hs]))])) hP hD hS hA [0] [1, 2] rfl rfl (by decide +kernel) (by decide +kernel) (va_runV (As := [.int 0]) (rest := []) ⟨hx, hb, hml, hown, hts⟩ (mX5_holds l D y _ g th sv ln at9 pl va hs 0) (cwV 1 hts (zgV tw_431 tw_432 tw_433 tw_369 tw_365) rfl rfl rfl (by decide +kernel) ⟨Nat.le_of_ble_eq_true rfl, Nat.le_of_ble_eq_true rfl⟩) (zRW_preV hKN hP hD (ci := 5) (q0 := 0) rfl rfl [0] rfl (by decide)) rfl rfl hl.1 rfl (lv_room (Nat.le_of_ble_eq_true rfl)) dX5_keep_13 ⟨Nat.zero_le _, Nat.zero_le _⟩) (fun r_2 u_3 H locs hw_13 hP hD hS => ?_)
  have hP : va_P D vwCl [((g 1), .inl (y 0, 4023, .inl S)), ((g 2), .inl (y 2, 2, .inl kp)), ((g 0), .inr (5, [.int 0, .ref (g 1), .int (nI sv), .ref (g 2), .ref (g 3), .int (nI ln), .int (nI at9), .int (nI pl), .int va, .long hs]))] H := hP
  have hD : va_D A [((g 1), .inl (y 0, 4023, .inl S)), ((g 2), .inl (y 2, 2, .inl kp)), ((g 0), .inr (5, [.int 0, .ref (g 1), .int (nI sv), .ref (g 2), .ref (g 3), .int (nI ln), .int (nI at9), .int (nI pl), .int va, .long hs]))] := hD
  obtain rfl : r_2 = 1 := hw_13
  refine lv_if_ne (tgt := 21) hx hb dX5_keep_16 (by decide) (fun _ => ?_) (fun c_16 => absurd c_16 (by decide))
  refine lv_aload_n hx hb dX5_keep_21 rfl (lv_at hl 0 rfl) ?_
  refine lv_iconst (v := 0) hx hb dX5_keep_22 (by decide) ?_
  refine lv_bipush (v := 7) hx hb dX5_keep_23 (by decide) ?_
  refine lv_iload_n hx hb dX5_keep_25 rfl (lv_at hl 1 rfl) ?_
  refine lv_iadd hx hb dX5_keep_26 ?_
  refine zz_top (y := nI (7 + j)) (nI_add 7 j) ?_
  refine zw_callv (wr := [((g 2), .inl (y 2, 2, .inl kp))]) (w1 := (fun _ : Unit => [((g 0), .inr (5, [.int 0, .ref (g 1), .int (nI sv), .ref (g 2), .ref (g 3), .int (nI ln), .int (nI at9), .int (nI pl), .int va, .long hs])), ((g 1), .inl (y 0, 4023, .inl (cpS S 0 (7 + j))))])) hP hD hS hA [2, 0] [1] rfl rfl (by decide +kernel) (by decide +kernel) (va_runV (As := [.int 0, .int (nI (7 + j))]) (rest := []) ⟨hx, hb, hml, hown, hts⟩ (mX5_copies l D y _ g S 0 sv ln at9 pl va hs 0 (7 + j) (by first | assumption | rfl | omega | decide) (by first | assumption | rfl | omega | decide) (by first | assumption | rfl | omega | decide)) (cwV 2 hts (zgV tw_419 tw_420 tw_421 tw_369 tw_416) rfl rfl rfl (by decide +kernel) ⟨Nat.le_of_ble_eq_true rfl, Nat.le_of_ble_eq_true rfl⟩) (zRW_preV hKN hP hD (ci := 5) (q0 := 2) rfl rfl [2, 0] rfl (by decide)) rfl rfl hl.1 rfl (lv_room (Nat.le_of_ble_eq_true rfl)) dX5_keep_27 ⟨Nat.zero_le _, Nat.zero_le _⟩) (fun u_4 H locs hw_27 hP hD hS => ?_)
  have hP : va_P D vwCl [((g 2), .inl (y 2, 2, .inl kp)), ((g 0), .inr (5, [.int 0, .ref (g 1), .int (nI sv), .ref (g 2), .ref (g 3), .int (nI ln), .int (nI at9), .int (nI pl), .int va, .long hs])), ((g 1), .inl (y 0, 4023, .inl (cpS S 0 (7 + j))))] H := hP
  have hD : va_D A [((g 2), .inl (y 2, 2, .inl kp)), ((g 0), .inr (5, [.int 0, .ref (g 1), .int (nI sv), .ref (g 2), .ref (g 3), .int (nI ln), .int (nI at9), .int (nI pl), .int va, .long hs])), ((g 1), .inl (y 0, 4023, .inl (cpS S 0 (7 + j))))] := hD
  refine lv_aload_n hx hb dX5_keep_30 rfl (lv_at hl 0 rfl) ?_
  refine va_get (D := D) (ci := 5) (v := .ref (g 2)) (C := RX5) (T := TX5) (N := 10) hx hb htg iX5 hown hK hP 1 rfl rfl 3 (by decide) (htg _ tw_360) (fun _ h9 => h9) rfl dX5_keep_31 ?_
  refine lv_iload_n hx hb dX5_keep_34 rfl (lv_at hl 1 rfl) ?_
  refine lv_iconst (v := 1) hx hb dX5_keep_35 (by decide) ?_
  refine va_zast hx hb hK hP hD hS 0 2 rfl rfl (vp_in_nI (by omega) (by decide)) dX5_keep_36 (fun H locs hP hD hS => ?_)
  rw [show (nI j).toNatClampNeg = j from (nI_clamp (by omega))] at hP hD
  rw [show vp_nar .boolean 1 = 1 from rfl] at hP hD
  have hP : va_P D vwCl [((g 2), .inl (y 2, 2, .inl (upd kp j 1))), ((g 0), .inr (5, [.int 0, .ref (g 1), .int (nI sv), .ref (g 2), .ref (g 3), .int (nI ln), .int (nI at9), .int (nI pl), .int va, .long hs])), ((g 1), .inl (y 0, 4023, .inl (cpS S 0 (7 + j))))] H := hP
  have hD : va_D A [((g 2), .inl (y 2, 2, .inl (upd kp j 1))), ((g 0), .inr (5, [.int 0, .ref (g 1), .int (nI sv), .ref (g 2), .ref (g 3), .int (nI ln), .int (nI at9), .int (nI pl), .int va, .long hs])), ((g 1), .inl (y 0, 4023, .inl (cpS S 0 (7 + j))))] := hD
  refine lv_aload_n hx hb dX5_keep_37 rfl (lv_at hl 0 rfl) ?_
  refine va_get (D := D) (ci := 5) (v := .ref (g 1)) (C := RX5) (T := TX5) (N := 10) hx hb htg iX5 hown hK hP 1 rfl rfl 1 (by decide) (htg _ tw_359) (fun _ h9 => h9) rfl dX5_keep_38 ?_
  refine lv_iconst (v := 1) hx hb dX5_keep_41 (by decide) ?_
  refine va_iald hx hb hK hP 2 0 rfl rfl (vp_in_nI (n := 1) (by decide) (by decide)) dX5_keep_42 ?_
  refine zz_top (y := (cpS S 0 (7 + j)) 1) (congrArg (cpS S 0 (7 + j)) (by decide)) ?_
  refine zz_top (y := S 1) (cpS_lo (by omega) (by decide)) ?_
  have hP := hP.sub (ws' := [((g 0), .inr (5, [.int 0, .ref (g 1), .int (nI sv), .ref (g 2), .ref (g 3), .int (nI ln), .int (nI at9), .int (nI pl), .int va, .long hs])), ((g 1), .inl (y 0, 4023, .inl (cpS S 0 (7 + j)))), ((g 2), .inl (y 2, 2, .inl (upd kp j 1)))]) [1, 2, 0] rfl
  have hD := hD.sub (ws' := [((g 0), .inr (5, [.int 0, .ref (g 1), .int (nI sv), .ref (g 2), .ref (g 3), .int (nI ln), .int (nI at9), .int (nI pl), .int va, .long hs])), ((g 1), .inl (y 0, 4023, .inl (cpS S 0 (7 + j)))), ((g 2), .inl (y 2, 2, .inl (upd kp j 1)))]) [1, 2, 0] (by decide) rfl
  refine W.widen (k := 0) (n := 0) (by first | exact Nat.le_of_ble_eq_true rfl | omega) (by first | exact Nat.le_of_ble_eq_true rfl | omega) ?_
  exact W.iret (v := (S 1)) hx hb hr (fun t ht hW => ⟨⟨S 1, (), rfl, by first | rfl | trivial | simp_all, ⟨by rw [ht]; exact hP, hD⟩⟩, hS.F ht⟩) hS.2.2 dX5_keep_43

set_option maxHeartbeats 4000000 in
set_option maxRecDepth 100000 in
theorem mX5_keep_b1 (l : Launch) (D : va_G) (y : Nat → ClassId) (sz : Nat) (g : Nat → Nat) (th : Int32) (sv : Nat) (ln : Nat) (at9 : Nat) (pl : Nat) (va : Int32) (hs : Int64) (x : Int32) (hb1 : ¬ (¬ x < 0 ∧ ¬ 1 < x)) : Met l yX5_keep (ws_ yX5_keep cX5_keep 2 (some .int)) ({ frames := 2, cells := 0, slots := 0, locals := 42 }) (va_Pc [.ref (g 0), .int x] (zRW D y [((g 0), .inr (5, [.int th, .ref (g 1), .int (nI sv), .ref (g 2), .ref (g 3), .int (nI ln), .int (nI at9), .int (nI pl), .int va, .long hs]))] sz)) (va_Qi (fun (r : Int32) (_ : Unit) => r = 0) (fun (_ : Unit) t => zOut D (va_A [((g 0), .inr (5, [.int th, .ref (g 1), .int (nI sv), .ref (g 2), .ref (g 3), .int (nI ln), .int (nI at9), .int (nI pl), .int va, .long hs]))] sz) [((g 0), .inr (5, [.int 1, .ref (g 1), .int (nI sv), .ref (g 2), .ref (g 3), .int (nI ln), .int (nI at9), .int (nI pl), .int va, .long hs]))] t) (va_A [((g 0), .inr (5, [.int th, .ref (g 1), .int (nI sv), .ref (g 2), .ref (g 3), .int (nI ln), .int (nI at9), .int (nI pl), .int va, .long hs]))] sz)) 0 0 (va_A [((g 0), .inr (5, [.int th, .ref (g 1), .int (nI sv), .ref (g 2), .ref (g 3), .int (nI ln), .int (nI at9), .int (nI pl), .int va, .long hs]))] sz) := by
  refine Met.ofW (cc := cX5_keep) (maxL := 2) (ret := (some .int)) (by decide) rfl ?_
  intro p e s m args below meth c s₁ B hml hpre9
  obtain ⟨rfl, hsz, hP, hKN, hD0⟩ := hpre9
  have hK := hKN.1
  have hx := B.exec
  have hb := B.bytes
  have hr := B.returns
  have hts := atoms_spec (ws := (ws_ yX5_keep cX5_keep 2 (some .int))) B.pre
  have htg : ∀ w ∈ gT, w.before _ s = true := fun w h => hts w (List.mem_cons_of_mem _ h)
  have hown : s.vm.findClass RX5 = some m.cls := findClass_of_methodNamed B.named
  have hlocks := B.notSynchronized
  subst hsz
  have hD := hD0.self (sz := s.heap.size)
  clear hD0
  generalize hAe : va_A [((g 0), .inr (5, [.int th, .ref (g 1), .int (nI sv), .ref (g 2), .ref (g 3), .int (nI ln), .int (nI at9), .int (nI pl), .int va, .long hs]))] s.heap.size = A at hD ⊢
  have hA : ∀ q : Nat, s.heap.size ≤ q → A q := fun q h => by rw [← hAe]; exact Or.inr h
  have hS : va_S A s.heap s.heap [] := va_S.rf
  have hP : va_P D vwCl [((g 0), .inr (5, [.int th, .ref (g 1), .int (nI sv), .ref (g 2), .ref (g 3), .int (nI ln), .int (nI at9), .int (nI pl), .int va, .long hs]))] s.heap := hP
  have hl := lv_entry ([.ref (g 0), .int x]) (n := 2) (Nat.le_of_ble_eq_true rfl)
  rw [lg_entry_eq]
  generalize (lg_sl ([.ref (g 0), .int x]) ++ List.replicate (2 - (lg_sl ([.ref (g 0), .int x])).length) Slot.unset).toArray = ls at hl ⊢
  have hl : lv_has ls 2 [(0, .ref (g 0)), (1, .int x)] := hl
  refine lv_aload_n hx hb dX5_keep_0 rfl (lv_at hl 0 rfl) ?_
  refine lv_iload_n hx hb dX5_keep_1 rfl (lv_at hl 1 rfl) ?_
  refine zr_calli (va_runS (As := [.int x]) (rest := [.ref (g 0)]) ⟨hx, hb, hml, hown, hts⟩ (mX5_isSide l x) (va_cwS 1 hts (zgS tw_429 tw_430 tw_369 tw_370) rfl rfl rfl (by decide +kernel) ⟨Nat.le_of_ble_eq_true rfl, Nat.le_of_ble_eq_true rfl⟩) zP_pre rfl rfl hl.1 rfl (lv_room (Nat.le_of_ble_eq_true rfl)) dX5_keep_2 ⟨Nat.zero_le _, Nat.zero_le _⟩) hS (fun r_1 H locs hw_2 hT hS => ?_)
  replace hP := hT _ _ hP
  obtain rfl : r_1 = (if ¬ x < 0 ∧ ¬ 1 < x then (1 : Int32) else 0) := hw_2
  refine lv_if_eq (tgt := 12) hx hb dX5_keep_5 (by decide) (fun _ => ?_) (fun c_5 => absurd (zb0.mpr hb1) c_5)
  refine lv_iconst (v := 1) hx hb dX5_keep_12 (by decide) ?_
  refine zw_calli (wr := []) (w1 := (fun _ : Unit => [((g 0), .inr (5, [.int 1, .ref (g 1), .int (nI sv), .ref (g 2), .ref (g 3), .int (nI ln), .int (nI at9), .int (nI pl), .int va, .long hs]))])) hP hD hS hA [0] [] rfl rfl (by decide +kernel) (by decide +kernel) (va_runV (As := [.int 1]) (rest := []) ⟨hx, hb, hml, hown, hts⟩ (mX5_holds l D y _ g th sv ln at9 pl va hs 1) (cwV 1 hts (zgV tw_431 tw_432 tw_433 tw_369 tw_365) rfl rfl rfl (by decide +kernel) ⟨Nat.le_of_ble_eq_true rfl, Nat.le_of_ble_eq_true rfl⟩) (zRW_preV hKN hP hD (ci := 5) (q0 := 0) rfl rfl [0] rfl (by decide)) rfl rfl hl.1 rfl (lv_room (Nat.le_of_ble_eq_true rfl)) dX5_keep_13 ⟨Nat.zero_le _, Nat.zero_le _⟩) (fun r_2 u_3 H locs hw_13 hP hD hS => ?_)
  have hP : va_P D vwCl [((g 0), .inr (5, [.int 1, .ref (g 1), .int (nI sv), .ref (g 2), .ref (g 3), .int (nI ln), .int (nI at9), .int (nI pl), .int va, .long hs]))] H := hP
  have hD : va_D A [((g 0), .inr (5, [.int 1, .ref (g 1), .int (nI sv), .ref (g 2), .ref (g 3), .int (nI ln), .int (nI at9), .int (nI pl), .int va, .long hs]))] := hD
  obtain rfl : r_2 = 0 := hw_13
  refine lv_if_ne (tgt := 21) hx hb dX5_keep_16 (by decide) (fun c_16 => absurd (by decide) c_16) (fun _ => ?_)
  refine lv_iconst (v := 0) hx hb dX5_keep_19 (by decide) ?_
  refine W.widen (k := 0) (n := 0) (by first | exact Nat.le_of_ble_eq_true rfl | omega) (by first | exact Nat.le_of_ble_eq_true rfl | omega) ?_
  exact W.iret (v := 0) hx hb hr (fun t ht hW => ⟨⟨0, (), rfl, by first | rfl | trivial | simp_all, ⟨by rw [ht]; exact hP, hD⟩⟩, hS.F ht⟩) hS.2.2 dX5_keep_20

set_option maxHeartbeats 4000000 in
set_option maxRecDepth 100000 in
theorem mX5_goBack (l : Launch) (D : va_G) (y : Nat → ClassId) (sz : Nat) (g : Nat → Nat) (S : (Nat → Int32)) (th : Int32) (sv : Nat) (ln : Nat) (at9 : Nat) (pl : Nat) (va : Int32) (hs : Int64) (kp : (Nat → Int32)) (j : Nat) (hv : sv ≤ 6) (hj : j < 2) (hh : ¬ kp j = 0) : Met l yX5_goBack (ws_ yX5_goBack cX5_goBack 2 (some .int)) ({ frames := 2, cells := 0, slots := 0, locals := 44 }) (va_Pc [.ref (g 0), .int (nI j)] (zRW D y [((g 0), .inr (5, [.int th, .ref (g 1), .int (nI sv), .ref (g 2), .ref (g 3), .int (nI ln), .int (nI at9), .int (nI pl), .int va, .long hs])), ((g 1), .inl (y 0, 4023, .inl S)), ((g 2), .inl (y 2, 2, .inl kp))] sz)) (va_Qi (fun (r : Int32) (_ : Unit) => r = cpS (svS S sv) (7 + j) 0 1) (fun (_ : Unit) t => zOut D (va_A [((g 0), .inr (5, [.int th, .ref (g 1), .int (nI sv), .ref (g 2), .ref (g 3), .int (nI ln), .int (nI at9), .int (nI pl), .int va, .long hs])), ((g 1), .inl (y 0, 4023, .inl S)), ((g 2), .inl (y 2, 2, .inl kp))] sz) [((g 0), .inr (5, [.int 0, .ref (g 1), .int (nI (sv2 sv)), .ref (g 2), .ref (g 3), .int (nI ln), .int (nI at9), .int (nI pl), .int va, .long hs])), ((g 1), .inl (y 0, 4023, .inl (cpS (svS S sv) (7 + j) 0))), ((g 2), .inl (y 2, 2, .inl kp))] t) (va_A [((g 0), .inr (5, [.int th, .ref (g 1), .int (nI sv), .ref (g 2), .ref (g 3), .int (nI ln), .int (nI at9), .int (nI pl), .int va, .long hs])), ((g 1), .inl (y 0, 4023, .inl S)), ((g 2), .inl (y 2, 2, .inl kp))] sz)) 0 0 (va_A [((g 0), .inr (5, [.int th, .ref (g 1), .int (nI sv), .ref (g 2), .ref (g 3), .int (nI ln), .int (nI at9), .int (nI pl), .int va, .long hs])), ((g 1), .inl (y 0, 4023, .inl S)), ((g 2), .inl (y 2, 2, .inl kp))] sz) := by
  refine Met.ofW (cc := cX5_goBack) (maxL := 2) (ret := (some .int)) (by decide) rfl ?_
  intro p e s m args below meth c s₁ B hml hpre9
  obtain ⟨rfl, hsz, hP, hKN, hD0⟩ := hpre9
  have hK := hKN.1
  have hx := B.exec
  have hb := B.bytes
  have hr := B.returns
  have hts := atoms_spec (ws := (ws_ yX5_goBack cX5_goBack 2 (some .int))) B.pre
  have htg : ∀ w ∈ gT, w.before _ s = true := fun w h => hts w (List.mem_cons_of_mem _ h)
  have hown : s.vm.findClass RX5 = some m.cls := findClass_of_methodNamed B.named
  have hlocks := B.notSynchronized
  subst hsz
  have hD := hD0.self (sz := s.heap.size)
  clear hD0
  generalize hAe : va_A [((g 0), .inr (5, [.int th, .ref (g 1), .int (nI sv), .ref (g 2), .ref (g 3), .int (nI ln), .int (nI at9), .int (nI pl), .int va, .long hs])), ((g 1), .inl (y 0, 4023, .inl S)), ((g 2), .inl (y 2, 2, .inl kp))] s.heap.size = A at hD ⊢
  have hA : ∀ q : Nat, s.heap.size ≤ q → A q := fun q h => by rw [← hAe]; exact Or.inr h
  have hS : va_S A s.heap s.heap [] := va_S.rf
  have hP : va_P D vwCl [((g 0), .inr (5, [.int th, .ref (g 1), .int (nI sv), .ref (g 2), .ref (g 3), .int (nI ln), .int (nI at9), .int (nI pl), .int va, .long hs])), ((g 1), .inl (y 0, 4023, .inl S)), ((g 2), .inl (y 2, 2, .inl kp))] s.heap := hP
  have hl := lv_entry ([.ref (g 0), .int (nI j)]) (n := 2) (Nat.le_of_ble_eq_true rfl)
  rw [lg_entry_eq]
  generalize (lg_sl ([.ref (g 0), .int (nI j)]) ++ List.replicate (2 - (lg_sl ([.ref (g 0), .int (nI j)])).length) Slot.unset).toArray = ls at hl ⊢
  have hl : lv_has ls 2 [(0, .ref (g 0)), (1, .int (nI j))] := hl
  refine lv_aload_n hx hb dX5_goBack_0 rfl (lv_at hl 0 rfl) ?_
  refine lv_iload_n hx hb dX5_goBack_1 rfl (lv_at hl 1 rfl) ?_
  refine zr_calli (va_runS (As := [.int (nI j)]) (rest := [.ref (g 0)]) ⟨hx, hb, hml, hown, hts⟩ (mX5_isSide l (nI j)) (va_cwS 1 hts (zgS tw_429 tw_430 tw_369 tw_370) rfl rfl rfl (by decide +kernel) ⟨Nat.le_of_ble_eq_true rfl, Nat.le_of_ble_eq_true rfl⟩) zP_pre rfl rfl hl.1 rfl (lv_room (Nat.le_of_ble_eq_true rfl)) dX5_goBack_2 ⟨Nat.zero_le _, Nat.zero_le _⟩) hS (fun r_1 H locs hw_2 hT hS => ?_)
  replace hP := hT _ _ hP
  obtain rfl : r_1 = (if ¬ (nI j) < 0 ∧ ¬ 1 < (nI j) then (1 : Int32) else 0) := hw_2
  refine lv_if_ne (tgt := 12) hx hb dX5_goBack_5 (by decide) (fun _ => ?_) (fun c_5 => absurd c_5 (zb1.mpr ⟨nI_pos (n := j) (by omega), nI_nlt (a := 1) (b := j) (by omega) (by omega)⟩))
  refine lv_aload_n hx hb dX5_goBack_12 rfl (lv_at hl 0 rfl) ?_
  refine va_get (D := D) (ci := 5) (v := .ref (g 2)) (C := RX5) (T := TX5) (N := 10) hx hb htg iX5 hown hK hP 0 rfl rfl 3 (by decide) (htg _ tw_360) (fun _ h9 => h9) rfl dX5_goBack_13 ?_
  refine lv_iload_n hx hb dX5_goBack_16 rfl (lv_at hl 1 rfl) ?_
  refine va_zald hx hb hK hP 2 2 rfl rfl (vp_in_nI (by omega) (by decide)) dX5_goBack_17 ?_
  refine zz_top (y := kp j) (congrArg kp (nI_clamp (by omega))) ?_
  refine lv_if_ne (tgt := 25) hx hb dX5_goBack_18 (by decide) (fun _ => ?_) (fun c_18 => absurd c_18 (hh))
  refine lv_iconst (v := 0) hx hb dX5_goBack_25 (by decide) ?_
  refine zw_calli (wr := [((g 1), .inl (y 0, 4023, .inl S)), ((g 2), .inl (y 2, 2, .inl kp))]) (w1 := (fun _ : Unit => [((g 0), .inr (5, [.int 0, .ref (g 1), .int (nI sv), .ref (g 2), .ref (g 3), .int (nI ln), .int (nI at9), .int (nI pl), .int va, .long hs]))])) hP hD hS hA [0] [1, 2] rfl rfl (by decide +kernel) (by decide +kernel) (va_runV (As := [.int 0]) (rest := []) ⟨hx, hb, hml, hown, hts⟩ (mX5_holds l D y _ g th sv ln at9 pl va hs 0) (cwV 1 hts (zgV tw_431 tw_432 tw_433 tw_369 tw_365) rfl rfl rfl (by decide +kernel) ⟨Nat.le_of_ble_eq_true rfl, Nat.le_of_ble_eq_true rfl⟩) (zRW_preV hKN hP hD (ci := 5) (q0 := 0) rfl rfl [0] rfl (by decide)) rfl rfl hl.1 rfl (lv_room (Nat.le_of_ble_eq_true rfl)) dX5_goBack_26 ⟨Nat.zero_le _, Nat.zero_le _⟩) (fun r_2 u_3 H locs hw_26 hP hD hS => ?_)
  have hP : va_P D vwCl [((g 1), .inl (y 0, 4023, .inl S)), ((g 2), .inl (y 2, 2, .inl kp)), ((g 0), .inr (5, [.int 0, .ref (g 1), .int (nI sv), .ref (g 2), .ref (g 3), .int (nI ln), .int (nI at9), .int (nI pl), .int va, .long hs]))] H := hP
  have hD : va_D A [((g 1), .inl (y 0, 4023, .inl S)), ((g 2), .inl (y 2, 2, .inl kp)), ((g 0), .inr (5, [.int 0, .ref (g 1), .int (nI sv), .ref (g 2), .ref (g 3), .int (nI ln), .int (nI at9), .int (nI pl), .int va, .long hs]))] := hD
  obtain rfl : r_2 = 1 := hw_26
  refine lv_if_ne (tgt := 34) hx hb dX5_goBack_29 (by decide) (fun _ => ?_) (fun c_29 => absurd c_29 (by decide))
  refine lv_aload_n hx hb dX5_goBack_34 rfl (lv_at hl 0 rfl) ?_
  refine zw_callv (wr := [((g 2), .inl (y 2, 2, .inl kp))]) (w1 := (fun _ : Unit => [((g 0), .inr (5, [.int 0, .ref (g 1), .int (nI (sv2 sv)), .ref (g 2), .ref (g 3), .int (nI ln), .int (nI at9), .int (nI pl), .int va, .long hs])), ((g 1), .inl (y 0, 4023, .inl (svS S sv)))])) hP hD hS hA [2, 0] [1] rfl rfl (by decide +kernel) (by decide +kernel) (va_runV (As := []) (rest := []) ⟨hx, hb, hml, hown, hts⟩ (mX5_save l D y _ g S 0 sv ln at9 pl va hs (by first | assumption | rfl | omega | decide)) (cwV 0 hts (zgV tw_423 tw_424 tw_425 tw_369 tw_417) rfl rfl rfl (by decide +kernel) ⟨Nat.le_of_ble_eq_true rfl, Nat.le_of_ble_eq_true rfl⟩) (zRW_preV hKN hP hD (ci := 5) (q0 := 2) rfl rfl [2, 0] rfl (by decide)) rfl rfl hl.1 rfl (lv_room (Nat.le_of_ble_eq_true rfl)) dX5_goBack_35 ⟨Nat.zero_le _, Nat.zero_le _⟩) (fun u_4 H locs hw_35 hP hD hS => ?_)
  have hP : va_P D vwCl [((g 2), .inl (y 2, 2, .inl kp)), ((g 0), .inr (5, [.int 0, .ref (g 1), .int (nI (sv2 sv)), .ref (g 2), .ref (g 3), .int (nI ln), .int (nI at9), .int (nI pl), .int va, .long hs])), ((g 1), .inl (y 0, 4023, .inl (svS S sv)))] H := hP
  have hD : va_D A [((g 2), .inl (y 2, 2, .inl kp)), ((g 0), .inr (5, [.int 0, .ref (g 1), .int (nI (sv2 sv)), .ref (g 2), .ref (g 3), .int (nI ln), .int (nI at9), .int (nI pl), .int va, .long hs])), ((g 1), .inl (y 0, 4023, .inl (svS S sv)))] := hD
  refine lv_aload_n hx hb dX5_goBack_38 rfl (lv_at hl 0 rfl) ?_
  refine lv_bipush (v := 7) hx hb dX5_goBack_39 (by decide) ?_
  refine lv_iload_n hx hb dX5_goBack_41 rfl (lv_at hl 1 rfl) ?_
  refine lv_iadd hx hb dX5_goBack_42 ?_
  refine zz_top (y := nI (7 + j)) (nI_add 7 j) ?_
  refine lv_iconst (v := 0) hx hb dX5_goBack_43 (by decide) ?_
  refine zw_callv (wr := [((g 2), .inl (y 2, 2, .inl kp))]) (w1 := (fun _ : Unit => [((g 0), .inr (5, [.int 0, .ref (g 1), .int (nI (sv2 sv)), .ref (g 2), .ref (g 3), .int (nI ln), .int (nI at9), .int (nI pl), .int va, .long hs])), ((g 1), .inl (y 0, 4023, .inl (cpS (svS S sv) (7 + j) 0)))])) hP hD hS hA [1, 2] [0] rfl rfl (by decide +kernel) (by decide +kernel) (va_runV (As := [.int (nI (7 + j)), .int 0]) (rest := []) ⟨hx, hb, hml, hown, hts⟩ (mX5_copies l D y _ g (svS S sv) 0 (sv2 sv) ln at9 pl va hs (7 + j) 0 (by first | assumption | rfl | omega | decide) (by first | assumption | rfl | omega | decide) (by first | assumption | rfl | omega | decide)) (cwV 2 hts (zgV tw_419 tw_420 tw_421 tw_369 tw_416) rfl rfl rfl (by decide +kernel) ⟨Nat.le_of_ble_eq_true rfl, Nat.le_of_ble_eq_true rfl⟩) (zRW_preV hKN hP hD (ci := 5) (q0 := 1) rfl rfl [1, 2] rfl (by decide)) rfl rfl hl.1 rfl (lv_room (Nat.le_of_ble_eq_true rfl)) dX5_goBack_44 ⟨Nat.zero_le _, Nat.zero_le _⟩) (fun u_5 H locs hw_44 hP hD hS => ?_)
  have hP : va_P D vwCl [((g 2), .inl (y 2, 2, .inl kp)), ((g 0), .inr (5, [.int 0, .ref (g 1), .int (nI (sv2 sv)), .ref (g 2), .ref (g 3), .int (nI ln), .int (nI at9), .int (nI pl), .int va, .long hs])), ((g 1), .inl (y 0, 4023, .inl (cpS (svS S sv) (7 + j) 0)))] H := hP
  have hD : va_D A [((g 2), .inl (y 2, 2, .inl kp)), ((g 0), .inr (5, [.int 0, .ref (g 1), .int (nI (sv2 sv)), .ref (g 2), .ref (g 3), .int (nI ln), .int (nI at9), .int (nI pl), .int va, .long hs])), ((g 1), .inl (y 0, 4023, .inl (cpS (svS S sv) (7 + j) 0)))] := hD
  refine lv_aload_n hx hb dX5_goBack_47 rfl (lv_at hl 0 rfl) ?_
  refine va_get (D := D) (ci := 5) (v := .ref (g 1)) (C := RX5) (T := TX5) (N := 10) hx hb htg iX5 hown hK hP 1 rfl rfl 1 (by decide) (htg _ tw_359) (fun _ h9 => h9) rfl dX5_goBack_48 ?_
  refine lv_iconst (v := 1) hx hb dX5_goBack_51 (by decide) ?_
  refine va_iald hx hb hK hP 2 0 rfl rfl (vp_in_nI (n := 1) (by decide) (by decide)) dX5_goBack_52 ?_
  refine zz_top (y := (cpS (svS S sv) (7 + j) 0) 1) (congrArg (cpS (svS S sv) (7 + j) 0) (by decide)) ?_
  have hP := hP.sub (ws' := [((g 0), .inr (5, [.int 0, .ref (g 1), .int (nI (sv2 sv)), .ref (g 2), .ref (g 3), .int (nI ln), .int (nI at9), .int (nI pl), .int va, .long hs])), ((g 1), .inl (y 0, 4023, .inl (cpS (svS S sv) (7 + j) 0))), ((g 2), .inl (y 2, 2, .inl kp))]) [1, 2, 0] rfl
  have hD := hD.sub (ws' := [((g 0), .inr (5, [.int 0, .ref (g 1), .int (nI (sv2 sv)), .ref (g 2), .ref (g 3), .int (nI ln), .int (nI at9), .int (nI pl), .int va, .long hs])), ((g 1), .inl (y 0, 4023, .inl (cpS (svS S sv) (7 + j) 0))), ((g 2), .inl (y 2, 2, .inl kp))]) [1, 2, 0] (by decide) rfl
  refine W.widen (k := 0) (n := 0) (by first | exact Nat.le_of_ble_eq_true rfl | omega) (by first | exact Nat.le_of_ble_eq_true rfl | omega) ?_
  exact W.iret (v := ((cpS (svS S sv) (7 + j) 0) 1)) hx hb hr (fun t ht hW => ⟨⟨(cpS (svS S sv) (7 + j) 0) 1, (), rfl, by first | rfl | trivial | simp_all, ⟨by rw [ht]; exact hP, hD⟩⟩, hS.F ht⟩) hS.2.2 dX5_goBack_53

set_option maxHeartbeats 4000000 in
set_option maxRecDepth 100000 in
theorem mX5_goBack_b1 (l : Launch) (D : va_G) (y : Nat → ClassId) (sz : Nat) (g : Nat → Nat) (th : Int32) (sv : Nat) (ln : Nat) (at9 : Nat) (pl : Nat) (va : Int32) (hs : Int64) (x : Int32) (hb1 : ¬ (¬ x < 0 ∧ ¬ 1 < x)) : Met l yX5_goBack (ws_ yX5_goBack cX5_goBack 2 (some .int)) ({ frames := 2, cells := 0, slots := 0, locals := 42 }) (va_Pc [.ref (g 0), .int x] (zRW D y [((g 0), .inr (5, [.int th, .ref (g 1), .int (nI sv), .ref (g 2), .ref (g 3), .int (nI ln), .int (nI at9), .int (nI pl), .int va, .long hs]))] sz)) (va_Qi (fun (r : Int32) (_ : Unit) => r = 0) (fun (_ : Unit) t => zOut D (va_A [((g 0), .inr (5, [.int th, .ref (g 1), .int (nI sv), .ref (g 2), .ref (g 3), .int (nI ln), .int (nI at9), .int (nI pl), .int va, .long hs]))] sz) [((g 0), .inr (5, [.int 1, .ref (g 1), .int (nI sv), .ref (g 2), .ref (g 3), .int (nI ln), .int (nI at9), .int (nI pl), .int va, .long hs]))] t) (va_A [((g 0), .inr (5, [.int th, .ref (g 1), .int (nI sv), .ref (g 2), .ref (g 3), .int (nI ln), .int (nI at9), .int (nI pl), .int va, .long hs]))] sz)) 0 0 (va_A [((g 0), .inr (5, [.int th, .ref (g 1), .int (nI sv), .ref (g 2), .ref (g 3), .int (nI ln), .int (nI at9), .int (nI pl), .int va, .long hs]))] sz) := by
  refine Met.ofW (cc := cX5_goBack) (maxL := 2) (ret := (some .int)) (by decide) rfl ?_
  intro p e s m args below meth c s₁ B hml hpre9
  obtain ⟨rfl, hsz, hP, hKN, hD0⟩ := hpre9
  have hK := hKN.1
  have hx := B.exec
  have hb := B.bytes
  have hr := B.returns
  have hts := atoms_spec (ws := (ws_ yX5_goBack cX5_goBack 2 (some .int))) B.pre
  have htg : ∀ w ∈ gT, w.before _ s = true := fun w h => hts w (List.mem_cons_of_mem _ h)
  have hown : s.vm.findClass RX5 = some m.cls := findClass_of_methodNamed B.named
  have hlocks := B.notSynchronized
  subst hsz
  have hD := hD0.self (sz := s.heap.size)
  clear hD0
  generalize hAe : va_A [((g 0), .inr (5, [.int th, .ref (g 1), .int (nI sv), .ref (g 2), .ref (g 3), .int (nI ln), .int (nI at9), .int (nI pl), .int va, .long hs]))] s.heap.size = A at hD ⊢
  have hA : ∀ q : Nat, s.heap.size ≤ q → A q := fun q h => by rw [← hAe]; exact Or.inr h
  have hS : va_S A s.heap s.heap [] := va_S.rf
  have hP : va_P D vwCl [((g 0), .inr (5, [.int th, .ref (g 1), .int (nI sv), .ref (g 2), .ref (g 3), .int (nI ln), .int (nI at9), .int (nI pl), .int va, .long hs]))] s.heap := hP
  have hl := lv_entry ([.ref (g 0), .int x]) (n := 2) (Nat.le_of_ble_eq_true rfl)
  rw [lg_entry_eq]
  generalize (lg_sl ([.ref (g 0), .int x]) ++ List.replicate (2 - (lg_sl ([.ref (g 0), .int x])).length) Slot.unset).toArray = ls at hl ⊢
  have hl : lv_has ls 2 [(0, .ref (g 0)), (1, .int x)] := hl
  refine lv_aload_n hx hb dX5_goBack_0 rfl (lv_at hl 0 rfl) ?_
  refine lv_iload_n hx hb dX5_goBack_1 rfl (lv_at hl 1 rfl) ?_
  refine zr_calli (va_runS (As := [.int x]) (rest := [.ref (g 0)]) ⟨hx, hb, hml, hown, hts⟩ (mX5_isSide l x) (va_cwS 1 hts (zgS tw_429 tw_430 tw_369 tw_370) rfl rfl rfl (by decide +kernel) ⟨Nat.le_of_ble_eq_true rfl, Nat.le_of_ble_eq_true rfl⟩) zP_pre rfl rfl hl.1 rfl (lv_room (Nat.le_of_ble_eq_true rfl)) dX5_goBack_2 ⟨Nat.zero_le _, Nat.zero_le _⟩) hS (fun r_1 H locs hw_2 hT hS => ?_)
  replace hP := hT _ _ hP
  obtain rfl : r_1 = (if ¬ x < 0 ∧ ¬ 1 < x then (1 : Int32) else 0) := hw_2
  refine lv_if_ne (tgt := 12) hx hb dX5_goBack_5 (by decide) (fun c_5 => absurd (zb0.mpr hb1) c_5) (fun _ => ?_)
  refine lv_iconst (v := 1) hx hb dX5_goBack_8 (by decide) ?_
  refine lv_goto (tgt := 26) hx hb dX5_goBack_9 (by decide) ?_
  refine zw_calli (wr := []) (w1 := (fun _ : Unit => [((g 0), .inr (5, [.int 1, .ref (g 1), .int (nI sv), .ref (g 2), .ref (g 3), .int (nI ln), .int (nI at9), .int (nI pl), .int va, .long hs]))])) hP hD hS hA [0] [] rfl rfl (by decide +kernel) (by decide +kernel) (va_runV (As := [.int 1]) (rest := []) ⟨hx, hb, hml, hown, hts⟩ (mX5_holds l D y _ g th sv ln at9 pl va hs 1) (cwV 1 hts (zgV tw_431 tw_432 tw_433 tw_369 tw_365) rfl rfl rfl (by decide +kernel) ⟨Nat.le_of_ble_eq_true rfl, Nat.le_of_ble_eq_true rfl⟩) (zRW_preV hKN hP hD (ci := 5) (q0 := 0) rfl rfl [0] rfl (by decide)) rfl rfl hl.1 rfl (lv_room (Nat.le_of_ble_eq_true rfl)) dX5_goBack_26 ⟨Nat.zero_le _, Nat.zero_le _⟩) (fun r_2 u_3 H locs hw_26 hP hD hS => ?_)
  have hP : va_P D vwCl [((g 0), .inr (5, [.int 1, .ref (g 1), .int (nI sv), .ref (g 2), .ref (g 3), .int (nI ln), .int (nI at9), .int (nI pl), .int va, .long hs]))] H := hP
  have hD : va_D A [((g 0), .inr (5, [.int 1, .ref (g 1), .int (nI sv), .ref (g 2), .ref (g 3), .int (nI ln), .int (nI at9), .int (nI pl), .int va, .long hs]))] := hD
  obtain rfl : r_2 = 0 := hw_26
  refine lv_if_ne (tgt := 34) hx hb dX5_goBack_29 (by decide) (fun c_29 => absurd (by decide) c_29) (fun _ => ?_)
  refine lv_iconst (v := 0) hx hb dX5_goBack_32 (by decide) ?_
  refine W.widen (k := 0) (n := 0) (by first | exact Nat.le_of_ble_eq_true rfl | omega) (by first | exact Nat.le_of_ble_eq_true rfl | omega) ?_
  exact W.iret (v := 0) hx hb hr (fun t ht hW => ⟨⟨0, (), rfl, by first | rfl | trivial | simp_all, ⟨by rw [ht]; exact hP, hD⟩⟩, hS.F ht⟩) hS.2.2 dX5_goBack_33

set_option maxHeartbeats 4000000 in
set_option maxRecDepth 100000 in
theorem mX5_goBack_b2 (l : Launch) (D : va_G) (y : Nat → ClassId) (sz : Nat) (g : Nat → Nat) (th : Int32) (sv : Nat) (ln : Nat) (at9 : Nat) (pl : Nat) (va : Int32) (hs : Int64) (kp : (Nat → Int32)) (j : Nat) (hj : j < 2) (hb1 : kp j = 0) : Met l yX5_goBack (ws_ yX5_goBack cX5_goBack 2 (some .int)) ({ frames := 2, cells := 0, slots := 0, locals := 42 }) (va_Pc [.ref (g 0), .int (nI j)] (zRW D y [((g 0), .inr (5, [.int th, .ref (g 1), .int (nI sv), .ref (g 2), .ref (g 3), .int (nI ln), .int (nI at9), .int (nI pl), .int va, .long hs])), ((g 2), .inl (y 2, 2, .inl kp))] sz)) (va_Qi (fun (r : Int32) (_ : Unit) => r = 0) (fun (_ : Unit) t => zOut D (va_A [((g 0), .inr (5, [.int th, .ref (g 1), .int (nI sv), .ref (g 2), .ref (g 3), .int (nI ln), .int (nI at9), .int (nI pl), .int va, .long hs])), ((g 2), .inl (y 2, 2, .inl kp))] sz) [((g 0), .inr (5, [.int 2, .ref (g 1), .int (nI sv), .ref (g 2), .ref (g 3), .int (nI ln), .int (nI at9), .int (nI pl), .int va, .long hs])), ((g 2), .inl (y 2, 2, .inl kp))] t) (va_A [((g 0), .inr (5, [.int th, .ref (g 1), .int (nI sv), .ref (g 2), .ref (g 3), .int (nI ln), .int (nI at9), .int (nI pl), .int va, .long hs])), ((g 2), .inl (y 2, 2, .inl kp))] sz)) 0 0 (va_A [((g 0), .inr (5, [.int th, .ref (g 1), .int (nI sv), .ref (g 2), .ref (g 3), .int (nI ln), .int (nI at9), .int (nI pl), .int va, .long hs])), ((g 2), .inl (y 2, 2, .inl kp))] sz) := by
  refine Met.ofW (cc := cX5_goBack) (maxL := 2) (ret := (some .int)) (by decide) rfl ?_
  intro p e s m args below meth c s₁ B hml hpre9
  obtain ⟨rfl, hsz, hP, hKN, hD0⟩ := hpre9
  have hK := hKN.1
  have hx := B.exec
  have hb := B.bytes
  have hr := B.returns
  have hts := atoms_spec (ws := (ws_ yX5_goBack cX5_goBack 2 (some .int))) B.pre
  have htg : ∀ w ∈ gT, w.before _ s = true := fun w h => hts w (List.mem_cons_of_mem _ h)
  have hown : s.vm.findClass RX5 = some m.cls := findClass_of_methodNamed B.named
  have hlocks := B.notSynchronized
  subst hsz
  have hD := hD0.self (sz := s.heap.size)
  clear hD0
  generalize hAe : va_A [((g 0), .inr (5, [.int th, .ref (g 1), .int (nI sv), .ref (g 2), .ref (g 3), .int (nI ln), .int (nI at9), .int (nI pl), .int va, .long hs])), ((g 2), .inl (y 2, 2, .inl kp))] s.heap.size = A at hD ⊢
  have hA : ∀ q : Nat, s.heap.size ≤ q → A q := fun q h => by rw [← hAe]; exact Or.inr h
  have hS : va_S A s.heap s.heap [] := va_S.rf
  have hP : va_P D vwCl [((g 0), .inr (5, [.int th, .ref (g 1), .int (nI sv), .ref (g 2), .ref (g 3), .int (nI ln), .int (nI at9), .int (nI pl), .int va, .long hs])), ((g 2), .inl (y 2, 2, .inl kp))] s.heap := hP
  have hl := lv_entry ([.ref (g 0), .int (nI j)]) (n := 2) (Nat.le_of_ble_eq_true rfl)
  rw [lg_entry_eq]
  generalize (lg_sl ([.ref (g 0), .int (nI j)]) ++ List.replicate (2 - (lg_sl ([.ref (g 0), .int (nI j)])).length) Slot.unset).toArray = ls at hl ⊢
  have hl : lv_has ls 2 [(0, .ref (g 0)), (1, .int (nI j))] := hl
  refine lv_aload_n hx hb dX5_goBack_0 rfl (lv_at hl 0 rfl) ?_
  refine lv_iload_n hx hb dX5_goBack_1 rfl (lv_at hl 1 rfl) ?_
  refine zr_calli (va_runS (As := [.int (nI j)]) (rest := [.ref (g 0)]) ⟨hx, hb, hml, hown, hts⟩ (mX5_isSide l (nI j)) (va_cwS 1 hts (zgS tw_429 tw_430 tw_369 tw_370) rfl rfl rfl (by decide +kernel) ⟨Nat.le_of_ble_eq_true rfl, Nat.le_of_ble_eq_true rfl⟩) zP_pre rfl rfl hl.1 rfl (lv_room (Nat.le_of_ble_eq_true rfl)) dX5_goBack_2 ⟨Nat.zero_le _, Nat.zero_le _⟩) hS (fun r_1 H locs hw_2 hT hS => ?_)
  replace hP := hT _ _ hP
  obtain rfl : r_1 = (if ¬ (nI j) < 0 ∧ ¬ 1 < (nI j) then (1 : Int32) else 0) := hw_2
  refine lv_if_ne (tgt := 12) hx hb dX5_goBack_5 (by decide) (fun _ => ?_) (fun c_5 => absurd c_5 (zb1.mpr ⟨nI_pos (n := j) (by omega), nI_nlt (a := 1) (b := j) (by omega) (by omega)⟩))
  refine lv_aload_n hx hb dX5_goBack_12 rfl (lv_at hl 0 rfl) ?_
  refine va_get (D := D) (ci := 5) (v := .ref (g 2)) (C := RX5) (T := TX5) (N := 10) hx hb htg iX5 hown hK hP 0 rfl rfl 3 (by decide) (htg _ tw_360) (fun _ h9 => h9) rfl dX5_goBack_13 ?_
  refine lv_iload_n hx hb dX5_goBack_16 rfl (lv_at hl 1 rfl) ?_
  refine va_zald hx hb hK hP 1 2 rfl rfl (vp_in_nI (by omega) (by decide)) dX5_goBack_17 ?_
  refine zz_top (y := kp j) (congrArg kp (nI_clamp (by omega))) ?_
  refine lv_if_ne (tgt := 25) hx hb dX5_goBack_18 (by decide) (fun c_18 => absurd (hb1) c_18) (fun _ => ?_)
  refine lv_iconst (v := 2) hx hb dX5_goBack_21 (by decide) ?_
  refine lv_goto (tgt := 26) hx hb dX5_goBack_22 (by decide) ?_
  refine zw_calli (wr := [((g 2), .inl (y 2, 2, .inl kp))]) (w1 := (fun _ : Unit => [((g 0), .inr (5, [.int 2, .ref (g 1), .int (nI sv), .ref (g 2), .ref (g 3), .int (nI ln), .int (nI at9), .int (nI pl), .int va, .long hs]))])) hP hD hS hA [0] [1] rfl rfl (by decide +kernel) (by decide +kernel) (va_runV (As := [.int 2]) (rest := []) ⟨hx, hb, hml, hown, hts⟩ (mX5_holds l D y _ g th sv ln at9 pl va hs 2) (cwV 1 hts (zgV tw_431 tw_432 tw_433 tw_369 tw_365) rfl rfl rfl (by decide +kernel) ⟨Nat.le_of_ble_eq_true rfl, Nat.le_of_ble_eq_true rfl⟩) (zRW_preV hKN hP hD (ci := 5) (q0 := 0) rfl rfl [0] rfl (by decide)) rfl rfl hl.1 rfl (lv_room (Nat.le_of_ble_eq_true rfl)) dX5_goBack_26 ⟨Nat.zero_le _, Nat.zero_le _⟩) (fun r_2 u_3 H locs hw_26 hP hD hS => ?_)
  have hP : va_P D vwCl [((g 2), .inl (y 2, 2, .inl kp)), ((g 0), .inr (5, [.int 2, .ref (g 1), .int (nI sv), .ref (g 2), .ref (g 3), .int (nI ln), .int (nI at9), .int (nI pl), .int va, .long hs]))] H := hP
  have hD : va_D A [((g 2), .inl (y 2, 2, .inl kp)), ((g 0), .inr (5, [.int 2, .ref (g 1), .int (nI sv), .ref (g 2), .ref (g 3), .int (nI ln), .int (nI at9), .int (nI pl), .int va, .long hs]))] := hD
  obtain rfl : r_2 = 0 := hw_26
  refine lv_if_ne (tgt := 34) hx hb dX5_goBack_29 (by decide) (fun c_29 => absurd (by decide) c_29) (fun _ => ?_)
  refine lv_iconst (v := 0) hx hb dX5_goBack_32 (by decide) ?_
  have hP := hP.sub (ws' := [((g 0), .inr (5, [.int 2, .ref (g 1), .int (nI sv), .ref (g 2), .ref (g 3), .int (nI ln), .int (nI at9), .int (nI pl), .int va, .long hs])), ((g 2), .inl (y 2, 2, .inl kp))]) [1, 0] rfl
  have hD := hD.sub (ws' := [((g 0), .inr (5, [.int 2, .ref (g 1), .int (nI sv), .ref (g 2), .ref (g 3), .int (nI ln), .int (nI at9), .int (nI pl), .int va, .long hs])), ((g 2), .inl (y 2, 2, .inl kp))]) [1, 0] (by decide) rfl
  refine W.widen (k := 0) (n := 0) (by first | exact Nat.le_of_ble_eq_true rfl | omega) (by first | exact Nat.le_of_ble_eq_true rfl | omega) ?_
  exact W.iret (v := 0) hx hb hr (fun t ht hW => ⟨⟨0, (), rfl, by first | rfl | trivial | simp_all, ⟨by rw [ht]; exact hP, hD⟩⟩, hS.F ht⟩) hS.2.2 dX5_goBack_33

set_option maxHeartbeats 4000000 in
set_option maxRecDepth 100000 in
theorem mX5_undo (l : Launch) (D : va_G) (y : Nat → ClassId) (sz : Nat) (g : Nat → Nat) (S : (Nat → Int32)) (th : Int32) (sv : Nat) (ln : Nat) (at9 : Nat) (pl : Nat) (va : Int32) (hs : Int64) (hv0 : 0 < sv) (hv : sv ≤ 6) : Met l yX5_undo (ws_ yX5_undo cX5_undo 1 (some .int)) ({ frames := 1, cells := 0, slots := 0, locals := 23 }) (va_Pc [.ref (g 0)] (zRW D y [((g 0), .inr (5, [.int th, .ref (g 1), .int (nI sv), .ref (g 2), .ref (g 3), .int (nI ln), .int (nI at9), .int (nI pl), .int va, .long hs])), ((g 1), .inl (y 0, 4023, .inl S))] sz)) (va_Qi (fun (r : Int32) (_ : Unit) => r = nI (sv - 1)) (fun (_ : Unit) t => zOut D (va_A [((g 0), .inr (5, [.int th, .ref (g 1), .int (nI sv), .ref (g 2), .ref (g 3), .int (nI ln), .int (nI at9), .int (nI pl), .int va, .long hs])), ((g 1), .inl (y 0, 4023, .inl S))] sz) [((g 0), .inr (5, [.int 0, .ref (g 1), .int (nI (sv - 1)), .ref (g 2), .ref (g 3), .int (nI ln), .int (nI at9), .int (nI pl), .int va, .long hs])), ((g 1), .inl (y 0, 4023, .inl (cpS S sv 0)))] t) (va_A [((g 0), .inr (5, [.int th, .ref (g 1), .int (nI sv), .ref (g 2), .ref (g 3), .int (nI ln), .int (nI at9), .int (nI pl), .int va, .long hs])), ((g 1), .inl (y 0, 4023, .inl S))] sz)) 0 0 (va_A [((g 0), .inr (5, [.int th, .ref (g 1), .int (nI sv), .ref (g 2), .ref (g 3), .int (nI ln), .int (nI at9), .int (nI pl), .int va, .long hs])), ((g 1), .inl (y 0, 4023, .inl S))] sz) := by
  refine Met.ofW (cc := cX5_undo) (maxL := 1) (ret := (some .int)) (by decide) rfl ?_
  intro p e s m args below meth c s₁ B hml hpre9
  obtain ⟨rfl, hsz, hP, hKN, hD0⟩ := hpre9
  have hK := hKN.1
  have hx := B.exec
  have hb := B.bytes
  have hr := B.returns
  have hts := atoms_spec (ws := (ws_ yX5_undo cX5_undo 1 (some .int))) B.pre
  have htg : ∀ w ∈ gT, w.before _ s = true := fun w h => hts w (List.mem_cons_of_mem _ h)
  have hown : s.vm.findClass RX5 = some m.cls := findClass_of_methodNamed B.named
  have hlocks := B.notSynchronized
  subst hsz
  have hD := hD0.self (sz := s.heap.size)
  clear hD0
  generalize hAe : va_A [((g 0), .inr (5, [.int th, .ref (g 1), .int (nI sv), .ref (g 2), .ref (g 3), .int (nI ln), .int (nI at9), .int (nI pl), .int va, .long hs])), ((g 1), .inl (y 0, 4023, .inl S))] s.heap.size = A at hD ⊢
  have hA : ∀ q : Nat, s.heap.size ≤ q → A q := fun q h => by rw [← hAe]; exact Or.inr h
  have hS : va_S A s.heap s.heap [] := va_S.rf
  have hP : va_P D vwCl [((g 0), .inr (5, [.int th, .ref (g 1), .int (nI sv), .ref (g 2), .ref (g 3), .int (nI ln), .int (nI at9), .int (nI pl), .int va, .long hs])), ((g 1), .inl (y 0, 4023, .inl S))] s.heap := hP
  have hl := lv_entry ([.ref (g 0)]) (n := 1) (Nat.le_of_ble_eq_true rfl)
  rw [lg_entry_eq]
  generalize (lg_sl ([.ref (g 0)]) ++ List.replicate (1 - (lg_sl ([.ref (g 0)])).length) Slot.unset).toArray = ls at hl ⊢
  have hl : lv_has ls 1 [(0, .ref (g 0))] := hl
  refine lv_aload_n hx hb dX5_undo_0 rfl (lv_at hl 0 rfl) ?_
  refine lv_aload_n hx hb dX5_undo_1 rfl (lv_at hl 0 rfl) ?_
  refine va_get (D := D) (ci := 5) (v := .int (nI sv)) (C := RX5) (T := TX5) (N := 10) hx hb htg iX5 hown hK hP 0 rfl rfl 2 (by decide) (htg _ tw_418) (fun _ h9 => h9) rfl dX5_undo_2 ?_
  refine lv_if_le (tgt := 12) hx hb dX5_undo_5 (by decide) (fun c_5 => ?_) (fun c_5 => ?_)
  · replace c_5 : sv ≤ 0 := (nI_leI (a := sv) (b := 0) (by omega) (by omega)).mp c_5
    exfalso; omega
  · replace c_5 : ¬ sv ≤ 0 := fun h => c_5 ((nI_leI (a := sv) (b := 0) (by omega) (by omega)).mpr h)
    refine lv_iconst (v := 0) hx hb dX5_undo_8 (by decide) ?_
    refine lv_goto (tgt := 13) hx hb dX5_undo_9 (by decide) ?_
    refine zw_calli (wr := [((g 1), .inl (y 0, 4023, .inl S))]) (w1 := (fun _ : Unit => [((g 0), .inr (5, [.int 0, .ref (g 1), .int (nI sv), .ref (g 2), .ref (g 3), .int (nI ln), .int (nI at9), .int (nI pl), .int va, .long hs]))])) hP hD hS hA [0] [1] rfl rfl (by decide +kernel) (by decide +kernel) (va_runV (As := [.int 0]) (rest := []) ⟨hx, hb, hml, hown, hts⟩ (mX5_holds l D y _ g th sv ln at9 pl va hs 0) (cwV 1 hts (zgV tw_431 tw_432 tw_433 tw_369 tw_365) rfl rfl rfl (by decide +kernel) ⟨Nat.le_of_ble_eq_true rfl, Nat.le_of_ble_eq_true rfl⟩) (zRW_preV hKN hP hD (ci := 5) (q0 := 0) rfl rfl [0] rfl (by decide)) rfl rfl hl.1 rfl (lv_room (Nat.le_of_ble_eq_true rfl)) dX5_undo_13 ⟨Nat.zero_le _, Nat.zero_le _⟩) (fun r_1 u_2 H locs hw_13 hP hD hS => ?_)
    have hP : va_P D vwCl [((g 1), .inl (y 0, 4023, .inl S)), ((g 0), .inr (5, [.int 0, .ref (g 1), .int (nI sv), .ref (g 2), .ref (g 3), .int (nI ln), .int (nI at9), .int (nI pl), .int va, .long hs]))] H := hP
    have hD : va_D A [((g 1), .inl (y 0, 4023, .inl S)), ((g 0), .inr (5, [.int 0, .ref (g 1), .int (nI sv), .ref (g 2), .ref (g 3), .int (nI ln), .int (nI at9), .int (nI pl), .int va, .long hs]))] := hD
    obtain rfl : r_1 = 1 := hw_13
    refine lv_if_ne (tgt := 21) hx hb dX5_undo_16 (by decide) (fun _ => ?_) (fun c_16 => absurd c_16 (by decide))
    refine lv_aload_n hx hb dX5_undo_21 rfl (lv_at hl 0 rfl) ?_
    refine lv_aload_n hx hb dX5_undo_22 rfl (lv_at hl 0 rfl) ?_
    refine va_get (D := D) (ci := 5) (v := .int (nI sv)) (C := RX5) (T := TX5) (N := 10) hx hb htg iX5 hown hK hP 1 rfl rfl 2 (by decide) (htg _ tw_418) (fun _ h9 => h9) rfl dX5_undo_23 ?_
    refine lv_iconst (v := 0) hx hb dX5_undo_26 (by decide) ?_
    refine zw_callv (wr := []) (w1 := (fun _ : Unit => [((g 0), .inr (5, [.int 0, .ref (g 1), .int (nI sv), .ref (g 2), .ref (g 3), .int (nI ln), .int (nI at9), .int (nI pl), .int va, .long hs])), ((g 1), .inl (y 0, 4023, .inl (cpS S sv 0)))])) hP hD hS hA [1, 0] [] rfl rfl (by decide +kernel) (by decide +kernel) (va_runV (As := [.int (nI sv), .int 0]) (rest := []) ⟨hx, hb, hml, hown, hts⟩ (mX5_copies l D y _ g S 0 sv ln at9 pl va hs sv 0 (by first | assumption | rfl | omega | decide) (by first | assumption | rfl | omega | decide) (by first | assumption | rfl | omega | decide)) (cwV 2 hts (zgV tw_419 tw_420 tw_421 tw_369 tw_416) rfl rfl rfl (by decide +kernel) ⟨Nat.le_of_ble_eq_true rfl, Nat.le_of_ble_eq_true rfl⟩) (zRW_preV hKN hP hD (ci := 5) (q0 := 1) rfl rfl [1, 0] rfl (by decide)) rfl rfl hl.1 rfl (lv_room (Nat.le_of_ble_eq_true rfl)) dX5_undo_27 ⟨Nat.zero_le _, Nat.zero_le _⟩) (fun u_3 H locs hw_27 hP hD hS => ?_)
    have hP : va_P D vwCl [((g 0), .inr (5, [.int 0, .ref (g 1), .int (nI sv), .ref (g 2), .ref (g 3), .int (nI ln), .int (nI at9), .int (nI pl), .int va, .long hs])), ((g 1), .inl (y 0, 4023, .inl (cpS S sv 0)))] H := hP
    have hD : va_D A [((g 0), .inr (5, [.int 0, .ref (g 1), .int (nI sv), .ref (g 2), .ref (g 3), .int (nI ln), .int (nI at9), .int (nI pl), .int va, .long hs])), ((g 1), .inl (y 0, 4023, .inl (cpS S sv 0)))] := hD
    refine lv_aload_n hx hb dX5_undo_30 rfl (lv_at hl 0 rfl) ?_
    refine lv_dup hx hb dX5_undo_31 rfl ?_
    refine va_get (D := D) (ci := 5) (v := .int (nI sv)) (C := RX5) (T := TX5) (N := 10) hx hb htg iX5 hown hK hP 0 rfl rfl 2 (by decide) (htg _ tw_418) (fun _ h9 => h9) rfl dX5_undo_32 ?_
    refine lv_iconst (v := 1) hx hb dX5_undo_35 (by decide) ?_
    refine lv_isub hx hb dX5_undo_36 ?_
    refine zz_top (y := nI (sv - 1)) (pk_sub (a := sv) (b := 1) (by omega)) ?_
    refine va_put (D := D) (ci := 5) (v := .int (nI (sv - 1))) (ty := .int) (C := RX5) (T := TX5) (N := 10) hx hb htg iX5 tyX5 tyX5_ok nmX5 hown hK hP hD hS 0 rfl rfl 2 (by decide) (htg _ tw_418) (fun _ h9 => h9) rfl (tyX5_ok 2 (by decide)) (rfl) (rfl) (Nat.le_of_ble_eq_true rfl) dX5_undo_37 (fun H locs hP hD hS => ?_)
    have hP : va_P D vwCl [((g 0), .inr (5, [.int 0, .ref (g 1), .int (nI (sv - 1)), .ref (g 2), .ref (g 3), .int (nI ln), .int (nI at9), .int (nI pl), .int va, .long hs])), ((g 1), .inl (y 0, 4023, .inl (cpS S sv 0)))] H := hP
    have hD : va_D A [((g 0), .inr (5, [.int 0, .ref (g 1), .int (nI (sv - 1)), .ref (g 2), .ref (g 3), .int (nI ln), .int (nI at9), .int (nI pl), .int va, .long hs])), ((g 1), .inl (y 0, 4023, .inl (cpS S sv 0)))] := hD
    refine lv_aload_n hx hb dX5_undo_40 rfl (lv_at hl 0 rfl) ?_
    refine va_get (D := D) (ci := 5) (v := .int (nI (sv - 1))) (C := RX5) (T := TX5) (N := 10) hx hb htg iX5 hown hK hP 0 rfl rfl 2 (by decide) (htg _ tw_418) (fun _ h9 => h9) rfl dX5_undo_41 ?_
    refine W.widen (k := 0) (n := 0) (by first | exact Nat.le_of_ble_eq_true rfl | omega) (by first | exact Nat.le_of_ble_eq_true rfl | omega) ?_
    exact W.iret (v := (nI (sv - 1))) hx hb hr (fun t ht hW => ⟨⟨nI (sv - 1), (), rfl, by first | rfl | trivial | simp_all, ⟨by rw [ht]; exact hP, hD⟩⟩, hS.F ht⟩) hS.2.2 dX5_undo_44

set_option maxHeartbeats 4000000 in
set_option maxRecDepth 100000 in
theorem mX5_undo_b1 (l : Launch) (D : va_G) (y : Nat → ClassId) (sz : Nat) (g : Nat → Nat) (th : Int32) (sv : Nat) (ln : Nat) (at9 : Nat) (pl : Nat) (va : Int32) (hs : Int64) (hv0 : sv = 0) : Met l yX5_undo (ws_ yX5_undo cX5_undo 1 (some .int)) ({ frames := 1, cells := 0, slots := 0, locals := 21 }) (va_Pc [.ref (g 0)] (zRW D y [((g 0), .inr (5, [.int th, .ref (g 1), .int (nI sv), .ref (g 2), .ref (g 3), .int (nI ln), .int (nI at9), .int (nI pl), .int va, .long hs]))] sz)) (va_Qi (fun (r : Int32) (_ : Unit) => r = 0) (fun (_ : Unit) t => zOut D (va_A [((g 0), .inr (5, [.int th, .ref (g 1), .int (nI sv), .ref (g 2), .ref (g 3), .int (nI ln), .int (nI at9), .int (nI pl), .int va, .long hs]))] sz) [((g 0), .inr (5, [.int 1, .ref (g 1), .int (nI sv), .ref (g 2), .ref (g 3), .int (nI ln), .int (nI at9), .int (nI pl), .int va, .long hs]))] t) (va_A [((g 0), .inr (5, [.int th, .ref (g 1), .int (nI sv), .ref (g 2), .ref (g 3), .int (nI ln), .int (nI at9), .int (nI pl), .int va, .long hs]))] sz)) 0 0 (va_A [((g 0), .inr (5, [.int th, .ref (g 1), .int (nI sv), .ref (g 2), .ref (g 3), .int (nI ln), .int (nI at9), .int (nI pl), .int va, .long hs]))] sz) := by
  refine Met.ofW (cc := cX5_undo) (maxL := 1) (ret := (some .int)) (by decide) rfl ?_
  intro p e s m args below meth c s₁ B hml hpre9
  obtain ⟨rfl, hsz, hP, hKN, hD0⟩ := hpre9
  have hK := hKN.1
  have hx := B.exec
  have hb := B.bytes
  have hr := B.returns
  have hts := atoms_spec (ws := (ws_ yX5_undo cX5_undo 1 (some .int))) B.pre
  have htg : ∀ w ∈ gT, w.before _ s = true := fun w h => hts w (List.mem_cons_of_mem _ h)
  have hown : s.vm.findClass RX5 = some m.cls := findClass_of_methodNamed B.named
  have hlocks := B.notSynchronized
  subst hsz
  have hD := hD0.self (sz := s.heap.size)
  clear hD0
  generalize hAe : va_A [((g 0), .inr (5, [.int th, .ref (g 1), .int (nI sv), .ref (g 2), .ref (g 3), .int (nI ln), .int (nI at9), .int (nI pl), .int va, .long hs]))] s.heap.size = A at hD ⊢
  have hA : ∀ q : Nat, s.heap.size ≤ q → A q := fun q h => by rw [← hAe]; exact Or.inr h
  have hS : va_S A s.heap s.heap [] := va_S.rf
  have hP : va_P D vwCl [((g 0), .inr (5, [.int th, .ref (g 1), .int (nI sv), .ref (g 2), .ref (g 3), .int (nI ln), .int (nI at9), .int (nI pl), .int va, .long hs]))] s.heap := hP
  have hl := lv_entry ([.ref (g 0)]) (n := 1) (Nat.le_of_ble_eq_true rfl)
  rw [lg_entry_eq]
  generalize (lg_sl ([.ref (g 0)]) ++ List.replicate (1 - (lg_sl ([.ref (g 0)])).length) Slot.unset).toArray = ls at hl ⊢
  have hl : lv_has ls 1 [(0, .ref (g 0))] := hl
  refine lv_aload_n hx hb dX5_undo_0 rfl (lv_at hl 0 rfl) ?_
  refine lv_aload_n hx hb dX5_undo_1 rfl (lv_at hl 0 rfl) ?_
  refine va_get (D := D) (ci := 5) (v := .int (nI sv)) (C := RX5) (T := TX5) (N := 10) hx hb htg iX5 hown hK hP 0 rfl rfl 2 (by decide) (htg _ tw_418) (fun _ h9 => h9) rfl dX5_undo_2 ?_
  refine lv_if_le (tgt := 12) hx hb dX5_undo_5 (by decide) (fun c_5 => ?_) (fun c_5 => ?_)
  · replace c_5 : sv ≤ 0 := (nI_leI (a := sv) (b := 0) (by omega) (by omega)).mp c_5
    refine lv_iconst (v := 1) hx hb dX5_undo_12 (by decide) ?_
    refine zw_calli (wr := []) (w1 := (fun _ : Unit => [((g 0), .inr (5, [.int 1, .ref (g 1), .int (nI sv), .ref (g 2), .ref (g 3), .int (nI ln), .int (nI at9), .int (nI pl), .int va, .long hs]))])) hP hD hS hA [0] [] rfl rfl (by decide +kernel) (by decide +kernel) (va_runV (As := [.int 1]) (rest := []) ⟨hx, hb, hml, hown, hts⟩ (mX5_holds l D y _ g th sv ln at9 pl va hs 1) (cwV 1 hts (zgV tw_431 tw_432 tw_433 tw_369 tw_365) rfl rfl rfl (by decide +kernel) ⟨Nat.le_of_ble_eq_true rfl, Nat.le_of_ble_eq_true rfl⟩) (zRW_preV hKN hP hD (ci := 5) (q0 := 0) rfl rfl [0] rfl (by decide)) rfl rfl hl.1 rfl (lv_room (Nat.le_of_ble_eq_true rfl)) dX5_undo_13 ⟨Nat.zero_le _, Nat.zero_le _⟩) (fun r_1 u_2 H locs hw_13 hP hD hS => ?_)
    have hP : va_P D vwCl [((g 0), .inr (5, [.int 1, .ref (g 1), .int (nI sv), .ref (g 2), .ref (g 3), .int (nI ln), .int (nI at9), .int (nI pl), .int va, .long hs]))] H := hP
    have hD : va_D A [((g 0), .inr (5, [.int 1, .ref (g 1), .int (nI sv), .ref (g 2), .ref (g 3), .int (nI ln), .int (nI at9), .int (nI pl), .int va, .long hs]))] := hD
    obtain rfl : r_1 = 0 := hw_13
    refine lv_if_ne (tgt := 21) hx hb dX5_undo_16 (by decide) (fun c_16 => absurd (by decide) c_16) (fun _ => ?_)
    refine lv_iconst (v := 0) hx hb dX5_undo_19 (by decide) ?_
    refine W.widen (k := 0) (n := 0) (by first | exact Nat.le_of_ble_eq_true rfl | omega) (by first | exact Nat.le_of_ble_eq_true rfl | omega) ?_
    exact W.iret (v := 0) hx hb hr (fun t ht hW => ⟨⟨0, (), rfl, by first | rfl | trivial | simp_all, ⟨by rw [ht]; exact hP, hD⟩⟩, hS.F ht⟩) hS.2.2 dX5_undo_20
  · replace c_5 : ¬ sv ≤ 0 := fun h => c_5 ((nI_leI (a := sv) (b := 0) (by omega) (by omega)).mpr h)
    exfalso; omega
