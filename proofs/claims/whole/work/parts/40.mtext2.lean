theorem zGot_at {tx : Nat → Nat} {n a b p : Nat} {x : Int32} (h : zGot tx n a b p x) : a < b ∧ b ≤ n ∧ zAt tx b ∧ rRun tx z0 b 0 = 6 := by
  obtain ⟨q, ⟨h1, h2, h3, h4, h5⟩, hab, h6, -⟩ := h
  exact ⟨hab, h2, h3, by rw [h5]; exact h6⟩
theorem zGot_end {tx : Nat → Nat} {n a p : Nat} {x : Int32} (h : zGot tx n a n p x) : rErr tx z0 n n ∧ rRun tx z0 n 0 = 6 := by
  obtain ⟨h1, h2, h3, h4⟩ := zGot_at h
  exact ⟨⟨h2, h3, fun h => by omega⟩, h4⟩
theorem zGot_bad {tx : Nat → Nat} {n a b p : Nat} {x : Int32} (h : zGot tx n a b p x) (hb : ¬ b = n) (h9 : ¬ sg tx n b = 59) : zBad tx n b := by
  obtain ⟨q, ⟨h1, h2, h3, h4, h5⟩, hab, h6, hg, e1, e2, no⟩ := h
  refine ⟨⟨h2, h3, fun hl => ?_⟩, fun k => hb k.1⟩
  rw [sg_y hl] at h9
  rw [h5]; exact no hl h9
theorem zGot_next {tx : Nat → Nat} {n a b p : Nat} {x : Int32} (h : zGot tx n a b p x) (hb : b < n) (h9 : tx b = 59) : zAt tx (b + 1) ∧ rRun tx z0 (b + 1) 0 = 0 := by
  obtain ⟨q, ⟨h1, h2, h3, h4, h5⟩, hab, h6, -⟩ := h
  refine ⟨fun j hj => ?_, ?_⟩
  · rcases (show j < b ∨ j = b by omega) with r | r
    · exact h3 j r
    · rw [r, h5]; exact (rOk_6 h6).mpr (Or.inl h9)
  · show rNx (rRun tx z0 b) (tx b) 0 = 0
    rw [h5, rNx_6a h6 h9]; rfl
theorem zRes_err {tx : Nat → Nat} {n e : Nat} {r : Int32} (h : (r = 0 ∧ zBad tx n e) ∨ (r = 1 ∧ e = n ∧ rErr tx z0 n n ∧ rRun tx z0 n 0 = 6)) : rErr tx z0 n e := by
  rcases h with ⟨-, h⟩ | ⟨-, rfl, h, -⟩
  · exact h.1
  · exact h

set_option maxHeartbeats 4000000 in
set_option maxRecDepth 100000 in
theorem mX5_areReadings (l : Launch) (D : va_G) (y : Nat → ClassId) (sz : Nat) (g : Nat → Nat) (th : Int32) (sv : Nat) (ln : Nat) (at9 : Nat) (pl : Nat) (va : Int32) (hs : Int64) (tx : (Nat → Nat)) (hn : ln ≤ 60) (htx : ∀ i : Nat, i < ln → tx i < 127) : Met l yX5_areReadings (ws_ yX5_areReadings cX5_areReadings 1 (some .boolean)) ({ frames := 3, cells := 0, slots := 0, locals := 69 }) (va_Pc [.ref (g 0)] (zRW D y [((g 0), .inr (5, [.int th, .ref (g 1), .int (nI sv), .ref (g 2), .ref (g 3), .int (nI ln), .int (nI at9), .int (nI pl), .int va, .long hs])), ((g 3), .inl (y 0, 60, .inl (zX tx)))] sz)) (va_Qi (fun (r : Int32) (u : (Nat × Nat × Int32)) => (r = 0 ∧ zBad tx ln u.1) ∨ (r = 1 ∧ u.1 = ln ∧ rErr tx z0 ln ln ∧ rRun tx z0 ln 0 = 6)) (fun (u : (Nat × Nat × Int32)) t => zOut D (va_A [((g 0), .inr (5, [.int th, .ref (g 1), .int (nI sv), .ref (g 2), .ref (g 3), .int (nI ln), .int (nI at9), .int (nI pl), .int va, .long hs])), ((g 3), .inl (y 0, 60, .inl (zX tx)))] sz) [((g 0), .inr (5, [.int th, .ref (g 1), .int (nI sv), .ref (g 2), .ref (g 3), .int (nI ln), .int (nI u.1), .int (nI u.2.1), .int u.2.2, .long hs])), ((g 3), .inl (y 0, 60, .inl (zX tx)))] t) (va_A [((g 0), .inr (5, [.int th, .ref (g 1), .int (nI sv), .ref (g 2), .ref (g 3), .int (nI ln), .int (nI at9), .int (nI pl), .int va, .long hs])), ((g 3), .inl (y 0, 60, .inl (zX tx)))] sz)) 0 0 (va_A [((g 0), .inr (5, [.int th, .ref (g 1), .int (nI sv), .ref (g 2), .ref (g 3), .int (nI ln), .int (nI at9), .int (nI pl), .int va, .long hs])), ((g 3), .inl (y 0, 60, .inl (zX tx)))] sz) := by
  refine Met.ofW (cc := cX5_areReadings) (maxL := 1) (ret := (some .boolean)) (by decide) rfl ?_
  intro p e s m args below meth c s₁ B hml hpre9
  obtain ⟨rfl, hsz, hP, hKN, hD0⟩ := hpre9
  have hK := hKN.1
  have hx := B.exec
  have hb := B.bytes
  have hr := B.returns
  have hts := atoms_spec (ws := (ws_ yX5_areReadings cX5_areReadings 1 (some .boolean))) B.pre
  have htg : ∀ w ∈ gT, w.before _ s = true := fun w h => hts w (List.mem_cons_of_mem _ h)
  have hown : s.vm.findClass RX5 = some m.cls := findClass_of_methodNamed B.named
  have hlocks := B.notSynchronized
  subst hsz
  have hD := hD0.self (sz := s.heap.size)
  clear hD0
  generalize hAe : va_A [((g 0), .inr (5, [.int th, .ref (g 1), .int (nI sv), .ref (g 2), .ref (g 3), .int (nI ln), .int (nI at9), .int (nI pl), .int va, .long hs])), ((g 3), .inl (y 0, 60, .inl (zX tx)))] s.heap.size = A at hD ⊢
  have hA : ∀ q : Nat, s.heap.size ≤ q → A q := fun q h => by rw [← hAe]; exact Or.inr h
  have hS : va_S A s.heap s.heap [] := va_S.rf
  have hP : va_P D vwCl [((g 0), .inr (5, [.int th, .ref (g 1), .int (nI sv), .ref (g 2), .ref (g 3), .int (nI ln), .int (nI at9), .int (nI pl), .int va, .long hs])), ((g 3), .inl (y 0, 60, .inl (zX tx)))] s.heap := hP
  have hl := lv_entry ([.ref (g 0)]) (n := 1) (Nat.le_of_ble_eq_true rfl)
  rw [lg_entry_eq]
  generalize (lg_sl ([.ref (g 0)]) ++ List.replicate (1 - (lg_sl ([.ref (g 0)])).length) Slot.unset).toArray = ls at hl ⊢
  have hl : lv_has ls 1 [(0, .ref (g 0))] := hl
  refine lv_aload_n hx hb dX5_areReadings_0 rfl (lv_at hl 0 rfl) ?_
  refine lv_iconst (v := 0) hx hb dX5_areReadings_1 (by decide) ?_
  refine va_put (D := D) (ci := 5) (v := .int 0) (ty := .int) (C := RX5) (T := TX5) (N := 10) hx hb htg iX5 tyX5 tyX5_ok nmX5 hown hK hP hD hS 0 rfl rfl 6 (by decide) (htg _ tw_452) (fun _ h9 => h9) rfl (tyX5_ok 6 (by decide)) (rfl) (rfl) (Nat.le_of_ble_eq_true rfl) dX5_areReadings_2 (fun H locs hP hD hS => ?_)
  have hP : va_P D vwCl [((g 0), .inr (5, [.int th, .ref (g 1), .int (nI sv), .ref (g 2), .ref (g 3), .int (nI ln), .int 0, .int (nI pl), .int va, .long hs])), ((g 3), .inl (y 0, 60, .inl (zX tx)))] H := hP
  have hD : va_D A [((g 0), .inr (5, [.int th, .ref (g 1), .int (nI sv), .ref (g 2), .ref (g 3), .int (nI ln), .int 0, .int (nI pl), .int va, .long hs])), ((g 3), .inl (y 0, 60, .inl (zX tx)))] := hD
  refine zloop (fun i : Nat => ln - i) (fun i H locs ls => ∃ p2 : Nat, ∃ x2 : Int32, i ≤ ln ∧ zAt tx i ∧ rRun tx z0 i 0 = 0 ∧ va_P D vwCl [((g 0), .inr (5, [.int th, .ref (g 1), .int (nI sv), .ref (g 2), .ref (g 3), .int (nI ln), .int (nI i), .int (nI p2), .int x2, .long hs])), ((g 3), .inl (y 0, 60, .inl (zX tx)))] H ∧ va_D A [((g 0), .inr (5, [.int th, .ref (g 1), .int (nI sv), .ref (g 2), .ref (g 3), .int (nI ln), .int (nI i), .int (nI p2), .int x2, .long hs])), ((g 3), .inl (y 0, 60, .inl (zX tx)))] ∧ va_S A s.heap H locs ∧ lv_has ls 1 [(0, .ref (g 0))]) 5 (fun _ => 0) (fun _ => 0) ?_ (0) ⟨pl, va, Nat.zero_le _, (fun j h => absurd h (Nat.not_lt_zero j)), rfl, hP, hD, hS, lv_sub hl [0] rfl⟩
  clear hl hS hP hD
  rintro i H locs ls ⟨p2, x2, hi, hz, h0, hP, hD, hS, hl⟩ ih5
  refine lv_aload_n hx hb dX5_areReadings_5 rfl (lv_at hl 0 rfl) ?_
  refine zw_calli (wr := []) (w1 := (fun u : (Nat × Nat × Int32) => [((g 0), .inr (5, [.int th, .ref (g 1), .int (nI sv), .ref (g 2), .ref (g 3), .int (nI ln), .int (nI u.1), .int (nI u.2.1), .int u.2.2, .long hs])), ((g 3), .inl (y 0, 60, .inl (zX tx)))])) hP hD hS hA [0, 1] [] rfl rfl (by decide +kernel) (by decide +kernel) (va_runV (As := []) (rest := []) ⟨hx, hb, hml, hown, hts⟩ (mX5_readsReading l D y _ g th sv ln i p2 x2 hs tx (by first | assumption | rfl | omega | decide) (by first | assumption | rfl | omega | decide) (by first | assumption | rfl | omega | decide) (by first | assumption | rfl | omega | decide) (by first | assumption | rfl | omega | decide)) (cwV 0 hts (zgV tw_468 tw_469 tw_470 tw_369 tw_459) rfl rfl rfl (by decide +kernel) ⟨Nat.le_of_ble_eq_true rfl, Nat.le_of_ble_eq_true rfl⟩) (zRW_preV hKN hP hD (ci := 5) (q0 := 0) rfl rfl [0, 1] rfl (by decide)) rfl rfl hl.1 rfl (lv_room (Nat.le_of_ble_eq_true rfl)) dX5_areReadings_6 ⟨Nat.zero_le _, Nat.zero_le _⟩) (fun r_1 u_2 H locs hw_6 hP hD hS => ?_)
  have hP : va_P D vwCl [((g 0), .inr (5, [.int th, .ref (g 1), .int (nI sv), .ref (g 2), .ref (g 3), .int (nI ln), .int (nI u_2.1), .int (nI u_2.2.1), .int u_2.2.2, .long hs])), ((g 3), .inl (y 0, 60, .inl (zX tx)))] H := hP
  have hD : va_D A [((g 0), .inr (5, [.int th, .ref (g 1), .int (nI sv), .ref (g 2), .ref (g 3), .int (nI ln), .int (nI u_2.1), .int (nI u_2.2.1), .int u_2.2.2, .long hs])), ((g 3), .inl (y 0, 60, .inl (zX tx)))] := hD
  try dsimp only at hw_6
  rcases hw_6 with ⟨er, hB⟩ | ⟨er, hG⟩
  · refine zz_top (y := 0) er ?_
    refine lv_if_eq (tgt := 36) hx hb dX5_areReadings_9 (by decide) (fun _ => ?_) (fun c_9 => absurd (by decide) c_9)
    refine lv_iconst (v := 0) hx hb dX5_areReadings_36 (by decide) ?_
    refine W.widen (k := 0) (n := 0) (by first | exact Nat.le_of_ble_eq_true rfl | omega) (by first | exact Nat.le_of_ble_eq_true rfl | omega) ?_
    exact W.zret (v := 0) hx hb hr (rfl) (fun t ht hW => ⟨⟨0, (u_2.1, u_2.2.1, u_2.2.2), rfl, Or.inl ⟨rfl, hB⟩, ⟨by rw [ht]; exact hP, hD⟩⟩, hS.F ht⟩) hS.2.2 dX5_areReadings_37
  · refine zz_top (y := 1) er ?_
    obtain ⟨hG1, hG2, hG3, hG4⟩ := zGot_at hG
    refine lv_if_eq (tgt := 36) hx hb dX5_areReadings_9 (by decide) (fun c_9 => absurd c_9 (by decide)) (fun _ => ?_)
    refine lv_aload_n hx hb dX5_areReadings_12 rfl (lv_at hl 0 rfl) ?_
    refine va_get (D := D) (ci := 5) (v := .int (nI u_2.1)) (C := RX5) (T := TX5) (N := 10) hx hb htg iX5 hown hK hP 0 rfl rfl 6 (by decide) (htg _ tw_452) (fun _ h9 => h9) rfl dX5_areReadings_13 ?_
    refine lv_aload_n hx hb dX5_areReadings_16 rfl (lv_at hl 0 rfl) ?_
    refine va_get (D := D) (ci := 5) (v := .int (nI ln)) (C := RX5) (T := TX5) (N := 10) hx hb htg iX5 hown hK hP 0 rfl rfl 5 (by decide) (htg _ tw_449) (fun _ h9 => h9) rfl dX5_areReadings_17 ?_
    refine lv_icmp_ne (tgt := 25) hx hb dX5_areReadings_20 (by decide) (fun c_20 => ?_) (fun c_20 => ?_)
    · replace c_20 : ¬ u_2.1 = ln := fun h => c_20 ((nI_eq (a := u_2.1) (b := ln) (by omega) (by omega)).mpr h)
      refine lv_aload_n hx hb dX5_areReadings_25 rfl (lv_at hl 0 rfl) ?_
      refine lv_bipush (v := 59) hx hb dX5_areReadings_26 (by decide) ?_
      refine zw_calli (wr := []) (w1 := (fun _ : Unit => [((g 0), .inr (5, [.int th, .ref (g 1), .int (nI sv), .ref (g 2), .ref (g 3), .int (nI ln), .int (nI (u_2.1 + (if sg tx ln u_2.1 = 59 then 1 else 0))), .int (nI u_2.2.1), .int u_2.2.2, .long hs])), ((g 3), .inl (y 0, 60, .inl (zX tx)))])) hP hD hS hA [0, 1] [] rfl rfl (by decide +kernel) (by decide +kernel) (va_runV (As := [.int 59]) (rest := []) ⟨hx, hb, hml, hown, hts⟩ (mX5_takes l D y _ g th sv ln u_2.1 u_2.2.1 u_2.2.2 hs tx 59 (by first | assumption | rfl | omega | decide) (by first | assumption | rfl | omega | decide) (by first | assumption | rfl | omega | decide) (by first | assumption | rfl | omega | decide)) (cwV 1 hts (zgV tw_464 tw_465 tw_466 tw_369 tw_453) rfl rfl rfl (by decide +kernel) ⟨Nat.le_of_ble_eq_true rfl, Nat.le_of_ble_eq_true rfl⟩) (zRW_preV hKN hP hD (ci := 5) (q0 := 0) rfl rfl [0, 1] rfl (by decide)) rfl rfl hl.1 rfl (lv_room (Nat.le_of_ble_eq_true rfl)) dX5_areReadings_28 ⟨Nat.zero_le _, Nat.zero_le _⟩) (fun r_3 u_4 H locs hw_28 hP hD hS => ?_)
      have hP : va_P D vwCl [((g 0), .inr (5, [.int th, .ref (g 1), .int (nI sv), .ref (g 2), .ref (g 3), .int (nI ln), .int (nI (u_2.1 + (if sg tx ln u_2.1 = 59 then 1 else 0))), .int (nI u_2.2.1), .int u_2.2.2, .long hs])), ((g 3), .inl (y 0, 60, .inl (zX tx)))] H := hP
      have hD : va_D A [((g 0), .inr (5, [.int th, .ref (g 1), .int (nI sv), .ref (g 2), .ref (g 3), .int (nI ln), .int (nI (u_2.1 + (if sg tx ln u_2.1 = 59 then 1 else 0))), .int (nI u_2.2.1), .int u_2.2.2, .long hs])), ((g 3), .inl (y 0, 60, .inl (zX tx)))] := hD
      obtain rfl : r_3 = (if sg tx ln u_2.1 = 59 then (1 : Int32) else 0) := hw_28
      refine lv_if_ne (tgt := 5) hx hb dX5_areReadings_31 (by decide) (fun c_31 => ?_) (fun c_31 => ?_)
      · replace c_31 := zb1.mp c_31
        rw [if_pos c_31] at hP hD
        have hP : va_P D vwCl [((g 0), .inr (5, [.int th, .ref (g 1), .int (nI sv), .ref (g 2), .ref (g 3), .int (nI ln), .int (nI (u_2.1 + 1)), .int (nI u_2.2.1), .int u_2.2.2, .long hs])), ((g 3), .inl (y 0, 60, .inl (zX tx)))] H := hP
        have hD : va_D A [((g 0), .inr (5, [.int th, .ref (g 1), .int (nI sv), .ref (g 2), .ref (g 3), .int (nI ln), .int (nI (u_2.1 + 1)), .int (nI u_2.2.1), .int u_2.2.2, .long hs])), ((g 3), .inl (y 0, 60, .inl (zX tx)))] := hD
        have e1 : u_2.1 < ln := sg_in (tx := tx) (by omega)
        have e2 := (sg_y (tx := tx) e1).symm.trans c_31
        exact ih5 (u_2.1 + 1) _ _ _ (by omega) ⟨u_2.2.1, u_2.2.2, by omega, (zGot_next hG e1 e2).1, (zGot_next hG e1 e2).2, hP, hD, hS, lv_sub hl [0] rfl⟩
      · replace c_31 := zb0.mp c_31
        rw [if_neg c_31, Nat.add_zero] at hP hD
        have hP : va_P D vwCl [((g 0), .inr (5, [.int th, .ref (g 1), .int (nI sv), .ref (g 2), .ref (g 3), .int (nI ln), .int (nI u_2.1), .int (nI u_2.2.1), .int u_2.2.2, .long hs])), ((g 3), .inl (y 0, 60, .inl (zX tx)))] H := hP
        have hD : va_D A [((g 0), .inr (5, [.int th, .ref (g 1), .int (nI sv), .ref (g 2), .ref (g 3), .int (nI ln), .int (nI u_2.1), .int (nI u_2.2.1), .int u_2.2.2, .long hs])), ((g 3), .inl (y 0, 60, .inl (zX tx)))] := hD
        refine lv_iconst (v := 0) hx hb dX5_areReadings_34 (by decide) ?_
        refine W.widen (k := 0) (n := 0) (by first | exact Nat.le_of_ble_eq_true rfl | omega) (by first | exact Nat.le_of_ble_eq_true rfl | omega) ?_
        exact W.zret (v := 0) hx hb hr (rfl) (fun t ht hW => ⟨⟨0, (u_2.1, u_2.2.1, u_2.2.2), rfl, Or.inl ⟨rfl, show zBad tx ln (u_2.1) from zGot_bad hG c_20 c_31⟩, ⟨by rw [ht]; exact hP, hD⟩⟩, hS.F ht⟩) hS.2.2 dX5_areReadings_35
    · replace c_20 : u_2.1 = ln := (nI_eq (a := u_2.1) (b := ln) (by omega) (by omega)).mp c_20
      refine lv_iconst (v := 1) hx hb dX5_areReadings_23 (by decide) ?_
      refine W.widen (k := 0) (n := 0) (by first | exact Nat.le_of_ble_eq_true rfl | omega) (by first | exact Nat.le_of_ble_eq_true rfl | omega) ?_
      exact W.zret (v := 1) hx hb hr (rfl) (fun t ht hW => ⟨⟨1, (u_2.1, u_2.2.1, u_2.2.2), rfl, Or.inr ⟨rfl, c_20, zGot_end (c_20 ▸ hG)⟩, ⟨by rw [ht]; exact hP, hD⟩⟩, hS.F ht⟩) hS.2.2 dX5_areReadings_24

set_option maxHeartbeats 4000000 in
set_option maxRecDepth 100000 in
theorem mX5_firstError (l : Launch) (D : va_G) (y : Nat → ClassId) (sz : Nat) (g : Nat → Nat) (th : Int32) (sv : Nat) (ln : Nat) (at9 : Nat) (pl : Nat) (va : Int32) (hs : Int64) (tx : (Nat → Nat)) (hn : ln ≤ 60) (htx : ∀ i : Nat, i < ln → tx i < 127) : Met l yX5_firstError (ws_ yX5_firstError cX5_firstError 1 (some .int)) ({ frames := 4, cells := 0, slots := 0, locals := 89 }) (va_Pc [.ref (g 0)] (zRW D y [((g 0), .inr (5, [.int th, .ref (g 1), .int (nI sv), .ref (g 2), .ref (g 3), .int (nI ln), .int (nI at9), .int (nI pl), .int va, .long hs])), ((g 3), .inl (y 0, 60, .inl (zX tx)))] sz)) (va_Qi (fun (r : Int32) (u : (Nat × Nat × Int32)) => r = nI u.1 ∧ rErr tx z0 ln u.1) (fun (u : (Nat × Nat × Int32)) t => zOut D (va_A [((g 0), .inr (5, [.int th, .ref (g 1), .int (nI sv), .ref (g 2), .ref (g 3), .int (nI ln), .int (nI at9), .int (nI pl), .int va, .long hs])), ((g 3), .inl (y 0, 60, .inl (zX tx)))] sz) [((g 0), .inr (5, [.int 0, .ref (g 1), .int (nI sv), .ref (g 2), .ref (g 3), .int (nI ln), .int (nI u.1), .int (nI u.2.1), .int u.2.2, .long hs])), ((g 3), .inl (y 0, 60, .inl (zX tx)))] t) (va_A [((g 0), .inr (5, [.int th, .ref (g 1), .int (nI sv), .ref (g 2), .ref (g 3), .int (nI ln), .int (nI at9), .int (nI pl), .int va, .long hs])), ((g 3), .inl (y 0, 60, .inl (zX tx)))] sz)) 0 0 (va_A [((g 0), .inr (5, [.int th, .ref (g 1), .int (nI sv), .ref (g 2), .ref (g 3), .int (nI ln), .int (nI at9), .int (nI pl), .int va, .long hs])), ((g 3), .inl (y 0, 60, .inl (zX tx)))] sz) := by
  refine Met.ofW (cc := cX5_firstError) (maxL := 1) (ret := (some .int)) (by decide) rfl ?_
  intro p e s m args below meth c s₁ B hml hpre9
  obtain ⟨rfl, hsz, hP, hKN, hD0⟩ := hpre9
  have hK := hKN.1
  have hx := B.exec
  have hb := B.bytes
  have hr := B.returns
  have hts := atoms_spec (ws := (ws_ yX5_firstError cX5_firstError 1 (some .int))) B.pre
  have htg : ∀ w ∈ gT, w.before _ s = true := fun w h => hts w (List.mem_cons_of_mem _ h)
  have hown : s.vm.findClass RX5 = some m.cls := findClass_of_methodNamed B.named
  have hlocks := B.notSynchronized
  subst hsz
  have hD := hD0.self (sz := s.heap.size)
  clear hD0
  generalize hAe : va_A [((g 0), .inr (5, [.int th, .ref (g 1), .int (nI sv), .ref (g 2), .ref (g 3), .int (nI ln), .int (nI at9), .int (nI pl), .int va, .long hs])), ((g 3), .inl (y 0, 60, .inl (zX tx)))] s.heap.size = A at hD ⊢
  have hA : ∀ q : Nat, s.heap.size ≤ q → A q := fun q h => by rw [← hAe]; exact Or.inr h
  have hS : va_S A s.heap s.heap [] := va_S.rf
  have hP : va_P D vwCl [((g 0), .inr (5, [.int th, .ref (g 1), .int (nI sv), .ref (g 2), .ref (g 3), .int (nI ln), .int (nI at9), .int (nI pl), .int va, .long hs])), ((g 3), .inl (y 0, 60, .inl (zX tx)))] s.heap := hP
  have hl := lv_entry ([.ref (g 0)]) (n := 1) (Nat.le_of_ble_eq_true rfl)
  rw [lg_entry_eq]
  generalize (lg_sl ([.ref (g 0)]) ++ List.replicate (1 - (lg_sl ([.ref (g 0)])).length) Slot.unset).toArray = ls at hl ⊢
  have hl : lv_has ls 1 [(0, .ref (g 0))] := hl
  refine lv_aload_n hx hb dX5_firstError_0 rfl (lv_at hl 0 rfl) ?_
  refine lv_iconst (v := 0) hx hb dX5_firstError_1 (by decide) ?_
  refine va_put (D := D) (ci := 5) (v := .int 0) (ty := .int) (C := RX5) (T := TX5) (N := 10) hx hb htg iX5 tyX5 tyX5_ok nmX5 hown hK hP hD hS 0 rfl rfl 0 (by decide) (htg _ tw_363) (fun _ h9 => h9) rfl (tyX5_ok 0 (by decide)) (rfl) (rfl) (Nat.le_of_ble_eq_true rfl) dX5_firstError_2 (fun H locs hP hD hS => ?_)
  have hP : va_P D vwCl [((g 0), .inr (5, [.int 0, .ref (g 1), .int (nI sv), .ref (g 2), .ref (g 3), .int (nI ln), .int (nI at9), .int (nI pl), .int va, .long hs])), ((g 3), .inl (y 0, 60, .inl (zX tx)))] H := hP
  have hD : va_D A [((g 0), .inr (5, [.int 0, .ref (g 1), .int (nI sv), .ref (g 2), .ref (g 3), .int (nI ln), .int (nI at9), .int (nI pl), .int va, .long hs])), ((g 3), .inl (y 0, 60, .inl (zX tx)))] := hD
  refine lv_aload_n hx hb dX5_firstError_5 rfl (lv_at hl 0 rfl) ?_
  refine zw_calli (wr := []) (w1 := (fun u : (Nat × Nat × Int32) => [((g 0), .inr (5, [.int 0, .ref (g 1), .int (nI sv), .ref (g 2), .ref (g 3), .int (nI ln), .int (nI u.1), .int (nI u.2.1), .int u.2.2, .long hs])), ((g 3), .inl (y 0, 60, .inl (zX tx)))])) hP hD hS hA [0, 1] [] rfl rfl (by decide +kernel) (by decide +kernel) (va_runV (As := []) (rest := []) ⟨hx, hb, hml, hown, hts⟩ (mX5_areReadings l D y _ g 0 sv ln at9 pl va hs tx (by first | assumption | rfl | omega | decide) (by first | assumption | rfl | omega | decide)) (cwV 0 hts (zgV tw_472 tw_473 tw_474 tw_369 tw_467) rfl rfl rfl (by decide +kernel) ⟨Nat.le_of_ble_eq_true rfl, Nat.le_of_ble_eq_true rfl⟩) (zRW_preV hKN hP hD (ci := 5) (q0 := 0) rfl rfl [0, 1] rfl (by decide)) rfl rfl hl.1 rfl (lv_room (Nat.le_of_ble_eq_true rfl)) dX5_firstError_6 ⟨Nat.zero_le _, Nat.zero_le _⟩) (fun r_1 u_2 H locs hw_6 hP hD hS => ?_)
  have hP : va_P D vwCl [((g 0), .inr (5, [.int 0, .ref (g 1), .int (nI sv), .ref (g 2), .ref (g 3), .int (nI ln), .int (nI u_2.1), .int (nI u_2.2.1), .int u_2.2.2, .long hs])), ((g 3), .inl (y 0, 60, .inl (zX tx)))] H := hP
  have hD : va_D A [((g 0), .inr (5, [.int 0, .ref (g 1), .int (nI sv), .ref (g 2), .ref (g 3), .int (nI ln), .int (nI u_2.1), .int (nI u_2.2.1), .int u_2.2.2, .long hs])), ((g 3), .inl (y 0, 60, .inl (zX tx)))] := hD
  try dsimp only at hw_6
  refine lv_pop hx hb dX5_firstError_9 rfl ?_
  refine lv_aload_n hx hb dX5_firstError_10 rfl (lv_at hl 0 rfl) ?_
  refine va_get (D := D) (ci := 5) (v := .int (nI u_2.1)) (C := RX5) (T := TX5) (N := 10) hx hb htg iX5 hown hK hP 0 rfl rfl 6 (by decide) (htg _ tw_452) (fun _ h9 => h9) rfl dX5_firstError_11 ?_
  refine W.widen (k := 0) (n := 0) (by first | exact Nat.le_of_ble_eq_true rfl | omega) (by first | exact Nat.le_of_ble_eq_true rfl | omega) ?_
  exact W.iret (v := (nI u_2.1)) hx hb hr (fun t ht hW => ⟨⟨nI u_2.1, (u_2.1, u_2.2.1, u_2.2.2), rfl, ⟨rfl, zRes_err hw_6⟩, ⟨by rw [ht]; exact hP, hD⟩⟩, hS.F ht⟩) hS.2.2 dX5_firstError_14
