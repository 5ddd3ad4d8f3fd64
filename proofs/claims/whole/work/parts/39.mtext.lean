theorem zin_a {a lo : Nat} (ha : a < 127) (hl : lo ≤ 1) : (¬ nI a < nI (48 + lo) ∧ ¬ 57 < nI a) ↔ (48 + lo ≤ a ∧ a ≤ 57) := by
  rw [show (57 : Int32) = nI 57 by decide, nI_ltI (by omega) (by omega), nI_ltI (by omega) (by omega)]
  omega
theorem zin_b {a : Nat} (ha : a < 127) : (¬ nI a < 48 ∧ ¬ 57 < nI a) ↔ rD a := by
  rw [show (48 : Int32) = nI (48 + 0) by decide]
  exact zin_a ha (by omega)

set_option maxHeartbeats 4000000 in
set_option maxRecDepth 100000 in
theorem mX5_sign (l : Launch) (D : va_G) (y : Nat → ClassId) (g : Nat → Nat) (th : Int32) (sv : Nat) (ln : Nat) (at9 : Nat) (pl : Nat) (va : Int32) (hs : Int64) (tx : (Nat → Nat)) (hn : ln ≤ 60) (htx : ∀ i : Nat, i < ln → tx i < 127) (hat : at9 ≤ ln) : Met l yX5_sign (ws_ yX5_sign cX5_sign 1 (some .int)) ({ frames := 0, cells := 0, slots := 0, locals := 0 }) (va_Pc [.ref (g 0)] (zRO D y [((g 0), .inr (5, [.int th, .ref (g 1), .int (nI sv), .ref (g 2), .ref (g 3), .int (nI ln), .int (nI at9), .int (nI pl), .int va, .long hs])), ((g 3), .inl (y 0, 60, .inl (zX tx)))])) (va_Qi (fun (r : Int32) (_ : Unit) => r = nI (sg tx ln at9)) (fun _ _ => True) (fun _ => False)) 0 0 (fun _ => False) := by
  refine Met.ofW (cc := cX5_sign) (maxL := 1) (ret := (some .int)) (by decide) rfl ?_
  intro p e s m args below meth c s₁ B hml hpre9
  obtain ⟨rfl, hP, hKN⟩ := hpre9
  have hK := hKN.1
  have hx := B.exec
  have hb := B.bytes
  have hr := B.returns
  have hts := atoms_spec (ws := (ws_ yX5_sign cX5_sign 1 (some .int))) B.pre
  have htg : ∀ w ∈ gT, w.before _ s = true := fun w h => hts w (List.mem_cons_of_mem _ h)
  have hown : s.vm.findClass RX5 = some m.cls := findClass_of_methodNamed B.named
  have hlocks := B.notSynchronized
  have hS : va_S (fun _ => False) s.heap s.heap [] := va_S.rf
  have hP : va_P D vwCl [((g 0), .inr (5, [.int th, .ref (g 1), .int (nI sv), .ref (g 2), .ref (g 3), .int (nI ln), .int (nI at9), .int (nI pl), .int va, .long hs])), ((g 3), .inl (y 0, 60, .inl (zX tx)))] s.heap := hP
  have hl := lv_entry ([.ref (g 0)]) (n := 1) (Nat.le_of_ble_eq_true rfl)
  rw [lg_entry_eq]
  generalize (lg_sl ([.ref (g 0)]) ++ List.replicate (1 - (lg_sl ([.ref (g 0)])).length) Slot.unset).toArray = ls at hl ⊢
  have hl : lv_has ls 1 [(0, .ref (g 0))] := hl
  refine lv_aload_n hx hb dX5_sign_0 rfl (lv_at hl 0 rfl) ?_
  refine va_get (D := D) (ci := 5) (v := .int (nI at9)) (C := RX5) (T := TX5) (N := 10) hx hb htg iX5 hown hK hP 0 rfl rfl 6 (by decide) (htg _ tw_452) (fun _ h9 => h9) rfl dX5_sign_1 ?_
  refine lv_aload_n hx hb dX5_sign_4 rfl (lv_at hl 0 rfl) ?_
  refine va_get (D := D) (ci := 5) (v := .int (nI ln)) (C := RX5) (T := TX5) (N := 10) hx hb htg iX5 hown hK hP 0 rfl rfl 5 (by decide) (htg _ tw_449) (fun _ h9 => h9) rfl dX5_sign_5 ?_
  refine lv_icmp_ge (tgt := 23) hx hb dX5_sign_8 (by decide) (fun c_8 => ?_) (fun c_8 => ?_)
  · replace c_8 : ln ≤ at9 := (nI_leI (a := ln) (b := at9) (by omega) (by omega)).mp c_8
    refine lv_iconst (v := 0) hx hb dX5_sign_23 (by decide) ?_
    exact W.iret (v := 0) hx hb hr (fun t ht hW => ⟨⟨0, (), rfl, congrArg nI (show (0 : Nat) = sg tx ln at9 from (if_neg (Nat.not_lt.mpr c_8)).symm), trivial⟩, hS.F ht⟩) hS.2.2 dX5_sign_24
  · replace c_8 : ¬ ln ≤ at9 := fun h => c_8 ((nI_leI (a := ln) (b := at9) (by omega) (by omega)).mpr h)
    refine lv_aload_n hx hb dX5_sign_11 rfl (lv_at hl 0 rfl) ?_
    refine va_get (D := D) (ci := 5) (v := .ref (g 3)) (C := RX5) (T := TX5) (N := 10) hx hb htg iX5 hown hK hP 0 rfl rfl 4 (by decide) (htg _ tw_361) (fun _ h9 => h9) rfl dX5_sign_12 ?_
    refine lv_aload_n hx hb dX5_sign_15 rfl (lv_at hl 0 rfl) ?_
    refine va_get (D := D) (ci := 5) (v := .int (nI at9)) (C := RX5) (T := TX5) (N := 10) hx hb htg iX5 hown hK hP 0 rfl rfl 6 (by decide) (htg _ tw_452) (fun _ h9 => h9) rfl dX5_sign_16 ?_
    refine va_iald hx hb hK hP 1 0 rfl rfl (vp_in_nI (by omega) (by decide)) dX5_sign_19 ?_
    refine zz_top (y := (zX tx) at9) (congrArg (zX tx) (nI_clamp (by omega))) ?_
    refine zz_top (y := nI (tx at9)) (rfl) ?_
    refine lv_goto (tgt := 24) hx hb dX5_sign_20 (by decide) ?_
    exact W.iret (v := (nI (tx at9))) hx hb hr (fun t ht hW => ⟨⟨nI (tx at9), (), rfl, congrArg nI (show tx at9 = sg tx ln at9 from (sg_y (Nat.not_le.mp c_8)).symm), trivial⟩, hS.F ht⟩) hS.2.2 dX5_sign_24

set_option maxHeartbeats 4000000 in
set_option maxRecDepth 100000 in
theorem mX5_takes (l : Launch) (D : va_G) (y : Nat → ClassId) (sz : Nat) (g : Nat → Nat) (th : Int32) (sv : Nat) (ln : Nat) (at9 : Nat) (pl : Nat) (va : Int32) (hs : Int64) (tx : (Nat → Nat)) (c9 : Nat) (hn : ln ≤ 60) (htx : ∀ i : Nat, i < ln → tx i < 127) (hat : at9 ≤ ln) (hc9 : c9 < 127) : Met l yX5_takes (ws_ yX5_takes cX5_takes 3 (some .boolean)) ({ frames := 1, cells := 0, slots := 0, locals := 20 }) (va_Pc [.ref (g 0), .int (nI c9)] (zRW D y [((g 0), .inr (5, [.int th, .ref (g 1), .int (nI sv), .ref (g 2), .ref (g 3), .int (nI ln), .int (nI at9), .int (nI pl), .int va, .long hs])), ((g 3), .inl (y 0, 60, .inl (zX tx)))] sz)) (va_Qi (fun (r : Int32) (_ : Unit) => r = (if sg tx ln at9 = c9 then 1 else 0)) (fun (_ : Unit) t => zOut D (va_A [((g 0), .inr (5, [.int th, .ref (g 1), .int (nI sv), .ref (g 2), .ref (g 3), .int (nI ln), .int (nI at9), .int (nI pl), .int va, .long hs])), ((g 3), .inl (y 0, 60, .inl (zX tx)))] sz) [((g 0), .inr (5, [.int th, .ref (g 1), .int (nI sv), .ref (g 2), .ref (g 3), .int (nI ln), .int (nI (at9 + (if sg tx ln at9 = c9 then 1 else 0))), .int (nI pl), .int va, .long hs])), ((g 3), .inl (y 0, 60, .inl (zX tx)))] t) (va_A [((g 0), .inr (5, [.int th, .ref (g 1), .int (nI sv), .ref (g 2), .ref (g 3), .int (nI ln), .int (nI at9), .int (nI pl), .int va, .long hs])), ((g 3), .inl (y 0, 60, .inl (zX tx)))] sz)) 0 0 (va_A [((g 0), .inr (5, [.int th, .ref (g 1), .int (nI sv), .ref (g 2), .ref (g 3), .int (nI ln), .int (nI at9), .int (nI pl), .int va, .long hs])), ((g 3), .inl (y 0, 60, .inl (zX tx)))] sz) := by
  refine Met.ofW (cc := cX5_takes) (maxL := 3) (ret := (some .boolean)) (by decide) rfl ?_
  intro p e s m args below meth c s₁ B hml hpre9
  obtain ⟨rfl, hsz, hP, hKN, hD0⟩ := hpre9
  have hK := hKN.1
  have hx := B.exec
  have hb := B.bytes
  have hr := B.returns
  have hts := atoms_spec (ws := (ws_ yX5_takes cX5_takes 3 (some .boolean))) B.pre
  have htg : ∀ w ∈ gT, w.before _ s = true := fun w h => hts w (List.mem_cons_of_mem _ h)
  have hown : s.vm.findClass RX5 = some m.cls := findClass_of_methodNamed B.named
  have hlocks := B.notSynchronized
  subst hsz
  have hD := hD0.self (sz := s.heap.size)
  clear hD0
  generalize hAe : va_A [((g 0), .inr (5, [.int th, .ref (g 1), .int (nI sv), .ref (g 2), .ref (g 3), .int (nI ln), .int (nI at9), .int (nI pl), .int va, .long hs])), ((g 3), .inl (y 0, 60, .inl (zX tx)))] s.heap.size = A at hD ⊢
  have hA : ∀ q : Nat, s.heap.size ≤ q → A q := fun q h => by rw [← hAe]; exact Or.inr h
  have hS : va_S A s.heap s.heap [] := va_S.rf
  have hP : va_P D vwCl [((g 0), .inr (5, [.int th, .ref (g 1), .int (nI sv), .ref (g 2), .ref (g 3), .int (nI ln), .int (nI at9), .int (nI pl), .int va, .long hs])), ((g 3), .inl (y 0, 60, .inl (zX tx)))] s.heap := hP
  have hl := lv_entry ([.ref (g 0), .int (nI c9)]) (n := 3) (Nat.le_of_ble_eq_true rfl)
  rw [lg_entry_eq]
  generalize (lg_sl ([.ref (g 0), .int (nI c9)]) ++ List.replicate (3 - (lg_sl ([.ref (g 0), .int (nI c9)])).length) Slot.unset).toArray = ls at hl ⊢
  have hl : lv_has ls 3 [(0, .ref (g 0)), (1, .int (nI c9))] := hl
  have h7 := sg_lt (by decide) htx at9
  refine lv_aload_n hx hb dX5_takes_0 rfl (lv_at hl 0 rfl) ?_
  refine zr_calli (va_runV (As := []) (rest := []) ⟨hx, hb, hml, hown, hts⟩ (mX5_sign l D y g th sv ln at9 pl va hs tx (by first | assumption | rfl | omega | decide) (by first | assumption | rfl | omega | decide) (by first | assumption | rfl | omega | decide)) (cwV 0 hts (zgV tw_454 tw_455 tw_456 tw_369 tw_451) rfl rfl rfl (by decide +kernel) ⟨Nat.le_of_ble_eq_true rfl, Nat.le_of_ble_eq_true rfl⟩) (zRO_preV hKN hP (ci := 5) (q0 := 0) rfl rfl [0, 1] rfl) rfl rfl hl.1 rfl (lv_room (Nat.le_of_ble_eq_true rfl)) dX5_takes_1 ⟨Nat.zero_le _, Nat.zero_le _⟩) hS (fun r_1 H locs hw_1 hT hS => ?_)
  replace hP := hT _ _ hP
  obtain rfl : r_1 = nI (sg tx ln at9) := hw_1
  refine lv_iload_n hx hb dX5_takes_4 rfl (lv_at hl 1 rfl) ?_
  refine lv_icmp_ne (tgt := 12) hx hb dX5_takes_5 (by decide) (fun c_5 => ?_) (fun c_5 => ?_)
  · replace c_5 : ¬ (sg tx ln at9) = c9 := fun h => c_5 ((nI_eq (a := (sg tx ln at9)) (b := c9) (by omega) (by omega)).mpr h)
    refine lv_iconst (v := 0) hx hb dX5_takes_12 (by decide) ?_
    refine lv_istore_n (lv' := [(2, .int 0), (0, .ref (g 0)), (1, .int (nI c9))]) hx hb dX5_takes_13 rfl hl (by decide) rfl (fun ls hl => ?_)
    refine lv_aload_n hx hb dX5_takes_14 rfl (lv_at hl 1 rfl) ?_
    refine lv_dup hx hb dX5_takes_15 rfl ?_
    refine va_get (D := D) (ci := 5) (v := .int (nI at9)) (C := RX5) (T := TX5) (N := 10) hx hb htg iX5 hown hK hP 0 rfl rfl 6 (by decide) (htg _ tw_452) (fun _ h9 => h9) rfl dX5_takes_16 ?_
    refine lv_iload_n hx hb dX5_takes_19 rfl (lv_at hl 0 rfl) ?_
    refine lv_if_eq (tgt := 27) hx hb dX5_takes_20 (by decide) (fun _ => ?_) (fun c_20 => absurd (by decide) c_20)
    refine lv_iconst (v := 0) hx hb dX5_takes_27 (by decide) ?_
    refine lv_iadd hx hb dX5_takes_28 ?_
    refine zz_top (y := nI (at9 + 0)) (nI_add at9 0) ?_
    refine zz_top (y := nI (at9 + (if sg tx ln at9 = c9 then 1 else 0))) (congrArg nI (by rw [if_neg c_5])) ?_
    refine va_put (D := D) (ci := 5) (v := .int (nI (at9 + (if sg tx ln at9 = c9 then 1 else 0)))) (ty := .int) (C := RX5) (T := TX5) (N := 10) hx hb htg iX5 tyX5 tyX5_ok nmX5 hown hK hP hD hS 0 rfl rfl 6 (by decide) (htg _ tw_452) (fun _ h9 => h9) rfl (tyX5_ok 6 (by decide)) (rfl) (rfl) (Nat.le_of_ble_eq_true rfl) dX5_takes_29 (fun H locs hP hD hS => ?_)
    have hP : va_P D vwCl [((g 0), .inr (5, [.int th, .ref (g 1), .int (nI sv), .ref (g 2), .ref (g 3), .int (nI ln), .int (nI (at9 + (if sg tx ln at9 = c9 then 1 else 0))), .int (nI pl), .int va, .long hs])), ((g 3), .inl (y 0, 60, .inl (zX tx)))] H := hP
    have hD : va_D A [((g 0), .inr (5, [.int th, .ref (g 1), .int (nI sv), .ref (g 2), .ref (g 3), .int (nI ln), .int (nI (at9 + (if sg tx ln at9 = c9 then 1 else 0))), .int (nI pl), .int va, .long hs])), ((g 3), .inl (y 0, 60, .inl (zX tx)))] := hD
    refine lv_iload_n hx hb dX5_takes_32 rfl (lv_at hl 0 rfl) ?_
    refine W.widen (k := 0) (n := 0) (by first | exact Nat.le_of_ble_eq_true rfl | omega) (by first | exact Nat.le_of_ble_eq_true rfl | omega) ?_
    exact W.zret (v := 0) hx hb hr (rfl) (fun t ht hW => ⟨⟨0, (), rfl, (if_neg c_5).symm, ⟨by rw [ht]; exact hP, hD⟩⟩, hS.F ht⟩) hS.2.2 dX5_takes_33
  · replace c_5 : (sg tx ln at9) = c9 := (nI_eq (a := (sg tx ln at9)) (b := c9) (by omega) (by omega)).mp c_5
    refine lv_iconst (v := 1) hx hb dX5_takes_8 (by decide) ?_
    refine lv_goto (tgt := 13) hx hb dX5_takes_9 (by decide) ?_
    refine lv_istore_n (lv' := [(2, .int 1), (0, .ref (g 0)), (1, .int (nI c9))]) hx hb dX5_takes_13 rfl hl (by decide) rfl (fun ls hl => ?_)
    refine lv_aload_n hx hb dX5_takes_14 rfl (lv_at hl 1 rfl) ?_
    refine lv_dup hx hb dX5_takes_15 rfl ?_
    refine va_get (D := D) (ci := 5) (v := .int (nI at9)) (C := RX5) (T := TX5) (N := 10) hx hb htg iX5 hown hK hP 0 rfl rfl 6 (by decide) (htg _ tw_452) (fun _ h9 => h9) rfl dX5_takes_16 ?_
    refine lv_iload_n hx hb dX5_takes_19 rfl (lv_at hl 0 rfl) ?_
    refine lv_if_eq (tgt := 27) hx hb dX5_takes_20 (by decide) (fun c_20 => absurd c_20 (by decide)) (fun _ => ?_)
    refine lv_iconst (v := 1) hx hb dX5_takes_23 (by decide) ?_
    refine lv_goto (tgt := 28) hx hb dX5_takes_24 (by decide) ?_
    refine lv_iadd hx hb dX5_takes_28 ?_
    refine zz_top (y := nI (at9 + 1)) (nI_add at9 1) ?_
    refine zz_top (y := nI (at9 + (if sg tx ln at9 = c9 then 1 else 0))) (congrArg nI (by rw [if_pos c_5])) ?_
    refine va_put (D := D) (ci := 5) (v := .int (nI (at9 + (if sg tx ln at9 = c9 then 1 else 0)))) (ty := .int) (C := RX5) (T := TX5) (N := 10) hx hb htg iX5 tyX5 tyX5_ok nmX5 hown hK hP hD hS 0 rfl rfl 6 (by decide) (htg _ tw_452) (fun _ h9 => h9) rfl (tyX5_ok 6 (by decide)) (rfl) (rfl) (Nat.le_of_ble_eq_true rfl) dX5_takes_29 (fun H locs hP hD hS => ?_)
    have hP : va_P D vwCl [((g 0), .inr (5, [.int th, .ref (g 1), .int (nI sv), .ref (g 2), .ref (g 3), .int (nI ln), .int (nI (at9 + (if sg tx ln at9 = c9 then 1 else 0))), .int (nI pl), .int va, .long hs])), ((g 3), .inl (y 0, 60, .inl (zX tx)))] H := hP
    have hD : va_D A [((g 0), .inr (5, [.int th, .ref (g 1), .int (nI sv), .ref (g 2), .ref (g 3), .int (nI ln), .int (nI (at9 + (if sg tx ln at9 = c9 then 1 else 0))), .int (nI pl), .int va, .long hs])), ((g 3), .inl (y 0, 60, .inl (zX tx)))] := hD
    refine lv_iload_n hx hb dX5_takes_32 rfl (lv_at hl 0 rfl) ?_
    refine W.widen (k := 0) (n := 0) (by first | exact Nat.le_of_ble_eq_true rfl | omega) (by first | exact Nat.le_of_ble_eq_true rfl | omega) ?_
    exact W.zret (v := 1) hx hb hr (rfl) (fun t ht hW => ⟨⟨1, (), rfl, (if_pos c_5).symm, ⟨by rw [ht]; exact hP, hD⟩⟩, hS.F ht⟩) hS.2.2 dX5_takes_33

set_option maxHeartbeats 4000000 in
set_option maxRecDepth 100000 in
theorem mX5_readsNumber (l : Launch) (D : va_G) (y : Nat → ClassId) (sz : Nat) (g : Nat → Nat) (th : Int32) (sv : Nat) (ln : Nat) (at9 : Nat) (pl : Nat) (va : Int32) (hs : Int64) (tx : (Nat → Nat)) (P9 : (Nat → Nat → Prop)) (lo : Nat) (hi9 : Nat) (hn : ln ≤ 60) (htx : ∀ i : Nat, i < ln → tx i < 127) (hat : at9 ≤ ln) (hlo : lo ≤ 1) (hhi : 9 ≤ hi9 ∧ hi9 ≤ 200) (hs0 : at9 < ln → 48 + lo ≤ tx at9 → tx at9 ≤ 57 → P9 (at9 + 1) (tx at9 - 48)) (hs1 : ∀ b v : Nat, P9 b v → b < ln → 0 < v → rD (tx b) → 10 * v + (tx b - 48) ≤ hi9 → P9 (b + 1) (10 * v + (tx b - 48))) : Met l yX5_readsNumber (ws_ yX5_readsNumber cX5_readsNumber 3 (some .boolean)) ({ frames := 1, cells := 0, slots := 0, locals := 22 }) (va_Pc [.ref (g 0), .int (nI lo), .int (nI hi9)] (zRW D y [((g 0), .inr (5, [.int th, .ref (g 1), .int (nI sv), .ref (g 2), .ref (g 3), .int (nI ln), .int (nI at9), .int (nI pl), .int va, .long hs])), ((g 3), .inl (y 0, 60, .inl (zX tx)))] sz)) (va_Qi (fun (r : Int32) (u : (Nat × Int32)) => (r = 0 ∧ u.1 = at9 ∧ u.2 = va ∧ ¬ (48 + lo ≤ sg tx ln at9 ∧ sg tx ln at9 ≤ 57)) ∨ (r = 1 ∧ ∃ v : Nat, u.2 = nI v ∧ v ≤ hi9 ∧ at9 < u.1 ∧ P9 u.1 v ∧ u.1 ≤ ln ∧ ¬ (u.1 < ln ∧ 0 < v ∧ rD (tx u.1) ∧ 10 * v + (tx u.1 - 48) ≤ hi9))) (fun (u : (Nat × Int32)) t => zOut D (va_A [((g 0), .inr (5, [.int th, .ref (g 1), .int (nI sv), .ref (g 2), .ref (g 3), .int (nI ln), .int (nI at9), .int (nI pl), .int va, .long hs])), ((g 3), .inl (y 0, 60, .inl (zX tx)))] sz) [((g 0), .inr (5, [.int th, .ref (g 1), .int (nI sv), .ref (g 2), .ref (g 3), .int (nI ln), .int (nI u.1), .int (nI pl), .int u.2, .long hs])), ((g 3), .inl (y 0, 60, .inl (zX tx)))] t) (va_A [((g 0), .inr (5, [.int th, .ref (g 1), .int (nI sv), .ref (g 2), .ref (g 3), .int (nI ln), .int (nI at9), .int (nI pl), .int va, .long hs])), ((g 3), .inl (y 0, 60, .inl (zX tx)))] sz)) 0 0 (va_A [((g 0), .inr (5, [.int th, .ref (g 1), .int (nI sv), .ref (g 2), .ref (g 3), .int (nI ln), .int (nI at9), .int (nI pl), .int va, .long hs])), ((g 3), .inl (y 0, 60, .inl (zX tx)))] sz) := by
  refine Met.ofW (cc := cX5_readsNumber) (maxL := 3) (ret := (some .boolean)) (by decide) rfl ?_
  intro p e s m args below meth c s₁ B hml hpre9
  obtain ⟨rfl, hsz, hP, hKN, hD0⟩ := hpre9
  have hK := hKN.1
  have hx := B.exec
  have hb := B.bytes
  have hr := B.returns
  have hts := atoms_spec (ws := (ws_ yX5_readsNumber cX5_readsNumber 3 (some .boolean))) B.pre
  have htg : ∀ w ∈ gT, w.before _ s = true := fun w h => hts w (List.mem_cons_of_mem _ h)
  have hown : s.vm.findClass RX5 = some m.cls := findClass_of_methodNamed B.named
  have hlocks := B.notSynchronized
  subst hsz
  have hD := hD0.self (sz := s.heap.size)
  clear hD0
  generalize hAe : va_A [((g 0), .inr (5, [.int th, .ref (g 1), .int (nI sv), .ref (g 2), .ref (g 3), .int (nI ln), .int (nI at9), .int (nI pl), .int va, .long hs])), ((g 3), .inl (y 0, 60, .inl (zX tx)))] s.heap.size = A at hD ⊢
  have hA : ∀ q : Nat, s.heap.size ≤ q → A q := fun q h => by rw [← hAe]; exact Or.inr h
  have hS : va_S A s.heap s.heap [] := va_S.rf
  have hP : va_P D vwCl [((g 0), .inr (5, [.int th, .ref (g 1), .int (nI sv), .ref (g 2), .ref (g 3), .int (nI ln), .int (nI at9), .int (nI pl), .int va, .long hs])), ((g 3), .inl (y 0, 60, .inl (zX tx)))] s.heap := hP
  have hl := lv_entry ([.ref (g 0), .int (nI lo), .int (nI hi9)]) (n := 3) (Nat.le_of_ble_eq_true rfl)
  rw [lg_entry_eq]
  generalize (lg_sl ([.ref (g 0), .int (nI lo), .int (nI hi9)]) ++ List.replicate (3 - (lg_sl ([.ref (g 0), .int (nI lo), .int (nI hi9)])).length) Slot.unset).toArray = ls at hl ⊢
  have hl : lv_has ls 3 [(0, .ref (g 0)), (1, .int (nI lo)), (2, .int (nI hi9))] := hl
  have h7 := sg_lt (by decide) htx at9
  refine lv_aload_n hx hb dX5_readsNumber_0 rfl (lv_at hl 0 rfl) ?_
  refine zr_calli (va_runV (As := []) (rest := []) ⟨hx, hb, hml, hown, hts⟩ (mX5_sign l D y g th sv ln at9 pl va hs tx (by first | assumption | rfl | omega | decide) (by first | assumption | rfl | omega | decide) (by first | assumption | rfl | omega | decide)) (cwV 0 hts (zgV tw_454 tw_455 tw_456 tw_369 tw_451) rfl rfl rfl (by decide +kernel) ⟨Nat.le_of_ble_eq_true rfl, Nat.le_of_ble_eq_true rfl⟩) (zRO_preV hKN hP (ci := 5) (q0 := 0) rfl rfl [0, 1] rfl) rfl rfl hl.1 rfl (lv_room (Nat.le_of_ble_eq_true rfl)) dX5_readsNumber_1 ⟨Nat.zero_le _, Nat.zero_le _⟩) hS (fun r_1 H locs hw_1 hT hS => ?_)
  replace hP := hT _ _ hP
  obtain rfl : r_1 = nI (sg tx ln at9) := hw_1
  refine lv_bipush (v := 48) hx hb dX5_readsNumber_4 (by decide) ?_
  refine lv_iload_n hx hb dX5_readsNumber_6 rfl (lv_at hl 1 rfl) ?_
  refine lv_iadd hx hb dX5_readsNumber_7 ?_
  refine zz_top (y := nI (48 + lo)) (nI_add 48 lo) ?_
  refine lv_bipush (v := 57) hx hb dX5_readsNumber_8 (by decide) ?_
  refine zr_calli (va_runS (As := [.int (nI (sg tx ln at9)), .int (nI (48 + lo)), .int 57]) (rest := []) ⟨hx, hb, hml, hown, hts⟩ (mX5_in l (nI (sg tx ln at9)) (nI (48 + lo)) 57) (va_cwS 3 hts (zgS tw_367 tw_368 tw_369 tw_364) rfl rfl rfl (by decide +kernel) ⟨Nat.le_of_ble_eq_true rfl, Nat.le_of_ble_eq_true rfl⟩) zP_pre rfl rfl hl.1 rfl (lv_room (Nat.le_of_ble_eq_true rfl)) dX5_readsNumber_10 ⟨Nat.zero_le _, Nat.zero_le _⟩) hS (fun r_2 H locs hw_10 hT hS => ?_)
  replace hP := hT _ _ hP
  obtain rfl : r_2 = (if ¬ (nI (sg tx ln at9)) < (nI (48 + lo)) ∧ ¬ 57 < (nI (sg tx ln at9)) then (1 : Int32) else 0) := hw_10
  refine lv_if_ne (tgt := 18) hx hb dX5_readsNumber_13 (by decide) (fun c_13 => ?_) (fun c_13 => ?_)
  · replace c_13 := zb1.mp c_13
    replace c_13 := (zin_a (by omega) hlo).mp c_13
    have e6 : at9 < ln := sg_in (tx := tx) (by omega)
    have e5 := sg_y (tx := tx) e6
    refine lv_aload_n hx hb dX5_readsNumber_18 rfl (lv_at hl 0 rfl) ?_
    refine lv_aload_n hx hb dX5_readsNumber_19 rfl (lv_at hl 0 rfl) ?_
    refine zr_calli (va_runV (As := []) (rest := [.ref (g 0)]) ⟨hx, hb, hml, hown, hts⟩ (mX5_sign l D y g th sv ln at9 pl va hs tx (by first | assumption | rfl | omega | decide) (by first | assumption | rfl | omega | decide) (by first | assumption | rfl | omega | decide)) (cwV 0 hts (zgV tw_454 tw_455 tw_456 tw_369 tw_451) rfl rfl rfl (by decide +kernel) ⟨Nat.le_of_ble_eq_true rfl, Nat.le_of_ble_eq_true rfl⟩) (zRO_preV hKN hP (ci := 5) (q0 := 0) rfl rfl [0, 1] rfl) rfl rfl hl.1 rfl (lv_room (Nat.le_of_ble_eq_true rfl)) dX5_readsNumber_20 ⟨Nat.zero_le _, Nat.zero_le _⟩) hS (fun r_3 H locs hw_20 hT hS => ?_)
    replace hP := hT _ _ hP
    obtain rfl : r_3 = nI (sg tx ln at9) := hw_20
    refine lv_bipush (v := 48) hx hb dX5_readsNumber_23 (by decide) ?_
    refine lv_isub hx hb dX5_readsNumber_25 ?_
    refine zz_top (y := nI (sg tx ln at9 - 48)) (pk_sub (a := sg tx ln at9) (b := 48) (by omega)) ?_
    refine va_put (D := D) (ci := 5) (v := .int (nI (sg tx ln at9 - 48))) (ty := .int) (C := RX5) (T := TX5) (N := 10) hx hb htg iX5 tyX5 tyX5_ok nmX5 hown hK hP hD hS 0 rfl rfl 8 (by decide) (htg _ tw_458) (fun _ h9 => h9) rfl (tyX5_ok 8 (by decide)) (rfl) (rfl) (Nat.le_of_ble_eq_true rfl) dX5_readsNumber_26 (fun H locs hP hD hS => ?_)
    have hP : va_P D vwCl [((g 0), .inr (5, [.int th, .ref (g 1), .int (nI sv), .ref (g 2), .ref (g 3), .int (nI ln), .int (nI at9), .int (nI pl), .int (nI (sg tx ln at9 - 48)), .long hs])), ((g 3), .inl (y 0, 60, .inl (zX tx)))] H := hP
    have hD : va_D A [((g 0), .inr (5, [.int th, .ref (g 1), .int (nI sv), .ref (g 2), .ref (g 3), .int (nI ln), .int (nI at9), .int (nI pl), .int (nI (sg tx ln at9 - 48)), .long hs])), ((g 3), .inl (y 0, 60, .inl (zX tx)))] := hD
    refine lv_aload_n hx hb dX5_readsNumber_29 rfl (lv_at hl 0 rfl) ?_
    refine lv_dup hx hb dX5_readsNumber_30 rfl ?_
    refine va_get (D := D) (ci := 5) (v := .int (nI at9)) (C := RX5) (T := TX5) (N := 10) hx hb htg iX5 hown hK hP 0 rfl rfl 6 (by decide) (htg _ tw_452) (fun _ h9 => h9) rfl dX5_readsNumber_31 ?_
    refine lv_iconst (v := 1) hx hb dX5_readsNumber_34 (by decide) ?_
    refine lv_iadd hx hb dX5_readsNumber_35 ?_
    refine zz_top (y := nI (at9 + 1)) (nI_add at9 1) ?_
    refine va_put (D := D) (ci := 5) (v := .int (nI (at9 + 1))) (ty := .int) (C := RX5) (T := TX5) (N := 10) hx hb htg iX5 tyX5 tyX5_ok nmX5 hown hK hP hD hS 0 rfl rfl 6 (by decide) (htg _ tw_452) (fun _ h9 => h9) rfl (tyX5_ok 6 (by decide)) (rfl) (rfl) (Nat.le_of_ble_eq_true rfl) dX5_readsNumber_36 (fun H locs hP hD hS => ?_)
    have hP : va_P D vwCl [((g 0), .inr (5, [.int th, .ref (g 1), .int (nI sv), .ref (g 2), .ref (g 3), .int (nI ln), .int (nI (at9 + 1)), .int (nI pl), .int (nI (sg tx ln at9 - 48)), .long hs])), ((g 3), .inl (y 0, 60, .inl (zX tx)))] H := hP
    have hD : va_D A [((g 0), .inr (5, [.int th, .ref (g 1), .int (nI sv), .ref (g 2), .ref (g 3), .int (nI ln), .int (nI (at9 + 1)), .int (nI pl), .int (nI (sg tx ln at9 - 48)), .long hs])), ((g 3), .inl (y 0, 60, .inl (zX tx)))] := hD
    refine zloop (fun i : Nat => ln - i) (fun i H locs ls => ∃ v : Nat, i ≤ ln ∧ at9 < i ∧ v ≤ hi9 ∧ P9 i v ∧ va_P D vwCl [((g 0), .inr (5, [.int th, .ref (g 1), .int (nI sv), .ref (g 2), .ref (g 3), .int (nI ln), .int (nI i), .int (nI pl), .int (nI v), .long hs])), ((g 3), .inl (y 0, 60, .inl (zX tx)))] H ∧ va_D A [((g 0), .inr (5, [.int th, .ref (g 1), .int (nI sv), .ref (g 2), .ref (g 3), .int (nI ln), .int (nI i), .int (nI pl), .int (nI v), .long hs])), ((g 3), .inl (y 0, 60, .inl (zX tx)))] ∧ va_S A s.heap H locs ∧ lv_has ls 3 [(0, .ref (g 0)), (1, .int (nI lo)), (2, .int (nI hi9))]) 39 (fun _ => 0) (fun _ => 0) ?_ (at9 + 1) ⟨sg tx ln at9 - 48, by omega, by omega, by omega, by rw [e5]; exact hs0 e6 (by omega) (by omega), hP, hD, hS, lv_sub hl [0, 1, 2] rfl⟩
    clear hl hS hP hD
    rintro i H locs ls ⟨v, hi, hai, hv9, hP9, hP, hD, hS, hl⟩ ih39
    refine lv_aload_n hx hb dX5_readsNumber_39 rfl (lv_at hl 0 rfl) ?_
    refine va_get (D := D) (ci := 5) (v := .int (nI v)) (C := RX5) (T := TX5) (N := 10) hx hb htg iX5 hown hK hP 0 rfl rfl 8 (by decide) (htg _ tw_458) (fun _ h9 => h9) rfl dX5_readsNumber_40 ?_
    refine lv_if_le (tgt := 111) hx hb dX5_readsNumber_43 (by decide) (fun c_43 => ?_) (fun c_43 => ?_)
    · replace c_43 : v ≤ 0 := (nI_leI (a := v) (b := 0) (by omega) (by omega)).mp c_43
      refine lv_iconst (v := 1) hx hb dX5_readsNumber_111 (by decide) ?_
      refine W.widen (k := 0) (n := 0) (by first | exact Nat.le_of_ble_eq_true rfl | omega) (by first | exact Nat.le_of_ble_eq_true rfl | omega) ?_
      exact W.zret (v := 1) hx hb hr (rfl) (fun t ht hW => ⟨⟨1, (i, nI v), rfl, Or.inr ⟨rfl, v, rfl, hv9, hai, hP9, hi, fun h => by omega⟩, ⟨by rw [ht]; exact hP, hD⟩⟩, hS.F ht⟩) hS.2.2 dX5_readsNumber_112
    · replace c_43 : ¬ v ≤ 0 := fun h => c_43 ((nI_leI (a := v) (b := 0) (by omega) (by omega)).mpr h)
      have h8 := sg_lt (by decide) htx i
      refine lv_aload_n hx hb dX5_readsNumber_46 rfl (lv_at hl 0 rfl) ?_
      refine zr_calli (va_runV (As := []) (rest := []) ⟨hx, hb, hml, hown, hts⟩ (mX5_sign l D y g th sv ln i pl (nI v) hs tx (by first | assumption | rfl | omega | decide) (by first | assumption | rfl | omega | decide) (by first | assumption | rfl | omega | decide)) (cwV 0 hts (zgV tw_454 tw_455 tw_456 tw_369 tw_451) rfl rfl rfl (by decide +kernel) ⟨Nat.le_of_ble_eq_true rfl, Nat.le_of_ble_eq_true rfl⟩) (zRO_preV hKN hP (ci := 5) (q0 := 0) rfl rfl [0, 1] rfl) rfl rfl hl.1 rfl (lv_room (Nat.le_of_ble_eq_true rfl)) dX5_readsNumber_47 ⟨Nat.zero_le _, Nat.zero_le _⟩) hS (fun r_4 H locs hw_47 hT hS => ?_)
      replace hP := hT _ _ hP
      obtain rfl : r_4 = nI (sg tx ln i) := hw_47
      refine lv_bipush (v := 48) hx hb dX5_readsNumber_50 (by decide) ?_
      refine lv_bipush (v := 57) hx hb dX5_readsNumber_52 (by decide) ?_
      refine zr_calli (va_runS (As := [.int (nI (sg tx ln i)), .int 48, .int 57]) (rest := []) ⟨hx, hb, hml, hown, hts⟩ (mX5_in l (nI (sg tx ln i)) 48 57) (va_cwS 3 hts (zgS tw_367 tw_368 tw_369 tw_364) rfl rfl rfl (by decide +kernel) ⟨Nat.le_of_ble_eq_true rfl, Nat.le_of_ble_eq_true rfl⟩) zP_pre rfl rfl hl.1 rfl (lv_room (Nat.le_of_ble_eq_true rfl)) dX5_readsNumber_54 ⟨Nat.zero_le _, Nat.zero_le _⟩) hS (fun r_5 H locs hw_54 hT hS => ?_)
      replace hP := hT _ _ hP
      obtain rfl : r_5 = (if ¬ (nI (sg tx ln i)) < 48 ∧ ¬ 57 < (nI (sg tx ln i)) then (1 : Int32) else 0) := hw_54
      refine lv_if_eq (tgt := 111) hx hb dX5_readsNumber_57 (by decide) (fun c_57 => ?_) (fun c_57 => ?_)
      · replace c_57 := zb0.mp c_57
        replace c_57 := fun h => c_57 ((zin_b (by omega)).mpr h)
        refine lv_iconst (v := 1) hx hb dX5_readsNumber_111 (by decide) ?_
        refine W.widen (k := 0) (n := 0) (by first | exact Nat.le_of_ble_eq_true rfl | omega) (by first | exact Nat.le_of_ble_eq_true rfl | omega) ?_
        exact W.zret (v := 1) hx hb hr (rfl) (fun t ht hW => ⟨⟨1, (i, nI v), rfl, Or.inr ⟨rfl, v, rfl, hv9, hai, hP9, hi, fun h => by (have h2 := sg_y (tx := tx) h.1; rw [h2] at c_57; exact c_57 h.2.2.1)⟩, ⟨by rw [ht]; exact hP, hD⟩⟩, hS.F ht⟩) hS.2.2 dX5_readsNumber_112
      · replace c_57 := zb1.mp c_57
        replace c_57 := (zin_b (by omega)).mp c_57
        have e8 : i < ln := sg_in (tx := tx) (by omega)
        have e7 := sg_y (tx := tx) e8
        refine lv_bipush (v := 10) hx hb dX5_readsNumber_60 (by decide) ?_
        refine lv_aload_n hx hb dX5_readsNumber_62 rfl (lv_at hl 0 rfl) ?_
        refine va_get (D := D) (ci := 5) (v := .int (nI v)) (C := RX5) (T := TX5) (N := 10) hx hb htg iX5 hown hK hP 0 rfl rfl 8 (by decide) (htg _ tw_458) (fun _ h9 => h9) rfl dX5_readsNumber_63 ?_
        refine lv_imul hx hb dX5_readsNumber_66 ?_
        refine zz_top (y := nI (10 * v)) (pk_mul 10 v) ?_
        refine lv_aload_n hx hb dX5_readsNumber_67 rfl (lv_at hl 0 rfl) ?_
        refine zr_calli (va_runV (As := []) (rest := [.int (nI (10 * v))]) ⟨hx, hb, hml, hown, hts⟩ (mX5_sign l D y g th sv ln i pl (nI v) hs tx (by first | assumption | rfl | omega | decide) (by first | assumption | rfl | omega | decide) (by first | assumption | rfl | omega | decide)) (cwV 0 hts (zgV tw_454 tw_455 tw_456 tw_369 tw_451) rfl rfl rfl (by decide +kernel) ⟨Nat.le_of_ble_eq_true rfl, Nat.le_of_ble_eq_true rfl⟩) (zRO_preV hKN hP (ci := 5) (q0 := 0) rfl rfl [0, 1] rfl) rfl rfl hl.1 rfl (lv_room (Nat.le_of_ble_eq_true rfl)) dX5_readsNumber_68 ⟨Nat.zero_le _, Nat.zero_le _⟩) hS (fun r_6 H locs hw_68 hT hS => ?_)
        replace hP := hT _ _ hP
        obtain rfl : r_6 = nI (sg tx ln i) := hw_68
        refine lv_iadd hx hb dX5_readsNumber_71 ?_
        refine zz_top (y := nI ((10 * v) + (sg tx ln i))) (nI_add (10 * v) (sg tx ln i)) ?_
        refine lv_bipush (v := 48) hx hb dX5_readsNumber_72 (by decide) ?_
        refine lv_isub hx hb dX5_readsNumber_74 ?_
        refine zz_top (y := nI (10 * v + sg tx ln i - 48)) (pk_sub (a := 10 * v + sg tx ln i) (b := 48) (by omega)) ?_
        refine lv_iload_n hx hb dX5_readsNumber_75 rfl (lv_at hl 2 rfl) ?_
        refine lv_icmp_gt (tgt := 111) hx hb dX5_readsNumber_76 (by decide) (fun c_76 => ?_) (fun c_76 => ?_)
        · replace c_76 : hi9 < (10 * v + sg tx ln i - 48) := (nI_ltI (a := hi9) (b := (10 * v + sg tx ln i - 48)) (by omega) (by omega)).mp c_76
          refine lv_iconst (v := 1) hx hb dX5_readsNumber_111 (by decide) ?_
          refine W.widen (k := 0) (n := 0) (by first | exact Nat.le_of_ble_eq_true rfl | omega) (by first | exact Nat.le_of_ble_eq_true rfl | omega) ?_
          exact W.zret (v := 1) hx hb hr (rfl) (fun t ht hW => ⟨⟨1, (i, nI v), rfl, Or.inr ⟨rfl, v, rfl, hv9, hai, hP9, hi, fun h => by (have h2 := sg_y (tx := tx) h.1; rw [h2] at c_76; omega)⟩, ⟨by rw [ht]; exact hP, hD⟩⟩, hS.F ht⟩) hS.2.2 dX5_readsNumber_112
        · replace c_76 : ¬ hi9 < (10 * v + sg tx ln i - 48) := fun h => c_76 ((nI_ltI (a := hi9) (b := (10 * v + sg tx ln i - 48)) (by omega) (by omega)).mpr h)
          refine lv_aload_n hx hb dX5_readsNumber_79 rfl (lv_at hl 0 rfl) ?_
          refine lv_bipush (v := 10) hx hb dX5_readsNumber_80 (by decide) ?_
          refine lv_aload_n hx hb dX5_readsNumber_82 rfl (lv_at hl 0 rfl) ?_
          refine va_get (D := D) (ci := 5) (v := .int (nI v)) (C := RX5) (T := TX5) (N := 10) hx hb htg iX5 hown hK hP 0 rfl rfl 8 (by decide) (htg _ tw_458) (fun _ h9 => h9) rfl dX5_readsNumber_83 ?_
          refine lv_imul hx hb dX5_readsNumber_86 ?_
          refine zz_top (y := nI (10 * v)) (pk_mul 10 v) ?_
          refine lv_aload_n hx hb dX5_readsNumber_87 rfl (lv_at hl 0 rfl) ?_
          refine zr_calli (va_runV (As := []) (rest := [.int (nI (10 * v)), .ref (g 0)]) ⟨hx, hb, hml, hown, hts⟩ (mX5_sign l D y g th sv ln i pl (nI v) hs tx (by first | assumption | rfl | omega | decide) (by first | assumption | rfl | omega | decide) (by first | assumption | rfl | omega | decide)) (cwV 0 hts (zgV tw_454 tw_455 tw_456 tw_369 tw_451) rfl rfl rfl (by decide +kernel) ⟨Nat.le_of_ble_eq_true rfl, Nat.le_of_ble_eq_true rfl⟩) (zRO_preV hKN hP (ci := 5) (q0 := 0) rfl rfl [0, 1] rfl) rfl rfl hl.1 rfl (lv_room (Nat.le_of_ble_eq_true rfl)) dX5_readsNumber_88 ⟨Nat.zero_le _, Nat.zero_le _⟩) hS (fun r_7 H locs hw_88 hT hS => ?_)
          replace hP := hT _ _ hP
          obtain rfl : r_7 = nI (sg tx ln i) := hw_88
          refine lv_iadd hx hb dX5_readsNumber_91 ?_
          refine zz_top (y := nI ((10 * v) + (sg tx ln i))) (nI_add (10 * v) (sg tx ln i)) ?_
          refine lv_bipush (v := 48) hx hb dX5_readsNumber_92 (by decide) ?_
          refine lv_isub hx hb dX5_readsNumber_94 ?_
          refine zz_top (y := nI (10 * v + sg tx ln i - 48)) (pk_sub (a := 10 * v + sg tx ln i) (b := 48) (by omega)) ?_
          refine va_put (D := D) (ci := 5) (v := .int (nI (10 * v + sg tx ln i - 48))) (ty := .int) (C := RX5) (T := TX5) (N := 10) hx hb htg iX5 tyX5 tyX5_ok nmX5 hown hK hP hD hS 0 rfl rfl 8 (by decide) (htg _ tw_458) (fun _ h9 => h9) rfl (tyX5_ok 8 (by decide)) (rfl) (rfl) (Nat.le_of_ble_eq_true rfl) dX5_readsNumber_95 (fun H locs hP hD hS => ?_)
          have hP : va_P D vwCl [((g 0), .inr (5, [.int th, .ref (g 1), .int (nI sv), .ref (g 2), .ref (g 3), .int (nI ln), .int (nI i), .int (nI pl), .int (nI (10 * v + sg tx ln i - 48)), .long hs])), ((g 3), .inl (y 0, 60, .inl (zX tx)))] H := hP
          have hD : va_D A [((g 0), .inr (5, [.int th, .ref (g 1), .int (nI sv), .ref (g 2), .ref (g 3), .int (nI ln), .int (nI i), .int (nI pl), .int (nI (10 * v + sg tx ln i - 48)), .long hs])), ((g 3), .inl (y 0, 60, .inl (zX tx)))] := hD
          refine lv_aload_n hx hb dX5_readsNumber_98 rfl (lv_at hl 0 rfl) ?_
          refine lv_dup hx hb dX5_readsNumber_99 rfl ?_
          refine va_get (D := D) (ci := 5) (v := .int (nI i)) (C := RX5) (T := TX5) (N := 10) hx hb htg iX5 hown hK hP 0 rfl rfl 6 (by decide) (htg _ tw_452) (fun _ h9 => h9) rfl dX5_readsNumber_100 ?_
          refine lv_iconst (v := 1) hx hb dX5_readsNumber_103 (by decide) ?_
          refine lv_iadd hx hb dX5_readsNumber_104 ?_
          refine zz_top (y := nI (i + 1)) (nI_add i 1) ?_
          refine va_put (D := D) (ci := 5) (v := .int (nI (i + 1))) (ty := .int) (C := RX5) (T := TX5) (N := 10) hx hb htg iX5 tyX5 tyX5_ok nmX5 hown hK hP hD hS 0 rfl rfl 6 (by decide) (htg _ tw_452) (fun _ h9 => h9) rfl (tyX5_ok 6 (by decide)) (rfl) (rfl) (Nat.le_of_ble_eq_true rfl) dX5_readsNumber_105 (fun H locs hP hD hS => ?_)
          have hP : va_P D vwCl [((g 0), .inr (5, [.int th, .ref (g 1), .int (nI sv), .ref (g 2), .ref (g 3), .int (nI ln), .int (nI (i + 1)), .int (nI pl), .int (nI (10 * v + sg tx ln i - 48)), .long hs])), ((g 3), .inl (y 0, 60, .inl (zX tx)))] H := hP
          have hD : va_D A [((g 0), .inr (5, [.int th, .ref (g 1), .int (nI sv), .ref (g 2), .ref (g 3), .int (nI ln), .int (nI (i + 1)), .int (nI pl), .int (nI (10 * v + sg tx ln i - 48)), .long hs])), ((g 3), .inl (y 0, 60, .inl (zX tx)))] := hD
          refine lv_goto (tgt := 39) hx hb dX5_readsNumber_108 (by decide) ?_
          exact ih39 (i + 1) _ _ _ (by omega) ⟨10 * v + sg tx ln i - 48, by omega, by omega, by omega, by rw [show 10 * v + sg tx ln i - 48 = 10 * v + (tx i - 48) by omega]; exact hs1 i v hP9 e8 (by omega) (by omega) (by omega), hP, hD, hS, lv_sub hl [0, 1, 2] rfl⟩
  · replace c_13 := zb0.mp c_13
    replace c_13 := fun h => c_13 ((zin_a (by omega) hlo).mpr h)
    refine lv_iconst (v := 0) hx hb dX5_readsNumber_16 (by decide) ?_
    refine W.widen (k := 0) (n := 0) (by first | exact Nat.le_of_ble_eq_true rfl | omega) (by first | exact Nat.le_of_ble_eq_true rfl | omega) ?_
    exact W.zret (v := 0) hx hb hr (rfl) (fun t ht hW => ⟨⟨0, (at9, va), rfl, Or.inl ⟨rfl, rfl, rfl, fun h => c_13 h⟩, ⟨by rw [ht]; exact hP, hD⟩⟩, hS.F ht⟩) hS.2.2 dX5_readsNumber_17

set_option maxHeartbeats 4000000 in
set_option maxRecDepth 100000 in
theorem mX5_readsReading (l : Launch) (D : va_G) (y : Nat → ClassId) (sz : Nat) (g : Nat → Nat) (th : Int32) (sv : Nat) (ln : Nat) (at9 : Nat) (pl : Nat) (va : Int32) (hs : Int64) (tx : (Nat → Nat)) (hn : ln ≤ 60) (htx : ∀ i : Nat, i < ln → tx i < 127) (hat : at9 ≤ ln) (hz : zAt tx at9) (h0 : rRun tx z0 at9 0 = 0) : Met l yX5_readsReading (ws_ yX5_readsReading cX5_readsReading 6 (some .boolean)) ({ frames := 2, cells := 0, slots := 0, locals := 44 }) (va_Pc [.ref (g 0)] (zRW D y [((g 0), .inr (5, [.int th, .ref (g 1), .int (nI sv), .ref (g 2), .ref (g 3), .int (nI ln), .int (nI at9), .int (nI pl), .int va, .long hs])), ((g 3), .inl (y 0, 60, .inl (zX tx)))] sz)) (va_Qi (fun (r : Int32) (u : (Nat × Nat × Int32)) => (r = 0 ∧ zBad tx ln u.1) ∨ (r = 1 ∧ zGot tx ln at9 u.1 u.2.1 u.2.2)) (fun (u : (Nat × Nat × Int32)) t => zOut D (va_A [((g 0), .inr (5, [.int th, .ref (g 1), .int (nI sv), .ref (g 2), .ref (g 3), .int (nI ln), .int (nI at9), .int (nI pl), .int va, .long hs])), ((g 3), .inl (y 0, 60, .inl (zX tx)))] sz) [((g 0), .inr (5, [.int th, .ref (g 1), .int (nI sv), .ref (g 2), .ref (g 3), .int (nI ln), .int (nI u.1), .int (nI u.2.1), .int u.2.2, .long hs])), ((g 3), .inl (y 0, 60, .inl (zX tx)))] t) (va_A [((g 0), .inr (5, [.int th, .ref (g 1), .int (nI sv), .ref (g 2), .ref (g 3), .int (nI ln), .int (nI at9), .int (nI pl), .int va, .long hs])), ((g 3), .inl (y 0, 60, .inl (zX tx)))] sz)) 0 0 (va_A [((g 0), .inr (5, [.int th, .ref (g 1), .int (nI sv), .ref (g 2), .ref (g 3), .int (nI ln), .int (nI at9), .int (nI pl), .int va, .long hs])), ((g 3), .inl (y 0, 60, .inl (zX tx)))] sz) := by
  refine Met.ofW (cc := cX5_readsReading) (maxL := 6) (ret := (some .boolean)) (by decide) rfl ?_
  intro p e s m args below meth c s₁ B hml hpre9
  obtain ⟨rfl, hsz, hP, hKN, hD0⟩ := hpre9
  have hK := hKN.1
  have hx := B.exec
  have hb := B.bytes
  have hr := B.returns
  have hts := atoms_spec (ws := (ws_ yX5_readsReading cX5_readsReading 6 (some .boolean))) B.pre
  have htg : ∀ w ∈ gT, w.before _ s = true := fun w h => hts w (List.mem_cons_of_mem _ h)
  have hown : s.vm.findClass RX5 = some m.cls := findClass_of_methodNamed B.named
  have hlocks := B.notSynchronized
  subst hsz
  have hD := hD0.self (sz := s.heap.size)
  clear hD0
  generalize hAe : va_A [((g 0), .inr (5, [.int th, .ref (g 1), .int (nI sv), .ref (g 2), .ref (g 3), .int (nI ln), .int (nI at9), .int (nI pl), .int va, .long hs])), ((g 3), .inl (y 0, 60, .inl (zX tx)))] s.heap.size = A at hD ⊢
  have hA : ∀ q : Nat, s.heap.size ≤ q → A q := fun q h => by rw [← hAe]; exact Or.inr h
  have hS : va_S A s.heap s.heap [] := va_S.rf
  have hP : va_P D vwCl [((g 0), .inr (5, [.int th, .ref (g 1), .int (nI sv), .ref (g 2), .ref (g 3), .int (nI ln), .int (nI at9), .int (nI pl), .int va, .long hs])), ((g 3), .inl (y 0, 60, .inl (zX tx)))] s.heap := hP
  have hl := lv_entry ([.ref (g 0)]) (n := 6) (Nat.le_of_ble_eq_true rfl)
  rw [lg_entry_eq]
  generalize (lg_sl ([.ref (g 0)]) ++ List.replicate (6 - (lg_sl ([.ref (g 0)])).length) Slot.unset).toArray = ls at hl ⊢
  have hl : lv_has ls 6 [(0, .ref (g 0))] := hl
  refine lv_aload_n hx hb dX5_readsReading_0 rfl (lv_at hl 0 rfl) ?_
  refine lv_iconst (v := 0) hx hb dX5_readsReading_1 (by decide) ?_
  refine lv_bipush (v := 15) hx hb dX5_readsReading_2 (by decide) ?_
  refine zw_calli (wr := []) (w1 := (fun u : (Nat × Int32) => [((g 0), .inr (5, [.int th, .ref (g 1), .int (nI sv), .ref (g 2), .ref (g 3), .int (nI ln), .int (nI u.1), .int (nI pl), .int u.2, .long hs])), ((g 3), .inl (y 0, 60, .inl (zX tx)))])) hP hD hS hA [0, 1] [] rfl rfl (by decide +kernel) (by decide +kernel) (va_runV (As := [.int 0, .int 15]) (rest := []) ⟨hx, hb, hml, hown, hts⟩ (mX5_readsNumber l D y _ g th sv ln at9 pl va hs tx (fun b v => zQ tx ln at9 b 1 v 0 0 0 0) 0 15 (by first | assumption | rfl | omega | decide) (by first | assumption | rfl | omega | decide) (by first | assumption | rfl | omega | decide) (by first | assumption | rfl | omega | decide) (by first | assumption | rfl | omega | decide) (fun h1 h2 h3 => zQ_01 (zQ_0 (l := 0) hz hat h0) h1 ⟨by omega, h3⟩) (fun b v h1 h2 h3 h4 h5 => zQ_11 h1 h2 h4 h3 h5)) (cwV 2 hts (zgV tw_461 tw_462 tw_463 tw_369 tw_457) rfl rfl rfl (by decide +kernel) ⟨Nat.le_of_ble_eq_true rfl, Nat.le_of_ble_eq_true rfl⟩) (zRW_preV hKN hP hD (ci := 5) (q0 := 0) rfl rfl [0, 1] rfl (by decide)) rfl rfl hl.1 rfl (lv_room (Nat.le_of_ble_eq_true rfl)) dX5_readsReading_4 ⟨Nat.zero_le _, Nat.zero_le _⟩) (fun r_1 u_2 H locs hw_4 hP hD hS => ?_)
  have hP : va_P D vwCl [((g 0), .inr (5, [.int th, .ref (g 1), .int (nI sv), .ref (g 2), .ref (g 3), .int (nI ln), .int (nI u_2.1), .int (nI pl), .int u_2.2, .long hs])), ((g 3), .inl (y 0, 60, .inl (zX tx)))] H := hP
  have hD : va_D A [((g 0), .inr (5, [.int th, .ref (g 1), .int (nI sv), .ref (g 2), .ref (g 3), .int (nI ln), .int (nI u_2.1), .int (nI pl), .int u_2.2, .long hs])), ((g 3), .inl (y 0, 60, .inl (zX tx)))] := hD
  try dsimp only at hw_4
  rcases hw_4 with ⟨er1, ea1, ev1, en1⟩ | ⟨er1, v1, ev1, hv1, hlt1, hP1, hle1, hno1⟩
  · refine zz_top (y := 0) er1 ?_
    rw [ea1] at hP hD
    have hP : va_P D vwCl [((g 0), .inr (5, [.int th, .ref (g 1), .int (nI sv), .ref (g 2), .ref (g 3), .int (nI ln), .int (nI at9), .int (nI pl), .int u_2.2, .long hs])), ((g 3), .inl (y 0, 60, .inl (zX tx)))] H := hP
    have hD : va_D A [((g 0), .inr (5, [.int th, .ref (g 1), .int (nI sv), .ref (g 2), .ref (g 3), .int (nI ln), .int (nI at9), .int (nI pl), .int u_2.2, .long hs])), ((g 3), .inl (y 0, 60, .inl (zX tx)))] := hD
    refine lv_if_ne (tgt := 12) hx hb dX5_readsReading_7 (by decide) (fun c_7 => absurd (by decide) c_7) (fun _ => ?_)
    refine lv_iconst (v := 0) hx hb dX5_readsReading_10 (by decide) ?_
    refine W.widen (k := 0) (n := 0) (by first | exact Nat.le_of_ble_eq_true rfl | omega) (by first | exact Nat.le_of_ble_eq_true rfl | omega) ?_
    exact W.zret (v := 0) hx hb hr (rfl) (fun t ht hW => ⟨⟨0, (at9, pl, u_2.2), rfl, Or.inl ⟨rfl, show zBad tx ln (at9) from zQ_f0 (zQ_0 (l := 0) (o := 0) (f := 0) (w := 0) (v := 0) hz hat h0) (fun h => en1 ⟨by omega, by omega⟩)⟩, ⟨by rw [ht]; exact hP, hD⟩⟩, hS.F ht⟩) hS.2.2 dX5_readsReading_11
  · refine zz_top (y := 1) er1 ?_
    rw [ev1] at hP hD
    have hP : va_P D vwCl [((g 0), .inr (5, [.int th, .ref (g 1), .int (nI sv), .ref (g 2), .ref (g 3), .int (nI ln), .int (nI u_2.1), .int (nI pl), .int (nI v1), .long hs])), ((g 3), .inl (y 0, 60, .inl (zX tx)))] H := hP
    have hD : va_D A [((g 0), .inr (5, [.int th, .ref (g 1), .int (nI sv), .ref (g 2), .ref (g 3), .int (nI ln), .int (nI u_2.1), .int (nI pl), .int (nI v1), .long hs])), ((g 3), .inl (y 0, 60, .inl (zX tx)))] := hD
    refine lv_if_ne (tgt := 12) hx hb dX5_readsReading_7 (by decide) (fun _ => ?_) (fun c_7 => absurd c_7 (by decide))
    refine lv_aload_n hx hb dX5_readsReading_12 rfl (lv_at hl 0 rfl) ?_
    refine va_get (D := D) (ci := 5) (v := .int (nI v1)) (C := RX5) (T := TX5) (N := 10) hx hb htg iX5 hown hK hP 0 rfl rfl 8 (by decide) (htg _ tw_458) (fun _ h9 => h9) rfl dX5_readsReading_13 ?_
    refine lv_istore_n (lv' := [(1, .int (nI v1)), (0, .ref (g 0))]) hx hb dX5_readsReading_16 rfl hl (by decide) rfl (fun ls hl => ?_)
    refine lv_aload_n hx hb dX5_readsReading_17 rfl (lv_at hl 1 rfl) ?_
    refine zr_calli (va_runV (As := []) (rest := []) ⟨hx, hb, hml, hown, hts⟩ (mX5_sign l D y g th sv ln u_2.1 pl (nI v1) hs tx (by first | assumption | rfl | omega | decide) (by first | assumption | rfl | omega | decide) (by first | assumption | rfl | omega | decide)) (cwV 0 hts (zgV tw_454 tw_455 tw_456 tw_369 tw_451) rfl rfl rfl (by decide +kernel) ⟨Nat.le_of_ble_eq_true rfl, Nat.le_of_ble_eq_true rfl⟩) (zRO_preV hKN hP (ci := 5) (q0 := 0) rfl rfl [0, 1] rfl) rfl rfl hl.1 rfl (lv_room (Nat.le_of_ble_eq_true rfl)) dX5_readsReading_18 ⟨Nat.zero_le _, Nat.zero_le _⟩) hS (fun r_3 H locs hw_18 hT hS => ?_)
    replace hP := hT _ _ hP
    obtain rfl : r_3 = nI (sg tx ln u_2.1) := hw_18
    refine lv_bipush (v := 98) hx hb dX5_readsReading_21 (by decide) ?_
    have h23 := sg_lt (tx := tx) (by decide) htx (u_2.1)
    refine lv_icmp_ne (tgt := 30) hx hb dX5_readsReading_23 (by decide) (fun c_23 => ?_) (fun c_23 => ?_)
    · replace c_23 : ¬ (sg tx ln u_2.1) = 98 := fun h => c_23 ((nI_eq (a := (sg tx ln u_2.1)) (b := 98) (by omega) (by omega)).mpr h)
      refine lv_iconst (v := 0) hx hb dX5_readsReading_30 (by decide) ?_
      refine lv_istore_n (lv' := [(2, .int 0), (1, .int (nI v1)), (0, .ref (g 0))]) hx hb dX5_readsReading_31 rfl hl (by decide) rfl (fun ls hl => ?_)
      refine lv_aload_n hx hb dX5_readsReading_32 rfl (lv_at hl 2 rfl) ?_
      refine lv_bipush (v := 97) hx hb dX5_readsReading_33 (by decide) ?_
      refine zw_calli (wr := []) (w1 := (fun _ : Unit => [((g 0), .inr (5, [.int th, .ref (g 1), .int (nI sv), .ref (g 2), .ref (g 3), .int (nI ln), .int (nI (u_2.1 + (if sg tx ln u_2.1 = 97 then 1 else 0))), .int (nI pl), .int (nI v1), .long hs])), ((g 3), .inl (y 0, 60, .inl (zX tx)))])) hP hD hS hA [0, 1] [] rfl rfl (by decide +kernel) (by decide +kernel) (va_runV (As := [.int 97]) (rest := []) ⟨hx, hb, hml, hown, hts⟩ (mX5_takes l D y _ g th sv ln u_2.1 pl (nI v1) hs tx 97 (by first | assumption | rfl | omega | decide) (by first | assumption | rfl | omega | decide) (by first | assumption | rfl | omega | decide) (by first | assumption | rfl | omega | decide)) (cwV 1 hts (zgV tw_464 tw_465 tw_466 tw_369 tw_453) rfl rfl rfl (by decide +kernel) ⟨Nat.le_of_ble_eq_true rfl, Nat.le_of_ble_eq_true rfl⟩) (zRW_preV hKN hP hD (ci := 5) (q0 := 0) rfl rfl [0, 1] rfl (by decide)) rfl rfl hl.1 rfl (lv_room (Nat.le_of_ble_eq_true rfl)) dX5_readsReading_35 ⟨Nat.zero_le _, Nat.zero_le _⟩) (fun r_4 u_5 H locs hw_35 hP hD hS => ?_)
      have hP : va_P D vwCl [((g 0), .inr (5, [.int th, .ref (g 1), .int (nI sv), .ref (g 2), .ref (g 3), .int (nI ln), .int (nI (u_2.1 + (if sg tx ln u_2.1 = 97 then 1 else 0))), .int (nI pl), .int (nI v1), .long hs])), ((g 3), .inl (y 0, 60, .inl (zX tx)))] H := hP
      have hD : va_D A [((g 0), .inr (5, [.int th, .ref (g 1), .int (nI sv), .ref (g 2), .ref (g 3), .int (nI ln), .int (nI (u_2.1 + (if sg tx ln u_2.1 = 97 then 1 else 0))), .int (nI pl), .int (nI v1), .long hs])), ((g 3), .inl (y 0, 60, .inl (zX tx)))] := hD
      obtain rfl : r_4 = (if sg tx ln u_2.1 = 97 then (1 : Int32) else 0) := hw_35
      refine lv_if_ne (tgt := 52) hx hb dX5_readsReading_38 (by decide) (fun c_38 => ?_) (fun c_38 => ?_)
      · replace c_38 := zb1.mp c_38
        rw [if_pos c_38] at hP hD
        have hP : va_P D vwCl [((g 0), .inr (5, [.int th, .ref (g 1), .int (nI sv), .ref (g 2), .ref (g 3), .int (nI ln), .int (nI (u_2.1 + 1)), .int (nI pl), .int (nI v1), .long hs])), ((g 3), .inl (y 0, 60, .inl (zX tx)))] H := hP
        have hD : va_D A [((g 0), .inr (5, [.int th, .ref (g 1), .int (nI sv), .ref (g 2), .ref (g 3), .int (nI ln), .int (nI (u_2.1 + 1)), .int (nI pl), .int (nI v1), .long hs])), ((g 3), .inl (y 0, 60, .inl (zX tx)))] := hD
        have e1 : u_2.1 < ln := sg_in (tx := tx) (by omega)
        have e2 := sg_y (tx := tx) e1
        have hQ2 := zQ_12 (o' := 0) hP1 e1 (by decide) (by omega)
        refine lv_aload_n hx hb dX5_readsReading_52 rfl (lv_at hl 2 rfl) ?_
        refine zr_calli (va_runV (As := []) (rest := []) ⟨hx, hb, hml, hown, hts⟩ (mX5_sign l D y g th sv ln (u_2.1 + 1) pl (nI v1) hs tx (by first | assumption | rfl | omega | decide) (by first | assumption | rfl | omega | decide) (by first | assumption | rfl | omega | decide)) (cwV 0 hts (zgV tw_454 tw_455 tw_456 tw_369 tw_451) rfl rfl rfl (by decide +kernel) ⟨Nat.le_of_ble_eq_true rfl, Nat.le_of_ble_eq_true rfl⟩) (zRO_preV hKN hP (ci := 5) (q0 := 0) rfl rfl [0, 1] rfl) rfl rfl hl.1 rfl (lv_room (Nat.le_of_ble_eq_true rfl)) dX5_readsReading_53 ⟨Nat.zero_le _, Nat.zero_le _⟩) hS (fun r_6 H locs hw_53 hT hS => ?_)
        replace hP := hT _ _ hP
        obtain rfl : r_6 = nI (sg tx ln (u_2.1 + 1)) := hw_53
        refine lv_bipush (v := 45) hx hb dX5_readsReading_56 (by decide) ?_
        have h58 := sg_lt (tx := tx) (by decide) htx (u_2.1 + 1)
        refine lv_icmp_ne (tgt := 65) hx hb dX5_readsReading_58 (by decide) (fun c_58 => ?_) (fun c_58 => ?_)
        · replace c_58 : ¬ (sg tx ln (u_2.1 + 1)) = 45 := fun h => c_58 ((nI_eq (a := (sg tx ln (u_2.1 + 1))) (b := 45) (by omega) (by omega)).mpr h)
          refine lv_iconst (v := 0) hx hb dX5_readsReading_65 (by decide) ?_
          refine lv_istore_n (lv' := [(3, .int 0), (2, .int 0), (1, .int (nI v1)), (0, .ref (g 0))]) hx hb dX5_readsReading_66 rfl hl (by decide) rfl (fun ls hl => ?_)
          refine lv_aload_n hx hb dX5_readsReading_67 rfl (lv_at hl 3 rfl) ?_
          refine lv_bipush (v := 43) hx hb dX5_readsReading_68 (by decide) ?_
          refine zw_calli (wr := []) (w1 := (fun _ : Unit => [((g 0), .inr (5, [.int th, .ref (g 1), .int (nI sv), .ref (g 2), .ref (g 3), .int (nI ln), .int (nI (u_2.1 + 1 + (if sg tx ln (u_2.1 + 1) = 43 then 1 else 0))), .int (nI pl), .int (nI v1), .long hs])), ((g 3), .inl (y 0, 60, .inl (zX tx)))])) hP hD hS hA [0, 1] [] rfl rfl (by decide +kernel) (by decide +kernel) (va_runV (As := [.int 43]) (rest := []) ⟨hx, hb, hml, hown, hts⟩ (mX5_takes l D y _ g th sv ln (u_2.1 + 1) pl (nI v1) hs tx 43 (by first | assumption | rfl | omega | decide) (by first | assumption | rfl | omega | decide) (by first | assumption | rfl | omega | decide) (by first | assumption | rfl | omega | decide)) (cwV 1 hts (zgV tw_464 tw_465 tw_466 tw_369 tw_453) rfl rfl rfl (by decide +kernel) ⟨Nat.le_of_ble_eq_true rfl, Nat.le_of_ble_eq_true rfl⟩) (zRW_preV hKN hP hD (ci := 5) (q0 := 0) rfl rfl [0, 1] rfl (by decide)) rfl rfl hl.1 rfl (lv_room (Nat.le_of_ble_eq_true rfl)) dX5_readsReading_70 ⟨Nat.zero_le _, Nat.zero_le _⟩) (fun r_7 u_8 H locs hw_70 hP hD hS => ?_)
          have hP : va_P D vwCl [((g 0), .inr (5, [.int th, .ref (g 1), .int (nI sv), .ref (g 2), .ref (g 3), .int (nI ln), .int (nI (u_2.1 + 1 + (if sg tx ln (u_2.1 + 1) = 43 then 1 else 0))), .int (nI pl), .int (nI v1), .long hs])), ((g 3), .inl (y 0, 60, .inl (zX tx)))] H := hP
          have hD : va_D A [((g 0), .inr (5, [.int th, .ref (g 1), .int (nI sv), .ref (g 2), .ref (g 3), .int (nI ln), .int (nI (u_2.1 + 1 + (if sg tx ln (u_2.1 + 1) = 43 then 1 else 0))), .int (nI pl), .int (nI v1), .long hs])), ((g 3), .inl (y 0, 60, .inl (zX tx)))] := hD
          obtain rfl : r_7 = (if sg tx ln (u_2.1 + 1) = 43 then (1 : Int32) else 0) := hw_70
          refine lv_if_ne (tgt := 87) hx hb dX5_readsReading_73 (by decide) (fun c_73 => ?_) (fun c_73 => ?_)
          · replace c_73 := zb1.mp c_73
            rw [if_pos c_73] at hP hD
            have hP : va_P D vwCl [((g 0), .inr (5, [.int th, .ref (g 1), .int (nI sv), .ref (g 2), .ref (g 3), .int (nI ln), .int (nI (u_2.1 + 1 + 1)), .int (nI pl), .int (nI v1), .long hs])), ((g 3), .inl (y 0, 60, .inl (zX tx)))] H := hP
            have hD : va_D A [((g 0), .inr (5, [.int th, .ref (g 1), .int (nI sv), .ref (g 2), .ref (g 3), .int (nI ln), .int (nI (u_2.1 + 1 + 1)), .int (nI pl), .int (nI v1), .long hs])), ((g 3), .inl (y 0, 60, .inl (zX tx)))] := hD
            have e3 : u_2.1 + 1 < ln := sg_in (tx := tx) (by omega)
            have e4 := sg_y (tx := tx) e3
            have hQ3 := zQ_23 (f' := 0) hQ2 e3 (by decide) (by omega)
            refine lv_aload_n hx hb dX5_readsReading_87 rfl (lv_at hl 3 rfl) ?_
            refine lv_iload_n hx hb dX5_readsReading_88 rfl (lv_at hl 2 rfl) ?_
            refine lv_iload_n hx hb dX5_readsReading_89 rfl (lv_at hl 1 rfl) ?_
            refine lv_if_eq (tgt := 97) hx hb dX5_readsReading_90 (by decide) (fun _ => ?_) (fun c_90 => absurd (by decide) c_90)
            refine lv_iconst (v := 0) hx hb dX5_readsReading_97 (by decide) ?_
            refine lv_iload_n hx hb dX5_readsReading_98 rfl (lv_at hl 0 rfl) ?_
            refine lv_if_eq (tgt := 106) hx hb dX5_readsReading_99 (by decide) (fun _ => ?_) (fun c_99 => absurd (by decide) c_99)
            refine lv_iconst (v := 0) hx hb dX5_readsReading_106 (by decide) ?_
            refine zr_calli (va_runS (As := [.int (nI v1), .int 0, .int 0]) (rest := [.ref (g 0)]) ⟨hx, hb, hml, hown, hts⟩ (mX5_placeOf l v1 0 0) (va_cwS 3 hts (zgS tw_388 tw_389 tw_369 tw_386) rfl rfl rfl (by decide +kernel) ⟨Nat.le_of_ble_eq_true rfl, Nat.le_of_ble_eq_true rfl⟩) zP_pre rfl rfl hl.1 rfl (lv_room (Nat.le_of_ble_eq_true rfl)) dX5_readsReading_107 ⟨Nat.zero_le _, Nat.zero_le _⟩) hS (fun r_9 H locs hw_107 hT hS => ?_)
            replace hP := hT _ _ hP
            obtain rfl : r_9 = nI (1 + 4 * v1 + 2 * 0 + 0) := hw_107
            refine va_put (D := D) (ci := 5) (v := .int (nI (1 + 4 * v1 + 2 * 0 + 0))) (ty := .int) (C := RX5) (T := TX5) (N := 10) hx hb htg iX5 tyX5 tyX5_ok nmX5 hown hK hP hD hS 0 rfl rfl 7 (by decide) (htg _ tw_460) (fun _ h9 => h9) rfl (tyX5_ok 7 (by decide)) (rfl) (rfl) (Nat.le_of_ble_eq_true rfl) dX5_readsReading_110 (fun H locs hP hD hS => ?_)
            have hP : va_P D vwCl [((g 0), .inr (5, [.int th, .ref (g 1), .int (nI sv), .ref (g 2), .ref (g 3), .int (nI ln), .int (nI (u_2.1 + 1 + 1)), .int (nI (1 + 4 * v1 + 2 * 0 + 0)), .int (nI v1), .long hs])), ((g 3), .inl (y 0, 60, .inl (zX tx)))] H := hP
            have hD : va_D A [((g 0), .inr (5, [.int th, .ref (g 1), .int (nI sv), .ref (g 2), .ref (g 3), .int (nI ln), .int (nI (u_2.1 + 1 + 1)), .int (nI (1 + 4 * v1 + 2 * 0 + 0)), .int (nI v1), .long hs])), ((g 3), .inl (y 0, 60, .inl (zX tx)))] := hD
            refine lv_aload_n hx hb dX5_readsReading_113 rfl (lv_at hl 3 rfl) ?_
            refine lv_bipush (v := 61) hx hb dX5_readsReading_114 (by decide) ?_
            refine zw_calli (wr := []) (w1 := (fun _ : Unit => [((g 0), .inr (5, [.int th, .ref (g 1), .int (nI sv), .ref (g 2), .ref (g 3), .int (nI ln), .int (nI (u_2.1 + 1 + 1 + (if sg tx ln (u_2.1 + 1 + 1) = 61 then 1 else 0))), .int (nI (1 + 4 * v1 + 2 * 0 + 0)), .int (nI v1), .long hs])), ((g 3), .inl (y 0, 60, .inl (zX tx)))])) hP hD hS hA [0, 1] [] rfl rfl (by decide +kernel) (by decide +kernel) (va_runV (As := [.int 61]) (rest := []) ⟨hx, hb, hml, hown, hts⟩ (mX5_takes l D y _ g th sv ln (u_2.1 + 1 + 1) (1 + 4 * v1 + 2 * 0 + 0) (nI v1) hs tx 61 (by first | assumption | rfl | omega | decide) (by first | assumption | rfl | omega | decide) (by first | assumption | rfl | omega | decide) (by first | assumption | rfl | omega | decide)) (cwV 1 hts (zgV tw_464 tw_465 tw_466 tw_369 tw_453) rfl rfl rfl (by decide +kernel) ⟨Nat.le_of_ble_eq_true rfl, Nat.le_of_ble_eq_true rfl⟩) (zRW_preV hKN hP hD (ci := 5) (q0 := 0) rfl rfl [0, 1] rfl (by decide)) rfl rfl hl.1 rfl (lv_room (Nat.le_of_ble_eq_true rfl)) dX5_readsReading_116 ⟨Nat.zero_le _, Nat.zero_le _⟩) (fun r_10 u_11 H locs hw_116 hP hD hS => ?_)
            have hP : va_P D vwCl [((g 0), .inr (5, [.int th, .ref (g 1), .int (nI sv), .ref (g 2), .ref (g 3), .int (nI ln), .int (nI (u_2.1 + 1 + 1 + (if sg tx ln (u_2.1 + 1 + 1) = 61 then 1 else 0))), .int (nI (1 + 4 * v1 + 2 * 0 + 0)), .int (nI v1), .long hs])), ((g 3), .inl (y 0, 60, .inl (zX tx)))] H := hP
            have hD : va_D A [((g 0), .inr (5, [.int th, .ref (g 1), .int (nI sv), .ref (g 2), .ref (g 3), .int (nI ln), .int (nI (u_2.1 + 1 + 1 + (if sg tx ln (u_2.1 + 1 + 1) = 61 then 1 else 0))), .int (nI (1 + 4 * v1 + 2 * 0 + 0)), .int (nI v1), .long hs])), ((g 3), .inl (y 0, 60, .inl (zX tx)))] := hD
            obtain rfl : r_10 = (if sg tx ln (u_2.1 + 1 + 1) = 61 then (1 : Int32) else 0) := hw_116
            refine lv_if_ne (tgt := 124) hx hb dX5_readsReading_119 (by decide) (fun c_119 => ?_) (fun c_119 => ?_)
            · replace c_119 := zb1.mp c_119
              rw [if_pos c_119] at hP hD
              have hP : va_P D vwCl [((g 0), .inr (5, [.int th, .ref (g 1), .int (nI sv), .ref (g 2), .ref (g 3), .int (nI ln), .int (nI (u_2.1 + 1 + 1 + 1)), .int (nI (1 + 4 * v1 + 2 * 0 + 0)), .int (nI v1), .long hs])), ((g 3), .inl (y 0, 60, .inl (zX tx)))] H := hP
              have hD : va_D A [((g 0), .inr (5, [.int th, .ref (g 1), .int (nI sv), .ref (g 2), .ref (g 3), .int (nI ln), .int (nI (u_2.1 + 1 + 1 + 1)), .int (nI (1 + 4 * v1 + 2 * 0 + 0)), .int (nI v1), .long hs])), ((g 3), .inl (y 0, 60, .inl (zX tx)))] := hD
              have e5 : u_2.1 + 1 + 1 < ln := sg_in (tx := tx) (by omega)
              have e6 := sg_y (tx := tx) e5
              have hQ4 := zQ_34 hQ3 e5 (by omega)
              refine lv_aload_n hx hb dX5_readsReading_124 rfl (lv_at hl 3 rfl) ?_
              refine lv_bipush (v := 45) hx hb dX5_readsReading_125 (by decide) ?_
              refine zw_calli (wr := []) (w1 := (fun _ : Unit => [((g 0), .inr (5, [.int th, .ref (g 1), .int (nI sv), .ref (g 2), .ref (g 3), .int (nI ln), .int (nI (u_2.1 + 1 + 1 + 1 + (if sg tx ln (u_2.1 + 1 + 1 + 1) = 45 then 1 else 0))), .int (nI (1 + 4 * v1 + 2 * 0 + 0)), .int (nI v1), .long hs])), ((g 3), .inl (y 0, 60, .inl (zX tx)))])) hP hD hS hA [0, 1] [] rfl rfl (by decide +kernel) (by decide +kernel) (va_runV (As := [.int 45]) (rest := []) ⟨hx, hb, hml, hown, hts⟩ (mX5_takes l D y _ g th sv ln (u_2.1 + 1 + 1 + 1) (1 + 4 * v1 + 2 * 0 + 0) (nI v1) hs tx 45 (by first | assumption | rfl | omega | decide) (by first | assumption | rfl | omega | decide) (by first | assumption | rfl | omega | decide) (by first | assumption | rfl | omega | decide)) (cwV 1 hts (zgV tw_464 tw_465 tw_466 tw_369 tw_453) rfl rfl rfl (by decide +kernel) ⟨Nat.le_of_ble_eq_true rfl, Nat.le_of_ble_eq_true rfl⟩) (zRW_preV hKN hP hD (ci := 5) (q0 := 0) rfl rfl [0, 1] rfl (by decide)) rfl rfl hl.1 rfl (lv_room (Nat.le_of_ble_eq_true rfl)) dX5_readsReading_127 ⟨Nat.zero_le _, Nat.zero_le _⟩) (fun r_12 u_13 H locs hw_127 hP hD hS => ?_)
              have hP : va_P D vwCl [((g 0), .inr (5, [.int th, .ref (g 1), .int (nI sv), .ref (g 2), .ref (g 3), .int (nI ln), .int (nI (u_2.1 + 1 + 1 + 1 + (if sg tx ln (u_2.1 + 1 + 1 + 1) = 45 then 1 else 0))), .int (nI (1 + 4 * v1 + 2 * 0 + 0)), .int (nI v1), .long hs])), ((g 3), .inl (y 0, 60, .inl (zX tx)))] H := hP
              have hD : va_D A [((g 0), .inr (5, [.int th, .ref (g 1), .int (nI sv), .ref (g 2), .ref (g 3), .int (nI ln), .int (nI (u_2.1 + 1 + 1 + 1 + (if sg tx ln (u_2.1 + 1 + 1 + 1) = 45 then 1 else 0))), .int (nI (1 + 4 * v1 + 2 * 0 + 0)), .int (nI v1), .long hs])), ((g 3), .inl (y 0, 60, .inl (zX tx)))] := hD
              obtain rfl : r_12 = (if sg tx ln (u_2.1 + 1 + 1 + 1) = 45 then (1 : Int32) else 0) := hw_127
              refine lv_istore (lv' := [(4, .int (if sg tx ln (u_2.1 + 1 + 1 + 1) = 45 then (1 : Int32) else 0)), (3, .int 0), (2, .int 0), (1, .int (nI v1)), (0, .ref (g 0))]) hx hb dX5_readsReading_130 hl (by decide) rfl (fun ls hl => ?_)
              refine lv_aload_n hx hb dX5_readsReading_132 rfl (lv_at hl 4 rfl) ?_
              refine lv_iload hx hb dX5_readsReading_133 (lv_at hl 0 rfl) ?_
              refine lv_if_eq (tgt := 142) hx hb dX5_readsReading_135 (by decide) (fun c_135 => ?_) (fun c_135 => ?_)
              · replace c_135 := zb0.mp c_135
                rw [if_neg c_135, Nat.add_zero] at hP hD
                have hP : va_P D vwCl [((g 0), .inr (5, [.int th, .ref (g 1), .int (nI sv), .ref (g 2), .ref (g 3), .int (nI ln), .int (nI (u_2.1 + 1 + 1 + 1)), .int (nI (1 + 4 * v1 + 2 * 0 + 0)), .int (nI v1), .long hs])), ((g 3), .inl (y 0, 60, .inl (zX tx)))] H := hP
                have hD : va_D A [((g 0), .inr (5, [.int th, .ref (g 1), .int (nI sv), .ref (g 2), .ref (g 3), .int (nI ln), .int (nI (u_2.1 + 1 + 1 + 1)), .int (nI (1 + 4 * v1 + 2 * 0 + 0)), .int (nI v1), .long hs])), ((g 3), .inl (y 0, 60, .inl (zX tx)))] := hD
                refine lv_iconst (v := 0) hx hb dX5_readsReading_142 (by decide) ?_
                refine lv_sipush (v := 200) hx hb dX5_readsReading_143 (by decide) ?_
                refine zw_calli (wr := []) (w1 := (fun u : (Nat × Int32) => [((g 0), .inr (5, [.int th, .ref (g 1), .int (nI sv), .ref (g 2), .ref (g 3), .int (nI ln), .int (nI u.1), .int (nI (1 + 4 * v1 + 2 * 0 + 0)), .int u.2, .long hs])), ((g 3), .inl (y 0, 60, .inl (zX tx)))])) hP hD hS hA [0, 1] [] rfl rfl (by decide +kernel) (by decide +kernel) (va_runV (As := [.int 0, .int 200]) (rest := []) ⟨hx, hb, hml, hown, hts⟩ (mX5_readsNumber l D y _ g th sv ln (u_2.1 + 1 + 1 + 1) (1 + 4 * v1 + 2 * 0 + 0) (nI v1) hs tx (fun b v => zQ tx ln at9 b 6 v1 0 0 0 v) 0 200 (by first | assumption | rfl | omega | decide) (by first | assumption | rfl | omega | decide) (by first | assumption | rfl | omega | decide) (by first | assumption | rfl | omega | decide) (by first | assumption | rfl | omega | decide) (fun h1 h2 h3 => zQ_46 hQ4 h1 ⟨by omega, h3⟩) (fun b v h1 h2 h3 h4 h5 => zQ_66 h1 h2 h4 h3 h5)) (cwV 2 hts (zgV tw_461 tw_462 tw_463 tw_369 tw_457) rfl rfl rfl (by decide +kernel) ⟨Nat.le_of_ble_eq_true rfl, Nat.le_of_ble_eq_true rfl⟩) (zRW_preV hKN hP hD (ci := 5) (q0 := 0) rfl rfl [0, 1] rfl (by decide)) rfl rfl hl.1 rfl (lv_room (Nat.le_of_ble_eq_true rfl)) dX5_readsReading_146 ⟨Nat.zero_le _, Nat.zero_le _⟩) (fun r_14 u_15 H locs hw_146 hP hD hS => ?_)
                have hP : va_P D vwCl [((g 0), .inr (5, [.int th, .ref (g 1), .int (nI sv), .ref (g 2), .ref (g 3), .int (nI ln), .int (nI u_15.1), .int (nI (1 + 4 * v1 + 2 * 0 + 0)), .int u_15.2, .long hs])), ((g 3), .inl (y 0, 60, .inl (zX tx)))] H := hP
                have hD : va_D A [((g 0), .inr (5, [.int th, .ref (g 1), .int (nI sv), .ref (g 2), .ref (g 3), .int (nI ln), .int (nI u_15.1), .int (nI (1 + 4 * v1 + 2 * 0 + 0)), .int u_15.2, .long hs])), ((g 3), .inl (y 0, 60, .inl (zX tx)))] := hD
                try dsimp only at hw_146
                rcases hw_146 with ⟨er2, ea2, ev2, en2⟩ | ⟨er2, v2, ev2, hv2, hlt2, hP2, hle2, hno2⟩
                · refine zz_top (y := 0) er2 ?_
                  rw [ea2] at hP hD
                  have hP : va_P D vwCl [((g 0), .inr (5, [.int th, .ref (g 1), .int (nI sv), .ref (g 2), .ref (g 3), .int (nI ln), .int (nI (u_2.1 + 1 + 1 + 1)), .int (nI (1 + 4 * v1 + 2 * 0 + 0)), .int u_15.2, .long hs])), ((g 3), .inl (y 0, 60, .inl (zX tx)))] H := hP
                  have hD : va_D A [((g 0), .inr (5, [.int th, .ref (g 1), .int (nI sv), .ref (g 2), .ref (g 3), .int (nI ln), .int (nI (u_2.1 + 1 + 1 + 1)), .int (nI (1 + 4 * v1 + 2 * 0 + 0)), .int u_15.2, .long hs])), ((g 3), .inl (y 0, 60, .inl (zX tx)))] := hD
                  refine lv_istore (lv' := [(5, .int 0), (4, .int (if sg tx ln (u_2.1 + 1 + 1 + 1) = 45 then (1 : Int32) else 0)), (3, .int 0), (2, .int 0), (1, .int (nI v1)), (0, .ref (g 0))]) hx hb dX5_readsReading_149 hl (by decide) rfl (fun ls hl => ?_)
                  refine lv_aload_n hx hb dX5_readsReading_151 rfl (lv_at hl 5 rfl) ?_
                  refine lv_iload hx hb dX5_readsReading_152 (lv_at hl 1 rfl) ?_
                  refine lv_if_eq (tgt := 165) hx hb dX5_readsReading_154 (by decide) (fun _ => ?_) (fun c_154 => absurd (zb0.mpr c_135) c_154)
                  refine lv_aload_n hx hb dX5_readsReading_165 rfl (lv_at hl 5 rfl) ?_
                  refine va_get (D := D) (ci := 5) (v := .int u_15.2) (C := RX5) (T := TX5) (N := 10) hx hb htg iX5 hown hK hP 0 rfl rfl 8 (by decide) (htg _ tw_458) (fun _ h9 => h9) rfl dX5_readsReading_166 ?_
                  refine va_put (D := D) (ci := 5) (v := .int u_15.2) (ty := .int) (C := RX5) (T := TX5) (N := 10) hx hb htg iX5 tyX5 tyX5_ok nmX5 hown hK hP hD hS 0 rfl rfl 8 (by decide) (htg _ tw_458) (fun _ h9 => h9) rfl (tyX5_ok 8 (by decide)) (rfl) (rfl) (Nat.le_of_ble_eq_true rfl) dX5_readsReading_169 (fun H locs hP hD hS => ?_)
                  have hP : va_P D vwCl [((g 0), .inr (5, [.int th, .ref (g 1), .int (nI sv), .ref (g 2), .ref (g 3), .int (nI ln), .int (nI (u_2.1 + 1 + 1 + 1)), .int (nI (1 + 4 * v1 + 2 * 0 + 0)), .int u_15.2, .long hs])), ((g 3), .inl (y 0, 60, .inl (zX tx)))] H := hP
                  have hD : va_D A [((g 0), .inr (5, [.int th, .ref (g 1), .int (nI sv), .ref (g 2), .ref (g 3), .int (nI ln), .int (nI (u_2.1 + 1 + 1 + 1)), .int (nI (1 + 4 * v1 + 2 * 0 + 0)), .int u_15.2, .long hs])), ((g 3), .inl (y 0, 60, .inl (zX tx)))] := hD
                  refine lv_iload hx hb dX5_readsReading_172 (lv_at hl 0 rfl) ?_
                  refine W.widen (k := 0) (n := 0) (by first | exact Nat.le_of_ble_eq_true rfl | omega) (by first | exact Nat.le_of_ble_eq_true rfl | omega) ?_
                  exact W.zret (v := 0) hx hb hr (rfl) (fun t ht hW => ⟨⟨0, (u_2.1 + 1 + 1 + 1, 1 + 4 * v1 + 2 * 0 + 0, u_15.2), rfl, Or.inl ⟨rfl, show zBad tx ln (u_2.1 + 1 + 1 + 1) from zQ_f4 hQ4 c_135 (fun h => en2 ⟨by omega, by omega⟩)⟩, ⟨by rw [ht]; exact hP, hD⟩⟩, hS.F ht⟩) hS.2.2 dX5_readsReading_174
                · refine zz_top (y := 1) er2 ?_
                  rw [ev2] at hP hD
                  have hP : va_P D vwCl [((g 0), .inr (5, [.int th, .ref (g 1), .int (nI sv), .ref (g 2), .ref (g 3), .int (nI ln), .int (nI u_15.1), .int (nI (1 + 4 * v1 + 2 * 0 + 0)), .int (nI v2), .long hs])), ((g 3), .inl (y 0, 60, .inl (zX tx)))] H := hP
                  have hD : va_D A [((g 0), .inr (5, [.int th, .ref (g 1), .int (nI sv), .ref (g 2), .ref (g 3), .int (nI ln), .int (nI u_15.1), .int (nI (1 + 4 * v1 + 2 * 0 + 0)), .int (nI v2), .long hs])), ((g 3), .inl (y 0, 60, .inl (zX tx)))] := hD
                  refine lv_istore (lv' := [(5, .int 1), (4, .int (if sg tx ln (u_2.1 + 1 + 1 + 1) = 45 then (1 : Int32) else 0)), (3, .int 0), (2, .int 0), (1, .int (nI v1)), (0, .ref (g 0))]) hx hb dX5_readsReading_149 hl (by decide) rfl (fun ls hl => ?_)
                  refine lv_aload_n hx hb dX5_readsReading_151 rfl (lv_at hl 5 rfl) ?_
                  refine lv_iload hx hb dX5_readsReading_152 (lv_at hl 1 rfl) ?_
                  refine lv_if_eq (tgt := 165) hx hb dX5_readsReading_154 (by decide) (fun _ => ?_) (fun c_154 => absurd (zb0.mpr c_135) c_154)
                  refine lv_aload_n hx hb dX5_readsReading_165 rfl (lv_at hl 5 rfl) ?_
                  refine va_get (D := D) (ci := 5) (v := .int (nI v2)) (C := RX5) (T := TX5) (N := 10) hx hb htg iX5 hown hK hP 0 rfl rfl 8 (by decide) (htg _ tw_458) (fun _ h9 => h9) rfl dX5_readsReading_166 ?_
                  refine va_put (D := D) (ci := 5) (v := .int (nI v2)) (ty := .int) (C := RX5) (T := TX5) (N := 10) hx hb htg iX5 tyX5 tyX5_ok nmX5 hown hK hP hD hS 0 rfl rfl 8 (by decide) (htg _ tw_458) (fun _ h9 => h9) rfl (tyX5_ok 8 (by decide)) (rfl) (rfl) (Nat.le_of_ble_eq_true rfl) dX5_readsReading_169 (fun H locs hP hD hS => ?_)
                  have hP : va_P D vwCl [((g 0), .inr (5, [.int th, .ref (g 1), .int (nI sv), .ref (g 2), .ref (g 3), .int (nI ln), .int (nI u_15.1), .int (nI (1 + 4 * v1 + 2 * 0 + 0)), .int (nI v2), .long hs])), ((g 3), .inl (y 0, 60, .inl (zX tx)))] H := hP
                  have hD : va_D A [((g 0), .inr (5, [.int th, .ref (g 1), .int (nI sv), .ref (g 2), .ref (g 3), .int (nI ln), .int (nI u_15.1), .int (nI (1 + 4 * v1 + 2 * 0 + 0)), .int (nI v2), .long hs])), ((g 3), .inl (y 0, 60, .inl (zX tx)))] := hD
                  refine lv_iload hx hb dX5_readsReading_172 (lv_at hl 0 rfl) ?_
                  refine W.widen (k := 0) (n := 0) (by first | exact Nat.le_of_ble_eq_true rfl | omega) (by first | exact Nat.le_of_ble_eq_true rfl | omega) ?_
                  exact W.zret (v := 1) hx hb hr (rfl) (fun t ht hW => ⟨⟨1, (u_15.1, 1 + 4 * v1 + 2 * 0 + 0, nI v2), rfl, Or.inr ⟨rfl, show zGot tx ln at9 (u_15.1) (1 + 4 * v1 + 2 * 0 + 0) (nI v2) from zQ_6 hP2 (by omega) hno2 ((if_pos rfl).symm) (by omega)⟩, ⟨by rw [ht]; exact hP, hD⟩⟩, hS.F ht⟩) hS.2.2 dX5_readsReading_174
              · replace c_135 := zb1.mp c_135
                rw [if_pos c_135] at hP hD
                have hP : va_P D vwCl [((g 0), .inr (5, [.int th, .ref (g 1), .int (nI sv), .ref (g 2), .ref (g 3), .int (nI ln), .int (nI (u_2.1 + 1 + 1 + 1 + 1)), .int (nI (1 + 4 * v1 + 2 * 0 + 0)), .int (nI v1), .long hs])), ((g 3), .inl (y 0, 60, .inl (zX tx)))] H := hP
                have hD : va_D A [((g 0), .inr (5, [.int th, .ref (g 1), .int (nI sv), .ref (g 2), .ref (g 3), .int (nI ln), .int (nI (u_2.1 + 1 + 1 + 1 + 1)), .int (nI (1 + 4 * v1 + 2 * 0 + 0)), .int (nI v1), .long hs])), ((g 3), .inl (y 0, 60, .inl (zX tx)))] := hD
                have e7 : u_2.1 + 1 + 1 + 1 < ln := sg_in (tx := tx) (by omega)
                have e8 := sg_y (tx := tx) e7
                have hQ5 := zQ_45 hQ4 e7 (by omega)
                refine lv_iconst (v := 1) hx hb dX5_readsReading_138 (by decide) ?_
                refine lv_goto (tgt := 143) hx hb dX5_readsReading_139 (by decide) ?_
                refine lv_sipush (v := 200) hx hb dX5_readsReading_143 (by decide) ?_
                refine zw_calli (wr := []) (w1 := (fun u : (Nat × Int32) => [((g 0), .inr (5, [.int th, .ref (g 1), .int (nI sv), .ref (g 2), .ref (g 3), .int (nI ln), .int (nI u.1), .int (nI (1 + 4 * v1 + 2 * 0 + 0)), .int u.2, .long hs])), ((g 3), .inl (y 0, 60, .inl (zX tx)))])) hP hD hS hA [0, 1] [] rfl rfl (by decide +kernel) (by decide +kernel) (va_runV (As := [.int 1, .int 200]) (rest := []) ⟨hx, hb, hml, hown, hts⟩ (mX5_readsNumber l D y _ g th sv ln (u_2.1 + 1 + 1 + 1 + 1) (1 + 4 * v1 + 2 * 0 + 0) (nI v1) hs tx (fun b v => zQ tx ln at9 b 6 v1 0 0 1 v) 1 200 (by first | assumption | rfl | omega | decide) (by first | assumption | rfl | omega | decide) (by first | assumption | rfl | omega | decide) (by first | assumption | rfl | omega | decide) (by first | assumption | rfl | omega | decide) (fun h1 h2 h3 => zQ_56 hQ5 h1 (by omega) h3) (fun b v h1 h2 h3 h4 h5 => zQ_66 h1 h2 h4 h3 h5)) (cwV 2 hts (zgV tw_461 tw_462 tw_463 tw_369 tw_457) rfl rfl rfl (by decide +kernel) ⟨Nat.le_of_ble_eq_true rfl, Nat.le_of_ble_eq_true rfl⟩) (zRW_preV hKN hP hD (ci := 5) (q0 := 0) rfl rfl [0, 1] rfl (by decide)) rfl rfl hl.1 rfl (lv_room (Nat.le_of_ble_eq_true rfl)) dX5_readsReading_146 ⟨Nat.zero_le _, Nat.zero_le _⟩) (fun r_16 u_17 H locs hw_146 hP hD hS => ?_)
                have hP : va_P D vwCl [((g 0), .inr (5, [.int th, .ref (g 1), .int (nI sv), .ref (g 2), .ref (g 3), .int (nI ln), .int (nI u_17.1), .int (nI (1 + 4 * v1 + 2 * 0 + 0)), .int u_17.2, .long hs])), ((g 3), .inl (y 0, 60, .inl (zX tx)))] H := hP
                have hD : va_D A [((g 0), .inr (5, [.int th, .ref (g 1), .int (nI sv), .ref (g 2), .ref (g 3), .int (nI ln), .int (nI u_17.1), .int (nI (1 + 4 * v1 + 2 * 0 + 0)), .int u_17.2, .long hs])), ((g 3), .inl (y 0, 60, .inl (zX tx)))] := hD
                try dsimp only at hw_146
                rcases hw_146 with ⟨er2, ea2, ev2, en2⟩ | ⟨er2, v2, ev2, hv2, hlt2, hP2, hle2, hno2⟩
                · refine zz_top (y := 0) er2 ?_
                  rw [ea2] at hP hD
                  have hP : va_P D vwCl [((g 0), .inr (5, [.int th, .ref (g 1), .int (nI sv), .ref (g 2), .ref (g 3), .int (nI ln), .int (nI (u_2.1 + 1 + 1 + 1 + 1)), .int (nI (1 + 4 * v1 + 2 * 0 + 0)), .int u_17.2, .long hs])), ((g 3), .inl (y 0, 60, .inl (zX tx)))] H := hP
                  have hD : va_D A [((g 0), .inr (5, [.int th, .ref (g 1), .int (nI sv), .ref (g 2), .ref (g 3), .int (nI ln), .int (nI (u_2.1 + 1 + 1 + 1 + 1)), .int (nI (1 + 4 * v1 + 2 * 0 + 0)), .int u_17.2, .long hs])), ((g 3), .inl (y 0, 60, .inl (zX tx)))] := hD
                  refine lv_istore (lv' := [(5, .int 0), (4, .int (if sg tx ln (u_2.1 + 1 + 1 + 1) = 45 then (1 : Int32) else 0)), (3, .int 0), (2, .int 0), (1, .int (nI v1)), (0, .ref (g 0))]) hx hb dX5_readsReading_149 hl (by decide) rfl (fun ls hl => ?_)
                  refine lv_aload_n hx hb dX5_readsReading_151 rfl (lv_at hl 5 rfl) ?_
                  refine lv_iload hx hb dX5_readsReading_152 (lv_at hl 1 rfl) ?_
                  refine lv_if_eq (tgt := 165) hx hb dX5_readsReading_154 (by decide) (fun c_154 => absurd c_154 (zb1.mpr c_135)) (fun _ => ?_)
                  refine lv_aload_n hx hb dX5_readsReading_157 rfl (lv_at hl 5 rfl) ?_
                  refine va_get (D := D) (ci := 5) (v := .int u_17.2) (C := RX5) (T := TX5) (N := 10) hx hb htg iX5 hown hK hP 0 rfl rfl 8 (by decide) (htg _ tw_458) (fun _ h9 => h9) rfl dX5_readsReading_158 ?_
                  refine lv_ineg hx hb dX5_readsReading_161 ?_
                  refine lv_goto (tgt := 169) hx hb dX5_readsReading_162 (by decide) ?_
                  refine va_put (D := D) (ci := 5) (v := .int (-u_17.2)) (ty := .int) (C := RX5) (T := TX5) (N := 10) hx hb htg iX5 tyX5 tyX5_ok nmX5 hown hK hP hD hS 0 rfl rfl 8 (by decide) (htg _ tw_458) (fun _ h9 => h9) rfl (tyX5_ok 8 (by decide)) (rfl) (rfl) (Nat.le_of_ble_eq_true rfl) dX5_readsReading_169 (fun H locs hP hD hS => ?_)
                  have hP : va_P D vwCl [((g 0), .inr (5, [.int th, .ref (g 1), .int (nI sv), .ref (g 2), .ref (g 3), .int (nI ln), .int (nI (u_2.1 + 1 + 1 + 1 + 1)), .int (nI (1 + 4 * v1 + 2 * 0 + 0)), .int (-u_17.2), .long hs])), ((g 3), .inl (y 0, 60, .inl (zX tx)))] H := hP
                  have hD : va_D A [((g 0), .inr (5, [.int th, .ref (g 1), .int (nI sv), .ref (g 2), .ref (g 3), .int (nI ln), .int (nI (u_2.1 + 1 + 1 + 1 + 1)), .int (nI (1 + 4 * v1 + 2 * 0 + 0)), .int (-u_17.2), .long hs])), ((g 3), .inl (y 0, 60, .inl (zX tx)))] := hD
                  refine lv_iload hx hb dX5_readsReading_172 (lv_at hl 0 rfl) ?_
                  refine W.widen (k := 0) (n := 0) (by first | exact Nat.le_of_ble_eq_true rfl | omega) (by first | exact Nat.le_of_ble_eq_true rfl | omega) ?_
                  exact W.zret (v := 0) hx hb hr (rfl) (fun t ht hW => ⟨⟨0, (u_2.1 + 1 + 1 + 1 + 1, 1 + 4 * v1 + 2 * 0 + 0, -u_17.2), rfl, Or.inl ⟨rfl, show zBad tx ln (u_2.1 + 1 + 1 + 1 + 1) from zQ_f5 hQ5 (fun h => en2 ⟨by omega, by omega⟩)⟩, ⟨by rw [ht]; exact hP, hD⟩⟩, hS.F ht⟩) hS.2.2 dX5_readsReading_174
                · refine zz_top (y := 1) er2 ?_
                  rw [ev2] at hP hD
                  have hP : va_P D vwCl [((g 0), .inr (5, [.int th, .ref (g 1), .int (nI sv), .ref (g 2), .ref (g 3), .int (nI ln), .int (nI u_17.1), .int (nI (1 + 4 * v1 + 2 * 0 + 0)), .int (nI v2), .long hs])), ((g 3), .inl (y 0, 60, .inl (zX tx)))] H := hP
                  have hD : va_D A [((g 0), .inr (5, [.int th, .ref (g 1), .int (nI sv), .ref (g 2), .ref (g 3), .int (nI ln), .int (nI u_17.1), .int (nI (1 + 4 * v1 + 2 * 0 + 0)), .int (nI v2), .long hs])), ((g 3), .inl (y 0, 60, .inl (zX tx)))] := hD
                  refine lv_istore (lv' := [(5, .int 1), (4, .int (if sg tx ln (u_2.1 + 1 + 1 + 1) = 45 then (1 : Int32) else 0)), (3, .int 0), (2, .int 0), (1, .int (nI v1)), (0, .ref (g 0))]) hx hb dX5_readsReading_149 hl (by decide) rfl (fun ls hl => ?_)
                  refine lv_aload_n hx hb dX5_readsReading_151 rfl (lv_at hl 5 rfl) ?_
                  refine lv_iload hx hb dX5_readsReading_152 (lv_at hl 1 rfl) ?_
                  refine lv_if_eq (tgt := 165) hx hb dX5_readsReading_154 (by decide) (fun c_154 => absurd c_154 (zb1.mpr c_135)) (fun _ => ?_)
                  refine lv_aload_n hx hb dX5_readsReading_157 rfl (lv_at hl 5 rfl) ?_
                  refine va_get (D := D) (ci := 5) (v := .int (nI v2)) (C := RX5) (T := TX5) (N := 10) hx hb htg iX5 hown hK hP 0 rfl rfl 8 (by decide) (htg _ tw_458) (fun _ h9 => h9) rfl dX5_readsReading_158 ?_
                  refine lv_ineg hx hb dX5_readsReading_161 ?_
                  refine lv_goto (tgt := 169) hx hb dX5_readsReading_162 (by decide) ?_
                  refine va_put (D := D) (ci := 5) (v := .int (-(nI v2))) (ty := .int) (C := RX5) (T := TX5) (N := 10) hx hb htg iX5 tyX5 tyX5_ok nmX5 hown hK hP hD hS 0 rfl rfl 8 (by decide) (htg _ tw_458) (fun _ h9 => h9) rfl (tyX5_ok 8 (by decide)) (rfl) (rfl) (Nat.le_of_ble_eq_true rfl) dX5_readsReading_169 (fun H locs hP hD hS => ?_)
                  have hP : va_P D vwCl [((g 0), .inr (5, [.int th, .ref (g 1), .int (nI sv), .ref (g 2), .ref (g 3), .int (nI ln), .int (nI u_17.1), .int (nI (1 + 4 * v1 + 2 * 0 + 0)), .int (-(nI v2)), .long hs])), ((g 3), .inl (y 0, 60, .inl (zX tx)))] H := hP
                  have hD : va_D A [((g 0), .inr (5, [.int th, .ref (g 1), .int (nI sv), .ref (g 2), .ref (g 3), .int (nI ln), .int (nI u_17.1), .int (nI (1 + 4 * v1 + 2 * 0 + 0)), .int (-(nI v2)), .long hs])), ((g 3), .inl (y 0, 60, .inl (zX tx)))] := hD
                  refine lv_iload hx hb dX5_readsReading_172 (lv_at hl 0 rfl) ?_
                  refine W.widen (k := 0) (n := 0) (by first | exact Nat.le_of_ble_eq_true rfl | omega) (by first | exact Nat.le_of_ble_eq_true rfl | omega) ?_
                  exact W.zret (v := 1) hx hb hr (rfl) (fun t ht hW => ⟨⟨1, (u_17.1, 1 + 4 * v1 + 2 * 0 + 0, -(nI v2)), rfl, Or.inr ⟨rfl, show zGot tx ln at9 (u_17.1) (1 + 4 * v1 + 2 * 0 + 0) (-(nI v2)) from zQ_6 hP2 (by omega) hno2 ((if_neg (by decide)).symm) (by omega)⟩, ⟨by rw [ht]; exact hP, hD⟩⟩, hS.F ht⟩) hS.2.2 dX5_readsReading_174
            · replace c_119 := zb0.mp c_119
              rw [if_neg c_119, Nat.add_zero] at hP hD
              have hP : va_P D vwCl [((g 0), .inr (5, [.int th, .ref (g 1), .int (nI sv), .ref (g 2), .ref (g 3), .int (nI ln), .int (nI (u_2.1 + 1 + 1)), .int (nI (1 + 4 * v1 + 2 * 0 + 0)), .int (nI v1), .long hs])), ((g 3), .inl (y 0, 60, .inl (zX tx)))] H := hP
              have hD : va_D A [((g 0), .inr (5, [.int th, .ref (g 1), .int (nI sv), .ref (g 2), .ref (g 3), .int (nI ln), .int (nI (u_2.1 + 1 + 1)), .int (nI (1 + 4 * v1 + 2 * 0 + 0)), .int (nI v1), .long hs])), ((g 3), .inl (y 0, 60, .inl (zX tx)))] := hD
              refine lv_iconst (v := 0) hx hb dX5_readsReading_122 (by decide) ?_
              refine W.widen (k := 0) (n := 0) (by first | exact Nat.le_of_ble_eq_true rfl | omega) (by first | exact Nat.le_of_ble_eq_true rfl | omega) ?_
              exact W.zret (v := 0) hx hb hr (rfl) (fun t ht hW => ⟨⟨0, (u_2.1 + 1 + 1, 1 + 4 * v1 + 2 * 0 + 0, nI v1), rfl, Or.inl ⟨rfl, show zBad tx ln (u_2.1 + 1 + 1) from zQ_f3 hQ3 c_119⟩, ⟨by rw [ht]; exact hP, hD⟩⟩, hS.F ht⟩) hS.2.2 dX5_readsReading_123
          · replace c_73 := zb0.mp c_73
            rw [if_neg c_73, Nat.add_zero] at hP hD
            have hP : va_P D vwCl [((g 0), .inr (5, [.int th, .ref (g 1), .int (nI sv), .ref (g 2), .ref (g 3), .int (nI ln), .int (nI (u_2.1 + 1)), .int (nI pl), .int (nI v1), .long hs])), ((g 3), .inl (y 0, 60, .inl (zX tx)))] H := hP
            have hD : va_D A [((g 0), .inr (5, [.int th, .ref (g 1), .int (nI sv), .ref (g 2), .ref (g 3), .int (nI ln), .int (nI (u_2.1 + 1)), .int (nI pl), .int (nI v1), .long hs])), ((g 3), .inl (y 0, 60, .inl (zX tx)))] := hD
            refine lv_aload_n hx hb dX5_readsReading_76 rfl (lv_at hl 3 rfl) ?_
            refine lv_bipush (v := 45) hx hb dX5_readsReading_77 (by decide) ?_
            refine zw_calli (wr := []) (w1 := (fun _ : Unit => [((g 0), .inr (5, [.int th, .ref (g 1), .int (nI sv), .ref (g 2), .ref (g 3), .int (nI ln), .int (nI (u_2.1 + 1 + (if sg tx ln (u_2.1 + 1) = 45 then 1 else 0))), .int (nI pl), .int (nI v1), .long hs])), ((g 3), .inl (y 0, 60, .inl (zX tx)))])) hP hD hS hA [0, 1] [] rfl rfl (by decide +kernel) (by decide +kernel) (va_runV (As := [.int 45]) (rest := []) ⟨hx, hb, hml, hown, hts⟩ (mX5_takes l D y _ g th sv ln (u_2.1 + 1) pl (nI v1) hs tx 45 (by first | assumption | rfl | omega | decide) (by first | assumption | rfl | omega | decide) (by first | assumption | rfl | omega | decide) (by first | assumption | rfl | omega | decide)) (cwV 1 hts (zgV tw_464 tw_465 tw_466 tw_369 tw_453) rfl rfl rfl (by decide +kernel) ⟨Nat.le_of_ble_eq_true rfl, Nat.le_of_ble_eq_true rfl⟩) (zRW_preV hKN hP hD (ci := 5) (q0 := 0) rfl rfl [0, 1] rfl (by decide)) rfl rfl hl.1 rfl (lv_room (Nat.le_of_ble_eq_true rfl)) dX5_readsReading_79 ⟨Nat.zero_le _, Nat.zero_le _⟩) (fun r_18 u_19 H locs hw_79 hP hD hS => ?_)
            have hP : va_P D vwCl [((g 0), .inr (5, [.int th, .ref (g 1), .int (nI sv), .ref (g 2), .ref (g 3), .int (nI ln), .int (nI (u_2.1 + 1 + (if sg tx ln (u_2.1 + 1) = 45 then 1 else 0))), .int (nI pl), .int (nI v1), .long hs])), ((g 3), .inl (y 0, 60, .inl (zX tx)))] H := hP
            have hD : va_D A [((g 0), .inr (5, [.int th, .ref (g 1), .int (nI sv), .ref (g 2), .ref (g 3), .int (nI ln), .int (nI (u_2.1 + 1 + (if sg tx ln (u_2.1 + 1) = 45 then 1 else 0))), .int (nI pl), .int (nI v1), .long hs])), ((g 3), .inl (y 0, 60, .inl (zX tx)))] := hD
            obtain rfl : r_18 = (if sg tx ln (u_2.1 + 1) = 45 then (1 : Int32) else 0) := hw_79
            refine lv_if_ne (tgt := 87) hx hb dX5_readsReading_82 (by decide) (fun c_82 => ?_) (fun c_82 => ?_)
            · replace c_82 := zb1.mp c_82
              exact absurd c_82 c_58
            · replace c_82 := zb0.mp c_82
              rw [if_neg c_82, Nat.add_zero] at hP hD
              have hP : va_P D vwCl [((g 0), .inr (5, [.int th, .ref (g 1), .int (nI sv), .ref (g 2), .ref (g 3), .int (nI ln), .int (nI (u_2.1 + 1)), .int (nI pl), .int (nI v1), .long hs])), ((g 3), .inl (y 0, 60, .inl (zX tx)))] H := hP
              have hD : va_D A [((g 0), .inr (5, [.int th, .ref (g 1), .int (nI sv), .ref (g 2), .ref (g 3), .int (nI ln), .int (nI (u_2.1 + 1)), .int (nI pl), .int (nI v1), .long hs])), ((g 3), .inl (y 0, 60, .inl (zX tx)))] := hD
              refine lv_iconst (v := 0) hx hb dX5_readsReading_85 (by decide) ?_
              refine W.widen (k := 0) (n := 0) (by first | exact Nat.le_of_ble_eq_true rfl | omega) (by first | exact Nat.le_of_ble_eq_true rfl | omega) ?_
              exact W.zret (v := 0) hx hb hr (rfl) (fun t ht hW => ⟨⟨0, (u_2.1 + 1, pl, nI v1), rfl, Or.inl ⟨rfl, show zBad tx ln (u_2.1 + 1) from zQ_f2 hQ2 c_73 c_82⟩, ⟨by rw [ht]; exact hP, hD⟩⟩, hS.F ht⟩) hS.2.2 dX5_readsReading_86
        · replace c_58 : (sg tx ln (u_2.1 + 1)) = 45 := (nI_eq (a := (sg tx ln (u_2.1 + 1))) (b := 45) (by omega) (by omega)).mp c_58
          refine lv_iconst (v := 1) hx hb dX5_readsReading_61 (by decide) ?_
          refine lv_goto (tgt := 66) hx hb dX5_readsReading_62 (by decide) ?_
          refine lv_istore_n (lv' := [(3, .int 1), (2, .int 0), (1, .int (nI v1)), (0, .ref (g 0))]) hx hb dX5_readsReading_66 rfl hl (by decide) rfl (fun ls hl => ?_)
          refine lv_aload_n hx hb dX5_readsReading_67 rfl (lv_at hl 3 rfl) ?_
          refine lv_bipush (v := 43) hx hb dX5_readsReading_68 (by decide) ?_
          refine zw_calli (wr := []) (w1 := (fun _ : Unit => [((g 0), .inr (5, [.int th, .ref (g 1), .int (nI sv), .ref (g 2), .ref (g 3), .int (nI ln), .int (nI (u_2.1 + 1 + (if sg tx ln (u_2.1 + 1) = 43 then 1 else 0))), .int (nI pl), .int (nI v1), .long hs])), ((g 3), .inl (y 0, 60, .inl (zX tx)))])) hP hD hS hA [0, 1] [] rfl rfl (by decide +kernel) (by decide +kernel) (va_runV (As := [.int 43]) (rest := []) ⟨hx, hb, hml, hown, hts⟩ (mX5_takes l D y _ g th sv ln (u_2.1 + 1) pl (nI v1) hs tx 43 (by first | assumption | rfl | omega | decide) (by first | assumption | rfl | omega | decide) (by first | assumption | rfl | omega | decide) (by first | assumption | rfl | omega | decide)) (cwV 1 hts (zgV tw_464 tw_465 tw_466 tw_369 tw_453) rfl rfl rfl (by decide +kernel) ⟨Nat.le_of_ble_eq_true rfl, Nat.le_of_ble_eq_true rfl⟩) (zRW_preV hKN hP hD (ci := 5) (q0 := 0) rfl rfl [0, 1] rfl (by decide)) rfl rfl hl.1 rfl (lv_room (Nat.le_of_ble_eq_true rfl)) dX5_readsReading_70 ⟨Nat.zero_le _, Nat.zero_le _⟩) (fun r_20 u_21 H locs hw_70 hP hD hS => ?_)
          have hP : va_P D vwCl [((g 0), .inr (5, [.int th, .ref (g 1), .int (nI sv), .ref (g 2), .ref (g 3), .int (nI ln), .int (nI (u_2.1 + 1 + (if sg tx ln (u_2.1 + 1) = 43 then 1 else 0))), .int (nI pl), .int (nI v1), .long hs])), ((g 3), .inl (y 0, 60, .inl (zX tx)))] H := hP
          have hD : va_D A [((g 0), .inr (5, [.int th, .ref (g 1), .int (nI sv), .ref (g 2), .ref (g 3), .int (nI ln), .int (nI (u_2.1 + 1 + (if sg tx ln (u_2.1 + 1) = 43 then 1 else 0))), .int (nI pl), .int (nI v1), .long hs])), ((g 3), .inl (y 0, 60, .inl (zX tx)))] := hD
          obtain rfl : r_20 = (if sg tx ln (u_2.1 + 1) = 43 then (1 : Int32) else 0) := hw_70
          refine lv_if_ne (tgt := 87) hx hb dX5_readsReading_73 (by decide) (fun c_73 => ?_) (fun c_73 => ?_)
          · replace c_73 := zb1.mp c_73
            exfalso; omega
          · replace c_73 := zb0.mp c_73
            rw [if_neg c_73, Nat.add_zero] at hP hD
            have hP : va_P D vwCl [((g 0), .inr (5, [.int th, .ref (g 1), .int (nI sv), .ref (g 2), .ref (g 3), .int (nI ln), .int (nI (u_2.1 + 1)), .int (nI pl), .int (nI v1), .long hs])), ((g 3), .inl (y 0, 60, .inl (zX tx)))] H := hP
            have hD : va_D A [((g 0), .inr (5, [.int th, .ref (g 1), .int (nI sv), .ref (g 2), .ref (g 3), .int (nI ln), .int (nI (u_2.1 + 1)), .int (nI pl), .int (nI v1), .long hs])), ((g 3), .inl (y 0, 60, .inl (zX tx)))] := hD
            refine lv_aload_n hx hb dX5_readsReading_76 rfl (lv_at hl 3 rfl) ?_
            refine lv_bipush (v := 45) hx hb dX5_readsReading_77 (by decide) ?_
            refine zw_calli (wr := []) (w1 := (fun _ : Unit => [((g 0), .inr (5, [.int th, .ref (g 1), .int (nI sv), .ref (g 2), .ref (g 3), .int (nI ln), .int (nI (u_2.1 + 1 + (if sg tx ln (u_2.1 + 1) = 45 then 1 else 0))), .int (nI pl), .int (nI v1), .long hs])), ((g 3), .inl (y 0, 60, .inl (zX tx)))])) hP hD hS hA [0, 1] [] rfl rfl (by decide +kernel) (by decide +kernel) (va_runV (As := [.int 45]) (rest := []) ⟨hx, hb, hml, hown, hts⟩ (mX5_takes l D y _ g th sv ln (u_2.1 + 1) pl (nI v1) hs tx 45 (by first | assumption | rfl | omega | decide) (by first | assumption | rfl | omega | decide) (by first | assumption | rfl | omega | decide) (by first | assumption | rfl | omega | decide)) (cwV 1 hts (zgV tw_464 tw_465 tw_466 tw_369 tw_453) rfl rfl rfl (by decide +kernel) ⟨Nat.le_of_ble_eq_true rfl, Nat.le_of_ble_eq_true rfl⟩) (zRW_preV hKN hP hD (ci := 5) (q0 := 0) rfl rfl [0, 1] rfl (by decide)) rfl rfl hl.1 rfl (lv_room (Nat.le_of_ble_eq_true rfl)) dX5_readsReading_79 ⟨Nat.zero_le _, Nat.zero_le _⟩) (fun r_22 u_23 H locs hw_79 hP hD hS => ?_)
            have hP : va_P D vwCl [((g 0), .inr (5, [.int th, .ref (g 1), .int (nI sv), .ref (g 2), .ref (g 3), .int (nI ln), .int (nI (u_2.1 + 1 + (if sg tx ln (u_2.1 + 1) = 45 then 1 else 0))), .int (nI pl), .int (nI v1), .long hs])), ((g 3), .inl (y 0, 60, .inl (zX tx)))] H := hP
            have hD : va_D A [((g 0), .inr (5, [.int th, .ref (g 1), .int (nI sv), .ref (g 2), .ref (g 3), .int (nI ln), .int (nI (u_2.1 + 1 + (if sg tx ln (u_2.1 + 1) = 45 then 1 else 0))), .int (nI pl), .int (nI v1), .long hs])), ((g 3), .inl (y 0, 60, .inl (zX tx)))] := hD
            obtain rfl : r_22 = (if sg tx ln (u_2.1 + 1) = 45 then (1 : Int32) else 0) := hw_79
            refine lv_if_ne (tgt := 87) hx hb dX5_readsReading_82 (by decide) (fun c_82 => ?_) (fun c_82 => ?_)
            · replace c_82 := zb1.mp c_82
              rw [if_pos c_82] at hP hD
              have hP : va_P D vwCl [((g 0), .inr (5, [.int th, .ref (g 1), .int (nI sv), .ref (g 2), .ref (g 3), .int (nI ln), .int (nI (u_2.1 + 1 + 1)), .int (nI pl), .int (nI v1), .long hs])), ((g 3), .inl (y 0, 60, .inl (zX tx)))] H := hP
              have hD : va_D A [((g 0), .inr (5, [.int th, .ref (g 1), .int (nI sv), .ref (g 2), .ref (g 3), .int (nI ln), .int (nI (u_2.1 + 1 + 1)), .int (nI pl), .int (nI v1), .long hs])), ((g 3), .inl (y 0, 60, .inl (zX tx)))] := hD
              have e3 : u_2.1 + 1 < ln := sg_in (tx := tx) (by omega)
              have e4 := sg_y (tx := tx) e3
              have hQ3 := zQ_23 (f' := 1) hQ2 e3 (by decide) (by omega)
              refine lv_aload_n hx hb dX5_readsReading_87 rfl (lv_at hl 3 rfl) ?_
              refine lv_iload_n hx hb dX5_readsReading_88 rfl (lv_at hl 2 rfl) ?_
              refine lv_iload_n hx hb dX5_readsReading_89 rfl (lv_at hl 1 rfl) ?_
              refine lv_if_eq (tgt := 97) hx hb dX5_readsReading_90 (by decide) (fun _ => ?_) (fun c_90 => absurd (by decide) c_90)
              refine lv_iconst (v := 0) hx hb dX5_readsReading_97 (by decide) ?_
              refine lv_iload_n hx hb dX5_readsReading_98 rfl (lv_at hl 0 rfl) ?_
              refine lv_if_eq (tgt := 106) hx hb dX5_readsReading_99 (by decide) (fun c_99 => absurd c_99 (by decide)) (fun _ => ?_)
              refine lv_iconst (v := 1) hx hb dX5_readsReading_102 (by decide) ?_
              refine lv_goto (tgt := 107) hx hb dX5_readsReading_103 (by decide) ?_
              refine zr_calli (va_runS (As := [.int (nI v1), .int 0, .int 1]) (rest := [.ref (g 0)]) ⟨hx, hb, hml, hown, hts⟩ (mX5_placeOf l v1 0 1) (va_cwS 3 hts (zgS tw_388 tw_389 tw_369 tw_386) rfl rfl rfl (by decide +kernel) ⟨Nat.le_of_ble_eq_true rfl, Nat.le_of_ble_eq_true rfl⟩) zP_pre rfl rfl hl.1 rfl (lv_room (Nat.le_of_ble_eq_true rfl)) dX5_readsReading_107 ⟨Nat.zero_le _, Nat.zero_le _⟩) hS (fun r_24 H locs hw_107 hT hS => ?_)
              replace hP := hT _ _ hP
              obtain rfl : r_24 = nI (1 + 4 * v1 + 2 * 0 + 1) := hw_107
              refine va_put (D := D) (ci := 5) (v := .int (nI (1 + 4 * v1 + 2 * 0 + 1))) (ty := .int) (C := RX5) (T := TX5) (N := 10) hx hb htg iX5 tyX5 tyX5_ok nmX5 hown hK hP hD hS 0 rfl rfl 7 (by decide) (htg _ tw_460) (fun _ h9 => h9) rfl (tyX5_ok 7 (by decide)) (rfl) (rfl) (Nat.le_of_ble_eq_true rfl) dX5_readsReading_110 (fun H locs hP hD hS => ?_)
              have hP : va_P D vwCl [((g 0), .inr (5, [.int th, .ref (g 1), .int (nI sv), .ref (g 2), .ref (g 3), .int (nI ln), .int (nI (u_2.1 + 1 + 1)), .int (nI (1 + 4 * v1 + 2 * 0 + 1)), .int (nI v1), .long hs])), ((g 3), .inl (y 0, 60, .inl (zX tx)))] H := hP
              have hD : va_D A [((g 0), .inr (5, [.int th, .ref (g 1), .int (nI sv), .ref (g 2), .ref (g 3), .int (nI ln), .int (nI (u_2.1 + 1 + 1)), .int (nI (1 + 4 * v1 + 2 * 0 + 1)), .int (nI v1), .long hs])), ((g 3), .inl (y 0, 60, .inl (zX tx)))] := hD
              refine lv_aload_n hx hb dX5_readsReading_113 rfl (lv_at hl 3 rfl) ?_
              refine lv_bipush (v := 61) hx hb dX5_readsReading_114 (by decide) ?_
              refine zw_calli (wr := []) (w1 := (fun _ : Unit => [((g 0), .inr (5, [.int th, .ref (g 1), .int (nI sv), .ref (g 2), .ref (g 3), .int (nI ln), .int (nI (u_2.1 + 1 + 1 + (if sg tx ln (u_2.1 + 1 + 1) = 61 then 1 else 0))), .int (nI (1 + 4 * v1 + 2 * 0 + 1)), .int (nI v1), .long hs])), ((g 3), .inl (y 0, 60, .inl (zX tx)))])) hP hD hS hA [0, 1] [] rfl rfl (by decide +kernel) (by decide +kernel) (va_runV (As := [.int 61]) (rest := []) ⟨hx, hb, hml, hown, hts⟩ (mX5_takes l D y _ g th sv ln (u_2.1 + 1 + 1) (1 + 4 * v1 + 2 * 0 + 1) (nI v1) hs tx 61 (by first | assumption | rfl | omega | decide) (by first | assumption | rfl | omega | decide) (by first | assumption | rfl | omega | decide) (by first | assumption | rfl | omega | decide)) (cwV 1 hts (zgV tw_464 tw_465 tw_466 tw_369 tw_453) rfl rfl rfl (by decide +kernel) ⟨Nat.le_of_ble_eq_true rfl, Nat.le_of_ble_eq_true rfl⟩) (zRW_preV hKN hP hD (ci := 5) (q0 := 0) rfl rfl [0, 1] rfl (by decide)) rfl rfl hl.1 rfl (lv_room (Nat.le_of_ble_eq_true rfl)) dX5_readsReading_116 ⟨Nat.zero_le _, Nat.zero_le _⟩) (fun r_25 u_26 H locs hw_116 hP hD hS => ?_)
              have hP : va_P D vwCl [((g 0), .inr (5, [.int th, .ref (g 1), .int (nI sv), .ref (g 2), .ref (g 3), .int (nI ln), .int (nI (u_2.1 + 1 + 1 + (if sg tx ln (u_2.1 + 1 + 1) = 61 then 1 else 0))), .int (nI (1 + 4 * v1 + 2 * 0 + 1)), .int (nI v1), .long hs])), ((g 3), .inl (y 0, 60, .inl (zX tx)))] H := hP
              have hD : va_D A [((g 0), .inr (5, [.int th, .ref (g 1), .int (nI sv), .ref (g 2), .ref (g 3), .int (nI ln), .int (nI (u_2.1 + 1 + 1 + (if sg tx ln (u_2.1 + 1 + 1) = 61 then 1 else 0))), .int (nI (1 + 4 * v1 + 2 * 0 + 1)), .int (nI v1), .long hs])), ((g 3), .inl (y 0, 60, .inl (zX tx)))] := hD
              obtain rfl : r_25 = (if sg tx ln (u_2.1 + 1 + 1) = 61 then (1 : Int32) else 0) := hw_116
              refine lv_if_ne (tgt := 124) hx hb dX5_readsReading_119 (by decide) (fun c_119 => ?_) (fun c_119 => ?_)
              · replace c_119 := zb1.mp c_119
                rw [if_pos c_119] at hP hD
                have hP : va_P D vwCl [((g 0), .inr (5, [.int th, .ref (g 1), .int (nI sv), .ref (g 2), .ref (g 3), .int (nI ln), .int (nI (u_2.1 + 1 + 1 + 1)), .int (nI (1 + 4 * v1 + 2 * 0 + 1)), .int (nI v1), .long hs])), ((g 3), .inl (y 0, 60, .inl (zX tx)))] H := hP
                have hD : va_D A [((g 0), .inr (5, [.int th, .ref (g 1), .int (nI sv), .ref (g 2), .ref (g 3), .int (nI ln), .int (nI (u_2.1 + 1 + 1 + 1)), .int (nI (1 + 4 * v1 + 2 * 0 + 1)), .int (nI v1), .long hs])), ((g 3), .inl (y 0, 60, .inl (zX tx)))] := hD
                have e5 : u_2.1 + 1 + 1 < ln := sg_in (tx := tx) (by omega)
                have e6 := sg_y (tx := tx) e5
                have hQ4 := zQ_34 hQ3 e5 (by omega)
                refine lv_aload_n hx hb dX5_readsReading_124 rfl (lv_at hl 3 rfl) ?_
                refine lv_bipush (v := 45) hx hb dX5_readsReading_125 (by decide) ?_
                refine zw_calli (wr := []) (w1 := (fun _ : Unit => [((g 0), .inr (5, [.int th, .ref (g 1), .int (nI sv), .ref (g 2), .ref (g 3), .int (nI ln), .int (nI (u_2.1 + 1 + 1 + 1 + (if sg tx ln (u_2.1 + 1 + 1 + 1) = 45 then 1 else 0))), .int (nI (1 + 4 * v1 + 2 * 0 + 1)), .int (nI v1), .long hs])), ((g 3), .inl (y 0, 60, .inl (zX tx)))])) hP hD hS hA [0, 1] [] rfl rfl (by decide +kernel) (by decide +kernel) (va_runV (As := [.int 45]) (rest := []) ⟨hx, hb, hml, hown, hts⟩ (mX5_takes l D y _ g th sv ln (u_2.1 + 1 + 1 + 1) (1 + 4 * v1 + 2 * 0 + 1) (nI v1) hs tx 45 (by first | assumption | rfl | omega | decide) (by first | assumption | rfl | omega | decide) (by first | assumption | rfl | omega | decide) (by first | assumption | rfl | omega | decide)) (cwV 1 hts (zgV tw_464 tw_465 tw_466 tw_369 tw_453) rfl rfl rfl (by decide +kernel) ⟨Nat.le_of_ble_eq_true rfl, Nat.le_of_ble_eq_true rfl⟩) (zRW_preV hKN hP hD (ci := 5) (q0 := 0) rfl rfl [0, 1] rfl (by decide)) rfl rfl hl.1 rfl (lv_room (Nat.le_of_ble_eq_true rfl)) dX5_readsReading_127 ⟨Nat.zero_le _, Nat.zero_le _⟩) (fun r_27 u_28 H locs hw_127 hP hD hS => ?_)
                have hP : va_P D vwCl [((g 0), .inr (5, [.int th, .ref (g 1), .int (nI sv), .ref (g 2), .ref (g 3), .int (nI ln), .int (nI (u_2.1 + 1 + 1 + 1 + (if sg tx ln (u_2.1 + 1 + 1 + 1) = 45 then 1 else 0))), .int (nI (1 + 4 * v1 + 2 * 0 + 1)), .int (nI v1), .long hs])), ((g 3), .inl (y 0, 60, .inl (zX tx)))] H := hP
                have hD : va_D A [((g 0), .inr (5, [.int th, .ref (g 1), .int (nI sv), .ref (g 2), .ref (g 3), .int (nI ln), .int (nI (u_2.1 + 1 + 1 + 1 + (if sg tx ln (u_2.1 + 1 + 1 + 1) = 45 then 1 else 0))), .int (nI (1 + 4 * v1 + 2 * 0 + 1)), .int (nI v1), .long hs])), ((g 3), .inl (y 0, 60, .inl (zX tx)))] := hD
                obtain rfl : r_27 = (if sg tx ln (u_2.1 + 1 + 1 + 1) = 45 then (1 : Int32) else 0) := hw_127
                refine lv_istore (lv' := [(4, .int (if sg tx ln (u_2.1 + 1 + 1 + 1) = 45 then (1 : Int32) else 0)), (3, .int 1), (2, .int 0), (1, .int (nI v1)), (0, .ref (g 0))]) hx hb dX5_readsReading_130 hl (by decide) rfl (fun ls hl => ?_)
                refine lv_aload_n hx hb dX5_readsReading_132 rfl (lv_at hl 4 rfl) ?_
                refine lv_iload hx hb dX5_readsReading_133 (lv_at hl 0 rfl) ?_
                refine lv_if_eq (tgt := 142) hx hb dX5_readsReading_135 (by decide) (fun c_135 => ?_) (fun c_135 => ?_)
                · replace c_135 := zb0.mp c_135
                  rw [if_neg c_135, Nat.add_zero] at hP hD
                  have hP : va_P D vwCl [((g 0), .inr (5, [.int th, .ref (g 1), .int (nI sv), .ref (g 2), .ref (g 3), .int (nI ln), .int (nI (u_2.1 + 1 + 1 + 1)), .int (nI (1 + 4 * v1 + 2 * 0 + 1)), .int (nI v1), .long hs])), ((g 3), .inl (y 0, 60, .inl (zX tx)))] H := hP
                  have hD : va_D A [((g 0), .inr (5, [.int th, .ref (g 1), .int (nI sv), .ref (g 2), .ref (g 3), .int (nI ln), .int (nI (u_2.1 + 1 + 1 + 1)), .int (nI (1 + 4 * v1 + 2 * 0 + 1)), .int (nI v1), .long hs])), ((g 3), .inl (y 0, 60, .inl (zX tx)))] := hD
                  refine lv_iconst (v := 0) hx hb dX5_readsReading_142 (by decide) ?_
                  refine lv_sipush (v := 200) hx hb dX5_readsReading_143 (by decide) ?_
                  refine zw_calli (wr := []) (w1 := (fun u : (Nat × Int32) => [((g 0), .inr (5, [.int th, .ref (g 1), .int (nI sv), .ref (g 2), .ref (g 3), .int (nI ln), .int (nI u.1), .int (nI (1 + 4 * v1 + 2 * 0 + 1)), .int u.2, .long hs])), ((g 3), .inl (y 0, 60, .inl (zX tx)))])) hP hD hS hA [0, 1] [] rfl rfl (by decide +kernel) (by decide +kernel) (va_runV (As := [.int 0, .int 200]) (rest := []) ⟨hx, hb, hml, hown, hts⟩ (mX5_readsNumber l D y _ g th sv ln (u_2.1 + 1 + 1 + 1) (1 + 4 * v1 + 2 * 0 + 1) (nI v1) hs tx (fun b v => zQ tx ln at9 b 6 v1 0 1 0 v) 0 200 (by first | assumption | rfl | omega | decide) (by first | assumption | rfl | omega | decide) (by first | assumption | rfl | omega | decide) (by first | assumption | rfl | omega | decide) (by first | assumption | rfl | omega | decide) (fun h1 h2 h3 => zQ_46 hQ4 h1 ⟨by omega, h3⟩) (fun b v h1 h2 h3 h4 h5 => zQ_66 h1 h2 h4 h3 h5)) (cwV 2 hts (zgV tw_461 tw_462 tw_463 tw_369 tw_457) rfl rfl rfl (by decide +kernel) ⟨Nat.le_of_ble_eq_true rfl, Nat.le_of_ble_eq_true rfl⟩) (zRW_preV hKN hP hD (ci := 5) (q0 := 0) rfl rfl [0, 1] rfl (by decide)) rfl rfl hl.1 rfl (lv_room (Nat.le_of_ble_eq_true rfl)) dX5_readsReading_146 ⟨Nat.zero_le _, Nat.zero_le _⟩) (fun r_29 u_30 H locs hw_146 hP hD hS => ?_)
                  have hP : va_P D vwCl [((g 0), .inr (5, [.int th, .ref (g 1), .int (nI sv), .ref (g 2), .ref (g 3), .int (nI ln), .int (nI u_30.1), .int (nI (1 + 4 * v1 + 2 * 0 + 1)), .int u_30.2, .long hs])), ((g 3), .inl (y 0, 60, .inl (zX tx)))] H := hP
                  have hD : va_D A [((g 0), .inr (5, [.int th, .ref (g 1), .int (nI sv), .ref (g 2), .ref (g 3), .int (nI ln), .int (nI u_30.1), .int (nI (1 + 4 * v1 + 2 * 0 + 1)), .int u_30.2, .long hs])), ((g 3), .inl (y 0, 60, .inl (zX tx)))] := hD
                  try dsimp only at hw_146
                  rcases hw_146 with ⟨er2, ea2, ev2, en2⟩ | ⟨er2, v2, ev2, hv2, hlt2, hP2, hle2, hno2⟩
                  · refine zz_top (y := 0) er2 ?_
                    rw [ea2] at hP hD
                    have hP : va_P D vwCl [((g 0), .inr (5, [.int th, .ref (g 1), .int (nI sv), .ref (g 2), .ref (g 3), .int (nI ln), .int (nI (u_2.1 + 1 + 1 + 1)), .int (nI (1 + 4 * v1 + 2 * 0 + 1)), .int u_30.2, .long hs])), ((g 3), .inl (y 0, 60, .inl (zX tx)))] H := hP
                    have hD : va_D A [((g 0), .inr (5, [.int th, .ref (g 1), .int (nI sv), .ref (g 2), .ref (g 3), .int (nI ln), .int (nI (u_2.1 + 1 + 1 + 1)), .int (nI (1 + 4 * v1 + 2 * 0 + 1)), .int u_30.2, .long hs])), ((g 3), .inl (y 0, 60, .inl (zX tx)))] := hD
                    refine lv_istore (lv' := [(5, .int 0), (4, .int (if sg tx ln (u_2.1 + 1 + 1 + 1) = 45 then (1 : Int32) else 0)), (3, .int 1), (2, .int 0), (1, .int (nI v1)), (0, .ref (g 0))]) hx hb dX5_readsReading_149 hl (by decide) rfl (fun ls hl => ?_)
                    refine lv_aload_n hx hb dX5_readsReading_151 rfl (lv_at hl 5 rfl) ?_
                    refine lv_iload hx hb dX5_readsReading_152 (lv_at hl 1 rfl) ?_
                    refine lv_if_eq (tgt := 165) hx hb dX5_readsReading_154 (by decide) (fun _ => ?_) (fun c_154 => absurd (zb0.mpr c_135) c_154)
                    refine lv_aload_n hx hb dX5_readsReading_165 rfl (lv_at hl 5 rfl) ?_
                    refine va_get (D := D) (ci := 5) (v := .int u_30.2) (C := RX5) (T := TX5) (N := 10) hx hb htg iX5 hown hK hP 0 rfl rfl 8 (by decide) (htg _ tw_458) (fun _ h9 => h9) rfl dX5_readsReading_166 ?_
                    refine va_put (D := D) (ci := 5) (v := .int u_30.2) (ty := .int) (C := RX5) (T := TX5) (N := 10) hx hb htg iX5 tyX5 tyX5_ok nmX5 hown hK hP hD hS 0 rfl rfl 8 (by decide) (htg _ tw_458) (fun _ h9 => h9) rfl (tyX5_ok 8 (by decide)) (rfl) (rfl) (Nat.le_of_ble_eq_true rfl) dX5_readsReading_169 (fun H locs hP hD hS => ?_)
                    have hP : va_P D vwCl [((g 0), .inr (5, [.int th, .ref (g 1), .int (nI sv), .ref (g 2), .ref (g 3), .int (nI ln), .int (nI (u_2.1 + 1 + 1 + 1)), .int (nI (1 + 4 * v1 + 2 * 0 + 1)), .int u_30.2, .long hs])), ((g 3), .inl (y 0, 60, .inl (zX tx)))] H := hP
                    have hD : va_D A [((g 0), .inr (5, [.int th, .ref (g 1), .int (nI sv), .ref (g 2), .ref (g 3), .int (nI ln), .int (nI (u_2.1 + 1 + 1 + 1)), .int (nI (1 + 4 * v1 + 2 * 0 + 1)), .int u_30.2, .long hs])), ((g 3), .inl (y 0, 60, .inl (zX tx)))] := hD
                    refine lv_iload hx hb dX5_readsReading_172 (lv_at hl 0 rfl) ?_
                    refine W.widen (k := 0) (n := 0) (by first | exact Nat.le_of_ble_eq_true rfl | omega) (by first | exact Nat.le_of_ble_eq_true rfl | omega) ?_
                    exact W.zret (v := 0) hx hb hr (rfl) (fun t ht hW => ⟨⟨0, (u_2.1 + 1 + 1 + 1, 1 + 4 * v1 + 2 * 0 + 1, u_30.2), rfl, Or.inl ⟨rfl, show zBad tx ln (u_2.1 + 1 + 1 + 1) from zQ_f4 hQ4 c_135 (fun h => en2 ⟨by omega, by omega⟩)⟩, ⟨by rw [ht]; exact hP, hD⟩⟩, hS.F ht⟩) hS.2.2 dX5_readsReading_174
                  · refine zz_top (y := 1) er2 ?_
                    rw [ev2] at hP hD
                    have hP : va_P D vwCl [((g 0), .inr (5, [.int th, .ref (g 1), .int (nI sv), .ref (g 2), .ref (g 3), .int (nI ln), .int (nI u_30.1), .int (nI (1 + 4 * v1 + 2 * 0 + 1)), .int (nI v2), .long hs])), ((g 3), .inl (y 0, 60, .inl (zX tx)))] H := hP
                    have hD : va_D A [((g 0), .inr (5, [.int th, .ref (g 1), .int (nI sv), .ref (g 2), .ref (g 3), .int (nI ln), .int (nI u_30.1), .int (nI (1 + 4 * v1 + 2 * 0 + 1)), .int (nI v2), .long hs])), ((g 3), .inl (y 0, 60, .inl (zX tx)))] := hD
                    refine lv_istore (lv' := [(5, .int 1), (4, .int (if sg tx ln (u_2.1 + 1 + 1 + 1) = 45 then (1 : Int32) else 0)), (3, .int 1), (2, .int 0), (1, .int (nI v1)), (0, .ref (g 0))]) hx hb dX5_readsReading_149 hl (by decide) rfl (fun ls hl => ?_)
                    refine lv_aload_n hx hb dX5_readsReading_151 rfl (lv_at hl 5 rfl) ?_
                    refine lv_iload hx hb dX5_readsReading_152 (lv_at hl 1 rfl) ?_
                    refine lv_if_eq (tgt := 165) hx hb dX5_readsReading_154 (by decide) (fun _ => ?_) (fun c_154 => absurd (zb0.mpr c_135) c_154)
                    refine lv_aload_n hx hb dX5_readsReading_165 rfl (lv_at hl 5 rfl) ?_
                    refine va_get (D := D) (ci := 5) (v := .int (nI v2)) (C := RX5) (T := TX5) (N := 10) hx hb htg iX5 hown hK hP 0 rfl rfl 8 (by decide) (htg _ tw_458) (fun _ h9 => h9) rfl dX5_readsReading_166 ?_
                    refine va_put (D := D) (ci := 5) (v := .int (nI v2)) (ty := .int) (C := RX5) (T := TX5) (N := 10) hx hb htg iX5 tyX5 tyX5_ok nmX5 hown hK hP hD hS 0 rfl rfl 8 (by decide) (htg _ tw_458) (fun _ h9 => h9) rfl (tyX5_ok 8 (by decide)) (rfl) (rfl) (Nat.le_of_ble_eq_true rfl) dX5_readsReading_169 (fun H locs hP hD hS => ?_)
                    have hP : va_P D vwCl [((g 0), .inr (5, [.int th, .ref (g 1), .int (nI sv), .ref (g 2), .ref (g 3), .int (nI ln), .int (nI u_30.1), .int (nI (1 + 4 * v1 + 2 * 0 + 1)), .int (nI v2), .long hs])), ((g 3), .inl (y 0, 60, .inl (zX tx)))] H := hP
                    have hD : va_D A [((g 0), .inr (5, [.int th, .ref (g 1), .int (nI sv), .ref (g 2), .ref (g 3), .int (nI ln), .int (nI u_30.1), .int (nI (1 + 4 * v1 + 2 * 0 + 1)), .int (nI v2), .long hs])), ((g 3), .inl (y 0, 60, .inl (zX tx)))] := hD
                    refine lv_iload hx hb dX5_readsReading_172 (lv_at hl 0 rfl) ?_
                    refine W.widen (k := 0) (n := 0) (by first | exact Nat.le_of_ble_eq_true rfl | omega) (by first | exact Nat.le_of_ble_eq_true rfl | omega) ?_
                    exact W.zret (v := 1) hx hb hr (rfl) (fun t ht hW => ⟨⟨1, (u_30.1, 1 + 4 * v1 + 2 * 0 + 1, nI v2), rfl, Or.inr ⟨rfl, show zGot tx ln at9 (u_30.1) (1 + 4 * v1 + 2 * 0 + 1) (nI v2) from zQ_6 hP2 (by omega) hno2 ((if_pos rfl).symm) (by omega)⟩, ⟨by rw [ht]; exact hP, hD⟩⟩, hS.F ht⟩) hS.2.2 dX5_readsReading_174
                · replace c_135 := zb1.mp c_135
                  rw [if_pos c_135] at hP hD
                  have hP : va_P D vwCl [((g 0), .inr (5, [.int th, .ref (g 1), .int (nI sv), .ref (g 2), .ref (g 3), .int (nI ln), .int (nI (u_2.1 + 1 + 1 + 1 + 1)), .int (nI (1 + 4 * v1 + 2 * 0 + 1)), .int (nI v1), .long hs])), ((g 3), .inl (y 0, 60, .inl (zX tx)))] H := hP
                  have hD : va_D A [((g 0), .inr (5, [.int th, .ref (g 1), .int (nI sv), .ref (g 2), .ref (g 3), .int (nI ln), .int (nI (u_2.1 + 1 + 1 + 1 + 1)), .int (nI (1 + 4 * v1 + 2 * 0 + 1)), .int (nI v1), .long hs])), ((g 3), .inl (y 0, 60, .inl (zX tx)))] := hD
                  have e7 : u_2.1 + 1 + 1 + 1 < ln := sg_in (tx := tx) (by omega)
                  have e8 := sg_y (tx := tx) e7
                  have hQ5 := zQ_45 hQ4 e7 (by omega)
                  refine lv_iconst (v := 1) hx hb dX5_readsReading_138 (by decide) ?_
                  refine lv_goto (tgt := 143) hx hb dX5_readsReading_139 (by decide) ?_
                  refine lv_sipush (v := 200) hx hb dX5_readsReading_143 (by decide) ?_
                  refine zw_calli (wr := []) (w1 := (fun u : (Nat × Int32) => [((g 0), .inr (5, [.int th, .ref (g 1), .int (nI sv), .ref (g 2), .ref (g 3), .int (nI ln), .int (nI u.1), .int (nI (1 + 4 * v1 + 2 * 0 + 1)), .int u.2, .long hs])), ((g 3), .inl (y 0, 60, .inl (zX tx)))])) hP hD hS hA [0, 1] [] rfl rfl (by decide +kernel) (by decide +kernel) (va_runV (As := [.int 1, .int 200]) (rest := []) ⟨hx, hb, hml, hown, hts⟩ (mX5_readsNumber l D y _ g th sv ln (u_2.1 + 1 + 1 + 1 + 1) (1 + 4 * v1 + 2 * 0 + 1) (nI v1) hs tx (fun b v => zQ tx ln at9 b 6 v1 0 1 1 v) 1 200 (by first | assumption | rfl | omega | decide) (by first | assumption | rfl | omega | decide) (by first | assumption | rfl | omega | decide) (by first | assumption | rfl | omega | decide) (by first | assumption | rfl | omega | decide) (fun h1 h2 h3 => zQ_56 hQ5 h1 (by omega) h3) (fun b v h1 h2 h3 h4 h5 => zQ_66 h1 h2 h4 h3 h5)) (cwV 2 hts (zgV tw_461 tw_462 tw_463 tw_369 tw_457) rfl rfl rfl (by decide +kernel) ⟨Nat.le_of_ble_eq_true rfl, Nat.le_of_ble_eq_true rfl⟩) (zRW_preV hKN hP hD (ci := 5) (q0 := 0) rfl rfl [0, 1] rfl (by decide)) rfl rfl hl.1 rfl (lv_room (Nat.le_of_ble_eq_true rfl)) dX5_readsReading_146 ⟨Nat.zero_le _, Nat.zero_le _⟩) (fun r_31 u_32 H locs hw_146 hP hD hS => ?_)
                  have hP : va_P D vwCl [((g 0), .inr (5, [.int th, .ref (g 1), .int (nI sv), .ref (g 2), .ref (g 3), .int (nI ln), .int (nI u_32.1), .int (nI (1 + 4 * v1 + 2 * 0 + 1)), .int u_32.2, .long hs])), ((g 3), .inl (y 0, 60, .inl (zX tx)))] H := hP
                  have hD : va_D A [((g 0), .inr (5, [.int th, .ref (g 1), .int (nI sv), .ref (g 2), .ref (g 3), .int (nI ln), .int (nI u_32.1), .int (nI (1 + 4 * v1 + 2 * 0 + 1)), .int u_32.2, .long hs])), ((g 3), .inl (y 0, 60, .inl (zX tx)))] := hD
                  try dsimp only at hw_146
                  rcases hw_146 with ⟨er2, ea2, ev2, en2⟩ | ⟨er2, v2, ev2, hv2, hlt2, hP2, hle2, hno2⟩
                  · refine zz_top (y := 0) er2 ?_
                    rw [ea2] at hP hD
                    have hP : va_P D vwCl [((g 0), .inr (5, [.int th, .ref (g 1), .int (nI sv), .ref (g 2), .ref (g 3), .int (nI ln), .int (nI (u_2.1 + 1 + 1 + 1 + 1)), .int (nI (1 + 4 * v1 + 2 * 0 + 1)), .int u_32.2, .long hs])), ((g 3), .inl (y 0, 60, .inl (zX tx)))] H := hP
                    have hD : va_D A [((g 0), .inr (5, [.int th, .ref (g 1), .int (nI sv), .ref (g 2), .ref (g 3), .int (nI ln), .int (nI (u_2.1 + 1 + 1 + 1 + 1)), .int (nI (1 + 4 * v1 + 2 * 0 + 1)), .int u_32.2, .long hs])), ((g 3), .inl (y 0, 60, .inl (zX tx)))] := hD
                    refine lv_istore (lv' := [(5, .int 0), (4, .int (if sg tx ln (u_2.1 + 1 + 1 + 1) = 45 then (1 : Int32) else 0)), (3, .int 1), (2, .int 0), (1, .int (nI v1)), (0, .ref (g 0))]) hx hb dX5_readsReading_149 hl (by decide) rfl (fun ls hl => ?_)
                    refine lv_aload_n hx hb dX5_readsReading_151 rfl (lv_at hl 5 rfl) ?_
                    refine lv_iload hx hb dX5_readsReading_152 (lv_at hl 1 rfl) ?_
                    refine lv_if_eq (tgt := 165) hx hb dX5_readsReading_154 (by decide) (fun c_154 => absurd c_154 (zb1.mpr c_135)) (fun _ => ?_)
                    refine lv_aload_n hx hb dX5_readsReading_157 rfl (lv_at hl 5 rfl) ?_
                    refine va_get (D := D) (ci := 5) (v := .int u_32.2) (C := RX5) (T := TX5) (N := 10) hx hb htg iX5 hown hK hP 0 rfl rfl 8 (by decide) (htg _ tw_458) (fun _ h9 => h9) rfl dX5_readsReading_158 ?_
                    refine lv_ineg hx hb dX5_readsReading_161 ?_
                    refine lv_goto (tgt := 169) hx hb dX5_readsReading_162 (by decide) ?_
                    refine va_put (D := D) (ci := 5) (v := .int (-u_32.2)) (ty := .int) (C := RX5) (T := TX5) (N := 10) hx hb htg iX5 tyX5 tyX5_ok nmX5 hown hK hP hD hS 0 rfl rfl 8 (by decide) (htg _ tw_458) (fun _ h9 => h9) rfl (tyX5_ok 8 (by decide)) (rfl) (rfl) (Nat.le_of_ble_eq_true rfl) dX5_readsReading_169 (fun H locs hP hD hS => ?_)
                    have hP : va_P D vwCl [((g 0), .inr (5, [.int th, .ref (g 1), .int (nI sv), .ref (g 2), .ref (g 3), .int (nI ln), .int (nI (u_2.1 + 1 + 1 + 1 + 1)), .int (nI (1 + 4 * v1 + 2 * 0 + 1)), .int (-u_32.2), .long hs])), ((g 3), .inl (y 0, 60, .inl (zX tx)))] H := hP
                    have hD : va_D A [((g 0), .inr (5, [.int th, .ref (g 1), .int (nI sv), .ref (g 2), .ref (g 3), .int (nI ln), .int (nI (u_2.1 + 1 + 1 + 1 + 1)), .int (nI (1 + 4 * v1 + 2 * 0 + 1)), .int (-u_32.2), .long hs])), ((g 3), .inl (y 0, 60, .inl (zX tx)))] := hD
                    refine lv_iload hx hb dX5_readsReading_172 (lv_at hl 0 rfl) ?_
                    refine W.widen (k := 0) (n := 0) (by first | exact Nat.le_of_ble_eq_true rfl | omega) (by first | exact Nat.le_of_ble_eq_true rfl | omega) ?_
                    exact W.zret (v := 0) hx hb hr (rfl) (fun t ht hW => ⟨⟨0, (u_2.1 + 1 + 1 + 1 + 1, 1 + 4 * v1 + 2 * 0 + 1, -u_32.2), rfl, Or.inl ⟨rfl, show zBad tx ln (u_2.1 + 1 + 1 + 1 + 1) from zQ_f5 hQ5 (fun h => en2 ⟨by omega, by omega⟩)⟩, ⟨by rw [ht]; exact hP, hD⟩⟩, hS.F ht⟩) hS.2.2 dX5_readsReading_174
                  · refine zz_top (y := 1) er2 ?_
                    rw [ev2] at hP hD
                    have hP : va_P D vwCl [((g 0), .inr (5, [.int th, .ref (g 1), .int (nI sv), .ref (g 2), .ref (g 3), .int (nI ln), .int (nI u_32.1), .int (nI (1 + 4 * v1 + 2 * 0 + 1)), .int (nI v2), .long hs])), ((g 3), .inl (y 0, 60, .inl (zX tx)))] H := hP
                    have hD : va_D A [((g 0), .inr (5, [.int th, .ref (g 1), .int (nI sv), .ref (g 2), .ref (g 3), .int (nI ln), .int (nI u_32.1), .int (nI (1 + 4 * v1 + 2 * 0 + 1)), .int (nI v2), .long hs])), ((g 3), .inl (y 0, 60, .inl (zX tx)))] := hD
                    refine lv_istore (lv' := [(5, .int 1), (4, .int (if sg tx ln (u_2.1 + 1 + 1 + 1) = 45 then (1 : Int32) else 0)), (3, .int 1), (2, .int 0), (1, .int (nI v1)), (0, .ref (g 0))]) hx hb dX5_readsReading_149 hl (by decide) rfl (fun ls hl => ?_)
                    refine lv_aload_n hx hb dX5_readsReading_151 rfl (lv_at hl 5 rfl) ?_
                    refine lv_iload hx hb dX5_readsReading_152 (lv_at hl 1 rfl) ?_
                    refine lv_if_eq (tgt := 165) hx hb dX5_readsReading_154 (by decide) (fun c_154 => absurd c_154 (zb1.mpr c_135)) (fun _ => ?_)
                    refine lv_aload_n hx hb dX5_readsReading_157 rfl (lv_at hl 5 rfl) ?_
                    refine va_get (D := D) (ci := 5) (v := .int (nI v2)) (C := RX5) (T := TX5) (N := 10) hx hb htg iX5 hown hK hP 0 rfl rfl 8 (by decide) (htg _ tw_458) (fun _ h9 => h9) rfl dX5_readsReading_158 ?_
                    refine lv_ineg hx hb dX5_readsReading_161 ?_
                    refine lv_goto (tgt := 169) hx hb dX5_readsReading_162 (by decide) ?_
                    refine va_put (D := D) (ci := 5) (v := .int (-(nI v2))) (ty := .int) (C := RX5) (T := TX5) (N := 10) hx hb htg iX5 tyX5 tyX5_ok nmX5 hown hK hP hD hS 0 rfl rfl 8 (by decide) (htg _ tw_458) (fun _ h9 => h9) rfl (tyX5_ok 8 (by decide)) (rfl) (rfl) (Nat.le_of_ble_eq_true rfl) dX5_readsReading_169 (fun H locs hP hD hS => ?_)
                    have hP : va_P D vwCl [((g 0), .inr (5, [.int th, .ref (g 1), .int (nI sv), .ref (g 2), .ref (g 3), .int (nI ln), .int (nI u_32.1), .int (nI (1 + 4 * v1 + 2 * 0 + 1)), .int (-(nI v2)), .long hs])), ((g 3), .inl (y 0, 60, .inl (zX tx)))] H := hP
                    have hD : va_D A [((g 0), .inr (5, [.int th, .ref (g 1), .int (nI sv), .ref (g 2), .ref (g 3), .int (nI ln), .int (nI u_32.1), .int (nI (1 + 4 * v1 + 2 * 0 + 1)), .int (-(nI v2)), .long hs])), ((g 3), .inl (y 0, 60, .inl (zX tx)))] := hD
                    refine lv_iload hx hb dX5_readsReading_172 (lv_at hl 0 rfl) ?_
                    refine W.widen (k := 0) (n := 0) (by first | exact Nat.le_of_ble_eq_true rfl | omega) (by first | exact Nat.le_of_ble_eq_true rfl | omega) ?_
                    exact W.zret (v := 1) hx hb hr (rfl) (fun t ht hW => ⟨⟨1, (u_32.1, 1 + 4 * v1 + 2 * 0 + 1, -(nI v2)), rfl, Or.inr ⟨rfl, show zGot tx ln at9 (u_32.1) (1 + 4 * v1 + 2 * 0 + 1) (-(nI v2)) from zQ_6 hP2 (by omega) hno2 ((if_neg (by decide)).symm) (by omega)⟩, ⟨by rw [ht]; exact hP, hD⟩⟩, hS.F ht⟩) hS.2.2 dX5_readsReading_174
              · replace c_119 := zb0.mp c_119
                rw [if_neg c_119, Nat.add_zero] at hP hD
                have hP : va_P D vwCl [((g 0), .inr (5, [.int th, .ref (g 1), .int (nI sv), .ref (g 2), .ref (g 3), .int (nI ln), .int (nI (u_2.1 + 1 + 1)), .int (nI (1 + 4 * v1 + 2 * 0 + 1)), .int (nI v1), .long hs])), ((g 3), .inl (y 0, 60, .inl (zX tx)))] H := hP
                have hD : va_D A [((g 0), .inr (5, [.int th, .ref (g 1), .int (nI sv), .ref (g 2), .ref (g 3), .int (nI ln), .int (nI (u_2.1 + 1 + 1)), .int (nI (1 + 4 * v1 + 2 * 0 + 1)), .int (nI v1), .long hs])), ((g 3), .inl (y 0, 60, .inl (zX tx)))] := hD
                refine lv_iconst (v := 0) hx hb dX5_readsReading_122 (by decide) ?_
                refine W.widen (k := 0) (n := 0) (by first | exact Nat.le_of_ble_eq_true rfl | omega) (by first | exact Nat.le_of_ble_eq_true rfl | omega) ?_
                exact W.zret (v := 0) hx hb hr (rfl) (fun t ht hW => ⟨⟨0, (u_2.1 + 1 + 1, 1 + 4 * v1 + 2 * 0 + 1, nI v1), rfl, Or.inl ⟨rfl, show zBad tx ln (u_2.1 + 1 + 1) from zQ_f3 hQ3 c_119⟩, ⟨by rw [ht]; exact hP, hD⟩⟩, hS.F ht⟩) hS.2.2 dX5_readsReading_123
            · replace c_82 := zb0.mp c_82
              rw [if_neg c_82, Nat.add_zero] at hP hD
              have hP : va_P D vwCl [((g 0), .inr (5, [.int th, .ref (g 1), .int (nI sv), .ref (g 2), .ref (g 3), .int (nI ln), .int (nI (u_2.1 + 1)), .int (nI pl), .int (nI v1), .long hs])), ((g 3), .inl (y 0, 60, .inl (zX tx)))] H := hP
              have hD : va_D A [((g 0), .inr (5, [.int th, .ref (g 1), .int (nI sv), .ref (g 2), .ref (g 3), .int (nI ln), .int (nI (u_2.1 + 1)), .int (nI pl), .int (nI v1), .long hs])), ((g 3), .inl (y 0, 60, .inl (zX tx)))] := hD
              refine lv_iconst (v := 0) hx hb dX5_readsReading_85 (by decide) ?_
              refine W.widen (k := 0) (n := 0) (by first | exact Nat.le_of_ble_eq_true rfl | omega) (by first | exact Nat.le_of_ble_eq_true rfl | omega) ?_
              exact W.zret (v := 0) hx hb hr (rfl) (fun t ht hW => ⟨⟨0, (u_2.1 + 1, pl, nI v1), rfl, Or.inl ⟨rfl, show zBad tx ln (u_2.1 + 1) from zQ_f2 hQ2 c_73 c_82⟩, ⟨by rw [ht]; exact hP, hD⟩⟩, hS.F ht⟩) hS.2.2 dX5_readsReading_86
      · replace c_38 := zb0.mp c_38
        rw [if_neg c_38, Nat.add_zero] at hP hD
        have hP : va_P D vwCl [((g 0), .inr (5, [.int th, .ref (g 1), .int (nI sv), .ref (g 2), .ref (g 3), .int (nI ln), .int (nI u_2.1), .int (nI pl), .int (nI v1), .long hs])), ((g 3), .inl (y 0, 60, .inl (zX tx)))] H := hP
        have hD : va_D A [((g 0), .inr (5, [.int th, .ref (g 1), .int (nI sv), .ref (g 2), .ref (g 3), .int (nI ln), .int (nI u_2.1), .int (nI pl), .int (nI v1), .long hs])), ((g 3), .inl (y 0, 60, .inl (zX tx)))] := hD
        refine lv_aload_n hx hb dX5_readsReading_41 rfl (lv_at hl 2 rfl) ?_
        refine lv_bipush (v := 98) hx hb dX5_readsReading_42 (by decide) ?_
        refine zw_calli (wr := []) (w1 := (fun _ : Unit => [((g 0), .inr (5, [.int th, .ref (g 1), .int (nI sv), .ref (g 2), .ref (g 3), .int (nI ln), .int (nI (u_2.1 + (if sg tx ln u_2.1 = 98 then 1 else 0))), .int (nI pl), .int (nI v1), .long hs])), ((g 3), .inl (y 0, 60, .inl (zX tx)))])) hP hD hS hA [0, 1] [] rfl rfl (by decide +kernel) (by decide +kernel) (va_runV (As := [.int 98]) (rest := []) ⟨hx, hb, hml, hown, hts⟩ (mX5_takes l D y _ g th sv ln u_2.1 pl (nI v1) hs tx 98 (by first | assumption | rfl | omega | decide) (by first | assumption | rfl | omega | decide) (by first | assumption | rfl | omega | decide) (by first | assumption | rfl | omega | decide)) (cwV 1 hts (zgV tw_464 tw_465 tw_466 tw_369 tw_453) rfl rfl rfl (by decide +kernel) ⟨Nat.le_of_ble_eq_true rfl, Nat.le_of_ble_eq_true rfl⟩) (zRW_preV hKN hP hD (ci := 5) (q0 := 0) rfl rfl [0, 1] rfl (by decide)) rfl rfl hl.1 rfl (lv_room (Nat.le_of_ble_eq_true rfl)) dX5_readsReading_44 ⟨Nat.zero_le _, Nat.zero_le _⟩) (fun r_33 u_34 H locs hw_44 hP hD hS => ?_)
        have hP : va_P D vwCl [((g 0), .inr (5, [.int th, .ref (g 1), .int (nI sv), .ref (g 2), .ref (g 3), .int (nI ln), .int (nI (u_2.1 + (if sg tx ln u_2.1 = 98 then 1 else 0))), .int (nI pl), .int (nI v1), .long hs])), ((g 3), .inl (y 0, 60, .inl (zX tx)))] H := hP
        have hD : va_D A [((g 0), .inr (5, [.int th, .ref (g 1), .int (nI sv), .ref (g 2), .ref (g 3), .int (nI ln), .int (nI (u_2.1 + (if sg tx ln u_2.1 = 98 then 1 else 0))), .int (nI pl), .int (nI v1), .long hs])), ((g 3), .inl (y 0, 60, .inl (zX tx)))] := hD
        obtain rfl : r_33 = (if sg tx ln u_2.1 = 98 then (1 : Int32) else 0) := hw_44
        refine lv_if_ne (tgt := 52) hx hb dX5_readsReading_47 (by decide) (fun c_47 => ?_) (fun c_47 => ?_)
        · replace c_47 := zb1.mp c_47
          exact absurd c_47 c_23
        · replace c_47 := zb0.mp c_47
          rw [if_neg c_47, Nat.add_zero] at hP hD
          have hP : va_P D vwCl [((g 0), .inr (5, [.int th, .ref (g 1), .int (nI sv), .ref (g 2), .ref (g 3), .int (nI ln), .int (nI u_2.1), .int (nI pl), .int (nI v1), .long hs])), ((g 3), .inl (y 0, 60, .inl (zX tx)))] H := hP
          have hD : va_D A [((g 0), .inr (5, [.int th, .ref (g 1), .int (nI sv), .ref (g 2), .ref (g 3), .int (nI ln), .int (nI u_2.1), .int (nI pl), .int (nI v1), .long hs])), ((g 3), .inl (y 0, 60, .inl (zX tx)))] := hD
          refine lv_iconst (v := 0) hx hb dX5_readsReading_50 (by decide) ?_
          refine W.widen (k := 0) (n := 0) (by first | exact Nat.le_of_ble_eq_true rfl | omega) (by first | exact Nat.le_of_ble_eq_true rfl | omega) ?_
          exact W.zret (v := 0) hx hb hr (rfl) (fun t ht hW => ⟨⟨0, (u_2.1, pl, nI v1), rfl, Or.inl ⟨rfl, show zBad tx ln (u_2.1) from zQ_f1 hP1 c_38 c_47 hno1⟩, ⟨by rw [ht]; exact hP, hD⟩⟩, hS.F ht⟩) hS.2.2 dX5_readsReading_51
    · replace c_23 : (sg tx ln u_2.1) = 98 := (nI_eq (a := (sg tx ln u_2.1)) (b := 98) (by omega) (by omega)).mp c_23
      refine lv_iconst (v := 1) hx hb dX5_readsReading_26 (by decide) ?_
      refine lv_goto (tgt := 31) hx hb dX5_readsReading_27 (by decide) ?_
      refine lv_istore_n (lv' := [(2, .int 1), (1, .int (nI v1)), (0, .ref (g 0))]) hx hb dX5_readsReading_31 rfl hl (by decide) rfl (fun ls hl => ?_)
      refine lv_aload_n hx hb dX5_readsReading_32 rfl (lv_at hl 2 rfl) ?_
      refine lv_bipush (v := 97) hx hb dX5_readsReading_33 (by decide) ?_
      refine zw_calli (wr := []) (w1 := (fun _ : Unit => [((g 0), .inr (5, [.int th, .ref (g 1), .int (nI sv), .ref (g 2), .ref (g 3), .int (nI ln), .int (nI (u_2.1 + (if sg tx ln u_2.1 = 97 then 1 else 0))), .int (nI pl), .int (nI v1), .long hs])), ((g 3), .inl (y 0, 60, .inl (zX tx)))])) hP hD hS hA [0, 1] [] rfl rfl (by decide +kernel) (by decide +kernel) (va_runV (As := [.int 97]) (rest := []) ⟨hx, hb, hml, hown, hts⟩ (mX5_takes l D y _ g th sv ln u_2.1 pl (nI v1) hs tx 97 (by first | assumption | rfl | omega | decide) (by first | assumption | rfl | omega | decide) (by first | assumption | rfl | omega | decide) (by first | assumption | rfl | omega | decide)) (cwV 1 hts (zgV tw_464 tw_465 tw_466 tw_369 tw_453) rfl rfl rfl (by decide +kernel) ⟨Nat.le_of_ble_eq_true rfl, Nat.le_of_ble_eq_true rfl⟩) (zRW_preV hKN hP hD (ci := 5) (q0 := 0) rfl rfl [0, 1] rfl (by decide)) rfl rfl hl.1 rfl (lv_room (Nat.le_of_ble_eq_true rfl)) dX5_readsReading_35 ⟨Nat.zero_le _, Nat.zero_le _⟩) (fun r_35 u_36 H locs hw_35 hP hD hS => ?_)
      have hP : va_P D vwCl [((g 0), .inr (5, [.int th, .ref (g 1), .int (nI sv), .ref (g 2), .ref (g 3), .int (nI ln), .int (nI (u_2.1 + (if sg tx ln u_2.1 = 97 then 1 else 0))), .int (nI pl), .int (nI v1), .long hs])), ((g 3), .inl (y 0, 60, .inl (zX tx)))] H := hP
      have hD : va_D A [((g 0), .inr (5, [.int th, .ref (g 1), .int (nI sv), .ref (g 2), .ref (g 3), .int (nI ln), .int (nI (u_2.1 + (if sg tx ln u_2.1 = 97 then 1 else 0))), .int (nI pl), .int (nI v1), .long hs])), ((g 3), .inl (y 0, 60, .inl (zX tx)))] := hD
      obtain rfl : r_35 = (if sg tx ln u_2.1 = 97 then (1 : Int32) else 0) := hw_35
      refine lv_if_ne (tgt := 52) hx hb dX5_readsReading_38 (by decide) (fun c_38 => ?_) (fun c_38 => ?_)
      · replace c_38 := zb1.mp c_38
        exfalso; omega
      · replace c_38 := zb0.mp c_38
        rw [if_neg c_38, Nat.add_zero] at hP hD
        have hP : va_P D vwCl [((g 0), .inr (5, [.int th, .ref (g 1), .int (nI sv), .ref (g 2), .ref (g 3), .int (nI ln), .int (nI u_2.1), .int (nI pl), .int (nI v1), .long hs])), ((g 3), .inl (y 0, 60, .inl (zX tx)))] H := hP
        have hD : va_D A [((g 0), .inr (5, [.int th, .ref (g 1), .int (nI sv), .ref (g 2), .ref (g 3), .int (nI ln), .int (nI u_2.1), .int (nI pl), .int (nI v1), .long hs])), ((g 3), .inl (y 0, 60, .inl (zX tx)))] := hD
        refine lv_aload_n hx hb dX5_readsReading_41 rfl (lv_at hl 2 rfl) ?_
        refine lv_bipush (v := 98) hx hb dX5_readsReading_42 (by decide) ?_
        refine zw_calli (wr := []) (w1 := (fun _ : Unit => [((g 0), .inr (5, [.int th, .ref (g 1), .int (nI sv), .ref (g 2), .ref (g 3), .int (nI ln), .int (nI (u_2.1 + (if sg tx ln u_2.1 = 98 then 1 else 0))), .int (nI pl), .int (nI v1), .long hs])), ((g 3), .inl (y 0, 60, .inl (zX tx)))])) hP hD hS hA [0, 1] [] rfl rfl (by decide +kernel) (by decide +kernel) (va_runV (As := [.int 98]) (rest := []) ⟨hx, hb, hml, hown, hts⟩ (mX5_takes l D y _ g th sv ln u_2.1 pl (nI v1) hs tx 98 (by first | assumption | rfl | omega | decide) (by first | assumption | rfl | omega | decide) (by first | assumption | rfl | omega | decide) (by first | assumption | rfl | omega | decide)) (cwV 1 hts (zgV tw_464 tw_465 tw_466 tw_369 tw_453) rfl rfl rfl (by decide +kernel) ⟨Nat.le_of_ble_eq_true rfl, Nat.le_of_ble_eq_true rfl⟩) (zRW_preV hKN hP hD (ci := 5) (q0 := 0) rfl rfl [0, 1] rfl (by decide)) rfl rfl hl.1 rfl (lv_room (Nat.le_of_ble_eq_true rfl)) dX5_readsReading_44 ⟨Nat.zero_le _, Nat.zero_le _⟩) (fun r_37 u_38 H locs hw_44 hP hD hS => ?_)
        have hP : va_P D vwCl [((g 0), .inr (5, [.int th, .ref (g 1), .int (nI sv), .ref (g 2), .ref (g 3), .int (nI ln), .int (nI (u_2.1 + (if sg tx ln u_2.1 = 98 then 1 else 0))), .int (nI pl), .int (nI v1), .long hs])), ((g 3), .inl (y 0, 60, .inl (zX tx)))] H := hP
        have hD : va_D A [((g 0), .inr (5, [.int th, .ref (g 1), .int (nI sv), .ref (g 2), .ref (g 3), .int (nI ln), .int (nI (u_2.1 + (if sg tx ln u_2.1 = 98 then 1 else 0))), .int (nI pl), .int (nI v1), .long hs])), ((g 3), .inl (y 0, 60, .inl (zX tx)))] := hD
        obtain rfl : r_37 = (if sg tx ln u_2.1 = 98 then (1 : Int32) else 0) := hw_44
        refine lv_if_ne (tgt := 52) hx hb dX5_readsReading_47 (by decide) (fun c_47 => ?_) (fun c_47 => ?_)
        · replace c_47 := zb1.mp c_47
          rw [if_pos c_47] at hP hD
          have hP : va_P D vwCl [((g 0), .inr (5, [.int th, .ref (g 1), .int (nI sv), .ref (g 2), .ref (g 3), .int (nI ln), .int (nI (u_2.1 + 1)), .int (nI pl), .int (nI v1), .long hs])), ((g 3), .inl (y 0, 60, .inl (zX tx)))] H := hP
          have hD : va_D A [((g 0), .inr (5, [.int th, .ref (g 1), .int (nI sv), .ref (g 2), .ref (g 3), .int (nI ln), .int (nI (u_2.1 + 1)), .int (nI pl), .int (nI v1), .long hs])), ((g 3), .inl (y 0, 60, .inl (zX tx)))] := hD
          have e1 : u_2.1 < ln := sg_in (tx := tx) (by omega)
          have e2 := sg_y (tx := tx) e1
          have hQ2 := zQ_12 (o' := 1) hP1 e1 (by decide) (by omega)
          refine lv_aload_n hx hb dX5_readsReading_52 rfl (lv_at hl 2 rfl) ?_
          refine zr_calli (va_runV (As := []) (rest := []) ⟨hx, hb, hml, hown, hts⟩ (mX5_sign l D y g th sv ln (u_2.1 + 1) pl (nI v1) hs tx (by first | assumption | rfl | omega | decide) (by first | assumption | rfl | omega | decide) (by first | assumption | rfl | omega | decide)) (cwV 0 hts (zgV tw_454 tw_455 tw_456 tw_369 tw_451) rfl rfl rfl (by decide +kernel) ⟨Nat.le_of_ble_eq_true rfl, Nat.le_of_ble_eq_true rfl⟩) (zRO_preV hKN hP (ci := 5) (q0 := 0) rfl rfl [0, 1] rfl) rfl rfl hl.1 rfl (lv_room (Nat.le_of_ble_eq_true rfl)) dX5_readsReading_53 ⟨Nat.zero_le _, Nat.zero_le _⟩) hS (fun r_39 H locs hw_53 hT hS => ?_)
          replace hP := hT _ _ hP
          obtain rfl : r_39 = nI (sg tx ln (u_2.1 + 1)) := hw_53
          refine lv_bipush (v := 45) hx hb dX5_readsReading_56 (by decide) ?_
          have h58 := sg_lt (tx := tx) (by decide) htx (u_2.1 + 1)
          refine lv_icmp_ne (tgt := 65) hx hb dX5_readsReading_58 (by decide) (fun c_58 => ?_) (fun c_58 => ?_)
          · replace c_58 : ¬ (sg tx ln (u_2.1 + 1)) = 45 := fun h => c_58 ((nI_eq (a := (sg tx ln (u_2.1 + 1))) (b := 45) (by omega) (by omega)).mpr h)
            refine lv_iconst (v := 0) hx hb dX5_readsReading_65 (by decide) ?_
            refine lv_istore_n (lv' := [(3, .int 0), (2, .int 1), (1, .int (nI v1)), (0, .ref (g 0))]) hx hb dX5_readsReading_66 rfl hl (by decide) rfl (fun ls hl => ?_)
            refine lv_aload_n hx hb dX5_readsReading_67 rfl (lv_at hl 3 rfl) ?_
            refine lv_bipush (v := 43) hx hb dX5_readsReading_68 (by decide) ?_
            refine zw_calli (wr := []) (w1 := (fun _ : Unit => [((g 0), .inr (5, [.int th, .ref (g 1), .int (nI sv), .ref (g 2), .ref (g 3), .int (nI ln), .int (nI (u_2.1 + 1 + (if sg tx ln (u_2.1 + 1) = 43 then 1 else 0))), .int (nI pl), .int (nI v1), .long hs])), ((g 3), .inl (y 0, 60, .inl (zX tx)))])) hP hD hS hA [0, 1] [] rfl rfl (by decide +kernel) (by decide +kernel) (va_runV (As := [.int 43]) (rest := []) ⟨hx, hb, hml, hown, hts⟩ (mX5_takes l D y _ g th sv ln (u_2.1 + 1) pl (nI v1) hs tx 43 (by first | assumption | rfl | omega | decide) (by first | assumption | rfl | omega | decide) (by first | assumption | rfl | omega | decide) (by first | assumption | rfl | omega | decide)) (cwV 1 hts (zgV tw_464 tw_465 tw_466 tw_369 tw_453) rfl rfl rfl (by decide +kernel) ⟨Nat.le_of_ble_eq_true rfl, Nat.le_of_ble_eq_true rfl⟩) (zRW_preV hKN hP hD (ci := 5) (q0 := 0) rfl rfl [0, 1] rfl (by decide)) rfl rfl hl.1 rfl (lv_room (Nat.le_of_ble_eq_true rfl)) dX5_readsReading_70 ⟨Nat.zero_le _, Nat.zero_le _⟩) (fun r_40 u_41 H locs hw_70 hP hD hS => ?_)
            have hP : va_P D vwCl [((g 0), .inr (5, [.int th, .ref (g 1), .int (nI sv), .ref (g 2), .ref (g 3), .int (nI ln), .int (nI (u_2.1 + 1 + (if sg tx ln (u_2.1 + 1) = 43 then 1 else 0))), .int (nI pl), .int (nI v1), .long hs])), ((g 3), .inl (y 0, 60, .inl (zX tx)))] H := hP
            have hD : va_D A [((g 0), .inr (5, [.int th, .ref (g 1), .int (nI sv), .ref (g 2), .ref (g 3), .int (nI ln), .int (nI (u_2.1 + 1 + (if sg tx ln (u_2.1 + 1) = 43 then 1 else 0))), .int (nI pl), .int (nI v1), .long hs])), ((g 3), .inl (y 0, 60, .inl (zX tx)))] := hD
            obtain rfl : r_40 = (if sg tx ln (u_2.1 + 1) = 43 then (1 : Int32) else 0) := hw_70
            refine lv_if_ne (tgt := 87) hx hb dX5_readsReading_73 (by decide) (fun c_73 => ?_) (fun c_73 => ?_)
            · replace c_73 := zb1.mp c_73
              rw [if_pos c_73] at hP hD
              have hP : va_P D vwCl [((g 0), .inr (5, [.int th, .ref (g 1), .int (nI sv), .ref (g 2), .ref (g 3), .int (nI ln), .int (nI (u_2.1 + 1 + 1)), .int (nI pl), .int (nI v1), .long hs])), ((g 3), .inl (y 0, 60, .inl (zX tx)))] H := hP
              have hD : va_D A [((g 0), .inr (5, [.int th, .ref (g 1), .int (nI sv), .ref (g 2), .ref (g 3), .int (nI ln), .int (nI (u_2.1 + 1 + 1)), .int (nI pl), .int (nI v1), .long hs])), ((g 3), .inl (y 0, 60, .inl (zX tx)))] := hD
              have e3 : u_2.1 + 1 < ln := sg_in (tx := tx) (by omega)
              have e4 := sg_y (tx := tx) e3
              have hQ3 := zQ_23 (f' := 0) hQ2 e3 (by decide) (by omega)
              refine lv_aload_n hx hb dX5_readsReading_87 rfl (lv_at hl 3 rfl) ?_
              refine lv_iload_n hx hb dX5_readsReading_88 rfl (lv_at hl 2 rfl) ?_
              refine lv_iload_n hx hb dX5_readsReading_89 rfl (lv_at hl 1 rfl) ?_
              refine lv_if_eq (tgt := 97) hx hb dX5_readsReading_90 (by decide) (fun c_90 => absurd c_90 (by decide)) (fun _ => ?_)
              refine lv_iconst (v := 1) hx hb dX5_readsReading_93 (by decide) ?_
              refine lv_goto (tgt := 98) hx hb dX5_readsReading_94 (by decide) ?_
              refine lv_iload_n hx hb dX5_readsReading_98 rfl (lv_at hl 0 rfl) ?_
              refine lv_if_eq (tgt := 106) hx hb dX5_readsReading_99 (by decide) (fun _ => ?_) (fun c_99 => absurd (by decide) c_99)
              refine lv_iconst (v := 0) hx hb dX5_readsReading_106 (by decide) ?_
              refine zr_calli (va_runS (As := [.int (nI v1), .int 1, .int 0]) (rest := [.ref (g 0)]) ⟨hx, hb, hml, hown, hts⟩ (mX5_placeOf l v1 1 0) (va_cwS 3 hts (zgS tw_388 tw_389 tw_369 tw_386) rfl rfl rfl (by decide +kernel) ⟨Nat.le_of_ble_eq_true rfl, Nat.le_of_ble_eq_true rfl⟩) zP_pre rfl rfl hl.1 rfl (lv_room (Nat.le_of_ble_eq_true rfl)) dX5_readsReading_107 ⟨Nat.zero_le _, Nat.zero_le _⟩) hS (fun r_42 H locs hw_107 hT hS => ?_)
              replace hP := hT _ _ hP
              obtain rfl : r_42 = nI (1 + 4 * v1 + 2 * 1 + 0) := hw_107
              refine va_put (D := D) (ci := 5) (v := .int (nI (1 + 4 * v1 + 2 * 1 + 0))) (ty := .int) (C := RX5) (T := TX5) (N := 10) hx hb htg iX5 tyX5 tyX5_ok nmX5 hown hK hP hD hS 0 rfl rfl 7 (by decide) (htg _ tw_460) (fun _ h9 => h9) rfl (tyX5_ok 7 (by decide)) (rfl) (rfl) (Nat.le_of_ble_eq_true rfl) dX5_readsReading_110 (fun H locs hP hD hS => ?_)
              have hP : va_P D vwCl [((g 0), .inr (5, [.int th, .ref (g 1), .int (nI sv), .ref (g 2), .ref (g 3), .int (nI ln), .int (nI (u_2.1 + 1 + 1)), .int (nI (1 + 4 * v1 + 2 * 1 + 0)), .int (nI v1), .long hs])), ((g 3), .inl (y 0, 60, .inl (zX tx)))] H := hP
              have hD : va_D A [((g 0), .inr (5, [.int th, .ref (g 1), .int (nI sv), .ref (g 2), .ref (g 3), .int (nI ln), .int (nI (u_2.1 + 1 + 1)), .int (nI (1 + 4 * v1 + 2 * 1 + 0)), .int (nI v1), .long hs])), ((g 3), .inl (y 0, 60, .inl (zX tx)))] := hD
              refine lv_aload_n hx hb dX5_readsReading_113 rfl (lv_at hl 3 rfl) ?_
              refine lv_bipush (v := 61) hx hb dX5_readsReading_114 (by decide) ?_
              refine zw_calli (wr := []) (w1 := (fun _ : Unit => [((g 0), .inr (5, [.int th, .ref (g 1), .int (nI sv), .ref (g 2), .ref (g 3), .int (nI ln), .int (nI (u_2.1 + 1 + 1 + (if sg tx ln (u_2.1 + 1 + 1) = 61 then 1 else 0))), .int (nI (1 + 4 * v1 + 2 * 1 + 0)), .int (nI v1), .long hs])), ((g 3), .inl (y 0, 60, .inl (zX tx)))])) hP hD hS hA [0, 1] [] rfl rfl (by decide +kernel) (by decide +kernel) (va_runV (As := [.int 61]) (rest := []) ⟨hx, hb, hml, hown, hts⟩ (mX5_takes l D y _ g th sv ln (u_2.1 + 1 + 1) (1 + 4 * v1 + 2 * 1 + 0) (nI v1) hs tx 61 (by first | assumption | rfl | omega | decide) (by first | assumption | rfl | omega | decide) (by first | assumption | rfl | omega | decide) (by first | assumption | rfl | omega | decide)) (cwV 1 hts (zgV tw_464 tw_465 tw_466 tw_369 tw_453) rfl rfl rfl (by decide +kernel) ⟨Nat.le_of_ble_eq_true rfl, Nat.le_of_ble_eq_true rfl⟩) (zRW_preV hKN hP hD (ci := 5) (q0 := 0) rfl rfl [0, 1] rfl (by decide)) rfl rfl hl.1 rfl (lv_room (Nat.le_of_ble_eq_true rfl)) dX5_readsReading_116 ⟨Nat.zero_le _, Nat.zero_le _⟩) (fun r_43 u_44 H locs hw_116 hP hD hS => ?_)
              have hP : va_P D vwCl [((g 0), .inr (5, [.int th, .ref (g 1), .int (nI sv), .ref (g 2), .ref (g 3), .int (nI ln), .int (nI (u_2.1 + 1 + 1 + (if sg tx ln (u_2.1 + 1 + 1) = 61 then 1 else 0))), .int (nI (1 + 4 * v1 + 2 * 1 + 0)), .int (nI v1), .long hs])), ((g 3), .inl (y 0, 60, .inl (zX tx)))] H := hP
              have hD : va_D A [((g 0), .inr (5, [.int th, .ref (g 1), .int (nI sv), .ref (g 2), .ref (g 3), .int (nI ln), .int (nI (u_2.1 + 1 + 1 + (if sg tx ln (u_2.1 + 1 + 1) = 61 then 1 else 0))), .int (nI (1 + 4 * v1 + 2 * 1 + 0)), .int (nI v1), .long hs])), ((g 3), .inl (y 0, 60, .inl (zX tx)))] := hD
              obtain rfl : r_43 = (if sg tx ln (u_2.1 + 1 + 1) = 61 then (1 : Int32) else 0) := hw_116
              refine lv_if_ne (tgt := 124) hx hb dX5_readsReading_119 (by decide) (fun c_119 => ?_) (fun c_119 => ?_)
              · replace c_119 := zb1.mp c_119
                rw [if_pos c_119] at hP hD
                have hP : va_P D vwCl [((g 0), .inr (5, [.int th, .ref (g 1), .int (nI sv), .ref (g 2), .ref (g 3), .int (nI ln), .int (nI (u_2.1 + 1 + 1 + 1)), .int (nI (1 + 4 * v1 + 2 * 1 + 0)), .int (nI v1), .long hs])), ((g 3), .inl (y 0, 60, .inl (zX tx)))] H := hP
                have hD : va_D A [((g 0), .inr (5, [.int th, .ref (g 1), .int (nI sv), .ref (g 2), .ref (g 3), .int (nI ln), .int (nI (u_2.1 + 1 + 1 + 1)), .int (nI (1 + 4 * v1 + 2 * 1 + 0)), .int (nI v1), .long hs])), ((g 3), .inl (y 0, 60, .inl (zX tx)))] := hD
                have e5 : u_2.1 + 1 + 1 < ln := sg_in (tx := tx) (by omega)
                have e6 := sg_y (tx := tx) e5
                have hQ4 := zQ_34 hQ3 e5 (by omega)
                refine lv_aload_n hx hb dX5_readsReading_124 rfl (lv_at hl 3 rfl) ?_
                refine lv_bipush (v := 45) hx hb dX5_readsReading_125 (by decide) ?_
                refine zw_calli (wr := []) (w1 := (fun _ : Unit => [((g 0), .inr (5, [.int th, .ref (g 1), .int (nI sv), .ref (g 2), .ref (g 3), .int (nI ln), .int (nI (u_2.1 + 1 + 1 + 1 + (if sg tx ln (u_2.1 + 1 + 1 + 1) = 45 then 1 else 0))), .int (nI (1 + 4 * v1 + 2 * 1 + 0)), .int (nI v1), .long hs])), ((g 3), .inl (y 0, 60, .inl (zX tx)))])) hP hD hS hA [0, 1] [] rfl rfl (by decide +kernel) (by decide +kernel) (va_runV (As := [.int 45]) (rest := []) ⟨hx, hb, hml, hown, hts⟩ (mX5_takes l D y _ g th sv ln (u_2.1 + 1 + 1 + 1) (1 + 4 * v1 + 2 * 1 + 0) (nI v1) hs tx 45 (by first | assumption | rfl | omega | decide) (by first | assumption | rfl | omega | decide) (by first | assumption | rfl | omega | decide) (by first | assumption | rfl | omega | decide)) (cwV 1 hts (zgV tw_464 tw_465 tw_466 tw_369 tw_453) rfl rfl rfl (by decide +kernel) ⟨Nat.le_of_ble_eq_true rfl, Nat.le_of_ble_eq_true rfl⟩) (zRW_preV hKN hP hD (ci := 5) (q0 := 0) rfl rfl [0, 1] rfl (by decide)) rfl rfl hl.1 rfl (lv_room (Nat.le_of_ble_eq_true rfl)) dX5_readsReading_127 ⟨Nat.zero_le _, Nat.zero_le _⟩) (fun r_45 u_46 H locs hw_127 hP hD hS => ?_)
                have hP : va_P D vwCl [((g 0), .inr (5, [.int th, .ref (g 1), .int (nI sv), .ref (g 2), .ref (g 3), .int (nI ln), .int (nI (u_2.1 + 1 + 1 + 1 + (if sg tx ln (u_2.1 + 1 + 1 + 1) = 45 then 1 else 0))), .int (nI (1 + 4 * v1 + 2 * 1 + 0)), .int (nI v1), .long hs])), ((g 3), .inl (y 0, 60, .inl (zX tx)))] H := hP
                have hD : va_D A [((g 0), .inr (5, [.int th, .ref (g 1), .int (nI sv), .ref (g 2), .ref (g 3), .int (nI ln), .int (nI (u_2.1 + 1 + 1 + 1 + (if sg tx ln (u_2.1 + 1 + 1 + 1) = 45 then 1 else 0))), .int (nI (1 + 4 * v1 + 2 * 1 + 0)), .int (nI v1), .long hs])), ((g 3), .inl (y 0, 60, .inl (zX tx)))] := hD
                obtain rfl : r_45 = (if sg tx ln (u_2.1 + 1 + 1 + 1) = 45 then (1 : Int32) else 0) := hw_127
                refine lv_istore (lv' := [(4, .int (if sg tx ln (u_2.1 + 1 + 1 + 1) = 45 then (1 : Int32) else 0)), (3, .int 0), (2, .int 1), (1, .int (nI v1)), (0, .ref (g 0))]) hx hb dX5_readsReading_130 hl (by decide) rfl (fun ls hl => ?_)
                refine lv_aload_n hx hb dX5_readsReading_132 rfl (lv_at hl 4 rfl) ?_
                refine lv_iload hx hb dX5_readsReading_133 (lv_at hl 0 rfl) ?_
                refine lv_if_eq (tgt := 142) hx hb dX5_readsReading_135 (by decide) (fun c_135 => ?_) (fun c_135 => ?_)
                · replace c_135 := zb0.mp c_135
                  rw [if_neg c_135, Nat.add_zero] at hP hD
                  have hP : va_P D vwCl [((g 0), .inr (5, [.int th, .ref (g 1), .int (nI sv), .ref (g 2), .ref (g 3), .int (nI ln), .int (nI (u_2.1 + 1 + 1 + 1)), .int (nI (1 + 4 * v1 + 2 * 1 + 0)), .int (nI v1), .long hs])), ((g 3), .inl (y 0, 60, .inl (zX tx)))] H := hP
                  have hD : va_D A [((g 0), .inr (5, [.int th, .ref (g 1), .int (nI sv), .ref (g 2), .ref (g 3), .int (nI ln), .int (nI (u_2.1 + 1 + 1 + 1)), .int (nI (1 + 4 * v1 + 2 * 1 + 0)), .int (nI v1), .long hs])), ((g 3), .inl (y 0, 60, .inl (zX tx)))] := hD
                  refine lv_iconst (v := 0) hx hb dX5_readsReading_142 (by decide) ?_
                  refine lv_sipush (v := 200) hx hb dX5_readsReading_143 (by decide) ?_
                  refine zw_calli (wr := []) (w1 := (fun u : (Nat × Int32) => [((g 0), .inr (5, [.int th, .ref (g 1), .int (nI sv), .ref (g 2), .ref (g 3), .int (nI ln), .int (nI u.1), .int (nI (1 + 4 * v1 + 2 * 1 + 0)), .int u.2, .long hs])), ((g 3), .inl (y 0, 60, .inl (zX tx)))])) hP hD hS hA [0, 1] [] rfl rfl (by decide +kernel) (by decide +kernel) (va_runV (As := [.int 0, .int 200]) (rest := []) ⟨hx, hb, hml, hown, hts⟩ (mX5_readsNumber l D y _ g th sv ln (u_2.1 + 1 + 1 + 1) (1 + 4 * v1 + 2 * 1 + 0) (nI v1) hs tx (fun b v => zQ tx ln at9 b 6 v1 1 0 0 v) 0 200 (by first | assumption | rfl | omega | decide) (by first | assumption | rfl | omega | decide) (by first | assumption | rfl | omega | decide) (by first | assumption | rfl | omega | decide) (by first | assumption | rfl | omega | decide) (fun h1 h2 h3 => zQ_46 hQ4 h1 ⟨by omega, h3⟩) (fun b v h1 h2 h3 h4 h5 => zQ_66 h1 h2 h4 h3 h5)) (cwV 2 hts (zgV tw_461 tw_462 tw_463 tw_369 tw_457) rfl rfl rfl (by decide +kernel) ⟨Nat.le_of_ble_eq_true rfl, Nat.le_of_ble_eq_true rfl⟩) (zRW_preV hKN hP hD (ci := 5) (q0 := 0) rfl rfl [0, 1] rfl (by decide)) rfl rfl hl.1 rfl (lv_room (Nat.le_of_ble_eq_true rfl)) dX5_readsReading_146 ⟨Nat.zero_le _, Nat.zero_le _⟩) (fun r_47 u_48 H locs hw_146 hP hD hS => ?_)
                  have hP : va_P D vwCl [((g 0), .inr (5, [.int th, .ref (g 1), .int (nI sv), .ref (g 2), .ref (g 3), .int (nI ln), .int (nI u_48.1), .int (nI (1 + 4 * v1 + 2 * 1 + 0)), .int u_48.2, .long hs])), ((g 3), .inl (y 0, 60, .inl (zX tx)))] H := hP
                  have hD : va_D A [((g 0), .inr (5, [.int th, .ref (g 1), .int (nI sv), .ref (g 2), .ref (g 3), .int (nI ln), .int (nI u_48.1), .int (nI (1 + 4 * v1 + 2 * 1 + 0)), .int u_48.2, .long hs])), ((g 3), .inl (y 0, 60, .inl (zX tx)))] := hD
                  try dsimp only at hw_146
                  rcases hw_146 with ⟨er2, ea2, ev2, en2⟩ | ⟨er2, v2, ev2, hv2, hlt2, hP2, hle2, hno2⟩
                  · refine zz_top (y := 0) er2 ?_
                    rw [ea2] at hP hD
                    have hP : va_P D vwCl [((g 0), .inr (5, [.int th, .ref (g 1), .int (nI sv), .ref (g 2), .ref (g 3), .int (nI ln), .int (nI (u_2.1 + 1 + 1 + 1)), .int (nI (1 + 4 * v1 + 2 * 1 + 0)), .int u_48.2, .long hs])), ((g 3), .inl (y 0, 60, .inl (zX tx)))] H := hP
                    have hD : va_D A [((g 0), .inr (5, [.int th, .ref (g 1), .int (nI sv), .ref (g 2), .ref (g 3), .int (nI ln), .int (nI (u_2.1 + 1 + 1 + 1)), .int (nI (1 + 4 * v1 + 2 * 1 + 0)), .int u_48.2, .long hs])), ((g 3), .inl (y 0, 60, .inl (zX tx)))] := hD
                    refine lv_istore (lv' := [(5, .int 0), (4, .int (if sg tx ln (u_2.1 + 1 + 1 + 1) = 45 then (1 : Int32) else 0)), (3, .int 0), (2, .int 1), (1, .int (nI v1)), (0, .ref (g 0))]) hx hb dX5_readsReading_149 hl (by decide) rfl (fun ls hl => ?_)
                    refine lv_aload_n hx hb dX5_readsReading_151 rfl (lv_at hl 5 rfl) ?_
                    refine lv_iload hx hb dX5_readsReading_152 (lv_at hl 1 rfl) ?_
                    refine lv_if_eq (tgt := 165) hx hb dX5_readsReading_154 (by decide) (fun _ => ?_) (fun c_154 => absurd (zb0.mpr c_135) c_154)
                    refine lv_aload_n hx hb dX5_readsReading_165 rfl (lv_at hl 5 rfl) ?_
                    refine va_get (D := D) (ci := 5) (v := .int u_48.2) (C := RX5) (T := TX5) (N := 10) hx hb htg iX5 hown hK hP 0 rfl rfl 8 (by decide) (htg _ tw_458) (fun _ h9 => h9) rfl dX5_readsReading_166 ?_
                    refine va_put (D := D) (ci := 5) (v := .int u_48.2) (ty := .int) (C := RX5) (T := TX5) (N := 10) hx hb htg iX5 tyX5 tyX5_ok nmX5 hown hK hP hD hS 0 rfl rfl 8 (by decide) (htg _ tw_458) (fun _ h9 => h9) rfl (tyX5_ok 8 (by decide)) (rfl) (rfl) (Nat.le_of_ble_eq_true rfl) dX5_readsReading_169 (fun H locs hP hD hS => ?_)
                    have hP : va_P D vwCl [((g 0), .inr (5, [.int th, .ref (g 1), .int (nI sv), .ref (g 2), .ref (g 3), .int (nI ln), .int (nI (u_2.1 + 1 + 1 + 1)), .int (nI (1 + 4 * v1 + 2 * 1 + 0)), .int u_48.2, .long hs])), ((g 3), .inl (y 0, 60, .inl (zX tx)))] H := hP
                    have hD : va_D A [((g 0), .inr (5, [.int th, .ref (g 1), .int (nI sv), .ref (g 2), .ref (g 3), .int (nI ln), .int (nI (u_2.1 + 1 + 1 + 1)), .int (nI (1 + 4 * v1 + 2 * 1 + 0)), .int u_48.2, .long hs])), ((g 3), .inl (y 0, 60, .inl (zX tx)))] := hD
                    refine lv_iload hx hb dX5_readsReading_172 (lv_at hl 0 rfl) ?_
                    refine W.widen (k := 0) (n := 0) (by first | exact Nat.le_of_ble_eq_true rfl | omega) (by first | exact Nat.le_of_ble_eq_true rfl | omega) ?_
                    exact W.zret (v := 0) hx hb hr (rfl) (fun t ht hW => ⟨⟨0, (u_2.1 + 1 + 1 + 1, 1 + 4 * v1 + 2 * 1 + 0, u_48.2), rfl, Or.inl ⟨rfl, show zBad tx ln (u_2.1 + 1 + 1 + 1) from zQ_f4 hQ4 c_135 (fun h => en2 ⟨by omega, by omega⟩)⟩, ⟨by rw [ht]; exact hP, hD⟩⟩, hS.F ht⟩) hS.2.2 dX5_readsReading_174
                  · refine zz_top (y := 1) er2 ?_
                    rw [ev2] at hP hD
                    have hP : va_P D vwCl [((g 0), .inr (5, [.int th, .ref (g 1), .int (nI sv), .ref (g 2), .ref (g 3), .int (nI ln), .int (nI u_48.1), .int (nI (1 + 4 * v1 + 2 * 1 + 0)), .int (nI v2), .long hs])), ((g 3), .inl (y 0, 60, .inl (zX tx)))] H := hP
                    have hD : va_D A [((g 0), .inr (5, [.int th, .ref (g 1), .int (nI sv), .ref (g 2), .ref (g 3), .int (nI ln), .int (nI u_48.1), .int (nI (1 + 4 * v1 + 2 * 1 + 0)), .int (nI v2), .long hs])), ((g 3), .inl (y 0, 60, .inl (zX tx)))] := hD
                    refine lv_istore (lv' := [(5, .int 1), (4, .int (if sg tx ln (u_2.1 + 1 + 1 + 1) = 45 then (1 : Int32) else 0)), (3, .int 0), (2, .int 1), (1, .int (nI v1)), (0, .ref (g 0))]) hx hb dX5_readsReading_149 hl (by decide) rfl (fun ls hl => ?_)
                    refine lv_aload_n hx hb dX5_readsReading_151 rfl (lv_at hl 5 rfl) ?_
                    refine lv_iload hx hb dX5_readsReading_152 (lv_at hl 1 rfl) ?_
                    refine lv_if_eq (tgt := 165) hx hb dX5_readsReading_154 (by decide) (fun _ => ?_) (fun c_154 => absurd (zb0.mpr c_135) c_154)
                    refine lv_aload_n hx hb dX5_readsReading_165 rfl (lv_at hl 5 rfl) ?_
                    refine va_get (D := D) (ci := 5) (v := .int (nI v2)) (C := RX5) (T := TX5) (N := 10) hx hb htg iX5 hown hK hP 0 rfl rfl 8 (by decide) (htg _ tw_458) (fun _ h9 => h9) rfl dX5_readsReading_166 ?_
                    refine va_put (D := D) (ci := 5) (v := .int (nI v2)) (ty := .int) (C := RX5) (T := TX5) (N := 10) hx hb htg iX5 tyX5 tyX5_ok nmX5 hown hK hP hD hS 0 rfl rfl 8 (by decide) (htg _ tw_458) (fun _ h9 => h9) rfl (tyX5_ok 8 (by decide)) (rfl) (rfl) (Nat.le_of_ble_eq_true rfl) dX5_readsReading_169 (fun H locs hP hD hS => ?_)
                    have hP : va_P D vwCl [((g 0), .inr (5, [.int th, .ref (g 1), .int (nI sv), .ref (g 2), .ref (g 3), .int (nI ln), .int (nI u_48.1), .int (nI (1 + 4 * v1 + 2 * 1 + 0)), .int (nI v2), .long hs])), ((g 3), .inl (y 0, 60, .inl (zX tx)))] H := hP
                    have hD : va_D A [((g 0), .inr (5, [.int th, .ref (g 1), .int (nI sv), .ref (g 2), .ref (g 3), .int (nI ln), .int (nI u_48.1), .int (nI (1 + 4 * v1 + 2 * 1 + 0)), .int (nI v2), .long hs])), ((g 3), .inl (y 0, 60, .inl (zX tx)))] := hD
                    refine lv_iload hx hb dX5_readsReading_172 (lv_at hl 0 rfl) ?_
                    refine W.widen (k := 0) (n := 0) (by first | exact Nat.le_of_ble_eq_true rfl | omega) (by first | exact Nat.le_of_ble_eq_true rfl | omega) ?_
                    exact W.zret (v := 1) hx hb hr (rfl) (fun t ht hW => ⟨⟨1, (u_48.1, 1 + 4 * v1 + 2 * 1 + 0, nI v2), rfl, Or.inr ⟨rfl, show zGot tx ln at9 (u_48.1) (1 + 4 * v1 + 2 * 1 + 0) (nI v2) from zQ_6 hP2 (by omega) hno2 ((if_pos rfl).symm) (by omega)⟩, ⟨by rw [ht]; exact hP, hD⟩⟩, hS.F ht⟩) hS.2.2 dX5_readsReading_174
                · replace c_135 := zb1.mp c_135
                  rw [if_pos c_135] at hP hD
                  have hP : va_P D vwCl [((g 0), .inr (5, [.int th, .ref (g 1), .int (nI sv), .ref (g 2), .ref (g 3), .int (nI ln), .int (nI (u_2.1 + 1 + 1 + 1 + 1)), .int (nI (1 + 4 * v1 + 2 * 1 + 0)), .int (nI v1), .long hs])), ((g 3), .inl (y 0, 60, .inl (zX tx)))] H := hP
                  have hD : va_D A [((g 0), .inr (5, [.int th, .ref (g 1), .int (nI sv), .ref (g 2), .ref (g 3), .int (nI ln), .int (nI (u_2.1 + 1 + 1 + 1 + 1)), .int (nI (1 + 4 * v1 + 2 * 1 + 0)), .int (nI v1), .long hs])), ((g 3), .inl (y 0, 60, .inl (zX tx)))] := hD
                  have e7 : u_2.1 + 1 + 1 + 1 < ln := sg_in (tx := tx) (by omega)
                  have e8 := sg_y (tx := tx) e7
                  have hQ5 := zQ_45 hQ4 e7 (by omega)
                  refine lv_iconst (v := 1) hx hb dX5_readsReading_138 (by decide) ?_
                  refine lv_goto (tgt := 143) hx hb dX5_readsReading_139 (by decide) ?_
                  refine lv_sipush (v := 200) hx hb dX5_readsReading_143 (by decide) ?_
                  refine zw_calli (wr := []) (w1 := (fun u : (Nat × Int32) => [((g 0), .inr (5, [.int th, .ref (g 1), .int (nI sv), .ref (g 2), .ref (g 3), .int (nI ln), .int (nI u.1), .int (nI (1 + 4 * v1 + 2 * 1 + 0)), .int u.2, .long hs])), ((g 3), .inl (y 0, 60, .inl (zX tx)))])) hP hD hS hA [0, 1] [] rfl rfl (by decide +kernel) (by decide +kernel) (va_runV (As := [.int 1, .int 200]) (rest := []) ⟨hx, hb, hml, hown, hts⟩ (mX5_readsNumber l D y _ g th sv ln (u_2.1 + 1 + 1 + 1 + 1) (1 + 4 * v1 + 2 * 1 + 0) (nI v1) hs tx (fun b v => zQ tx ln at9 b 6 v1 1 0 1 v) 1 200 (by first | assumption | rfl | omega | decide) (by first | assumption | rfl | omega | decide) (by first | assumption | rfl | omega | decide) (by first | assumption | rfl | omega | decide) (by first | assumption | rfl | omega | decide) (fun h1 h2 h3 => zQ_56 hQ5 h1 (by omega) h3) (fun b v h1 h2 h3 h4 h5 => zQ_66 h1 h2 h4 h3 h5)) (cwV 2 hts (zgV tw_461 tw_462 tw_463 tw_369 tw_457) rfl rfl rfl (by decide +kernel) ⟨Nat.le_of_ble_eq_true rfl, Nat.le_of_ble_eq_true rfl⟩) (zRW_preV hKN hP hD (ci := 5) (q0 := 0) rfl rfl [0, 1] rfl (by decide)) rfl rfl hl.1 rfl (lv_room (Nat.le_of_ble_eq_true rfl)) dX5_readsReading_146 ⟨Nat.zero_le _, Nat.zero_le _⟩) (fun r_49 u_50 H locs hw_146 hP hD hS => ?_)
                  have hP : va_P D vwCl [((g 0), .inr (5, [.int th, .ref (g 1), .int (nI sv), .ref (g 2), .ref (g 3), .int (nI ln), .int (nI u_50.1), .int (nI (1 + 4 * v1 + 2 * 1 + 0)), .int u_50.2, .long hs])), ((g 3), .inl (y 0, 60, .inl (zX tx)))] H := hP
                  have hD : va_D A [((g 0), .inr (5, [.int th, .ref (g 1), .int (nI sv), .ref (g 2), .ref (g 3), .int (nI ln), .int (nI u_50.1), .int (nI (1 + 4 * v1 + 2 * 1 + 0)), .int u_50.2, .long hs])), ((g 3), .inl (y 0, 60, .inl (zX tx)))] := hD
                  try dsimp only at hw_146
                  rcases hw_146 with ⟨er2, ea2, ev2, en2⟩ | ⟨er2, v2, ev2, hv2, hlt2, hP2, hle2, hno2⟩
                  · refine zz_top (y := 0) er2 ?_
                    rw [ea2] at hP hD
                    have hP : va_P D vwCl [((g 0), .inr (5, [.int th, .ref (g 1), .int (nI sv), .ref (g 2), .ref (g 3), .int (nI ln), .int (nI (u_2.1 + 1 + 1 + 1 + 1)), .int (nI (1 + 4 * v1 + 2 * 1 + 0)), .int u_50.2, .long hs])), ((g 3), .inl (y 0, 60, .inl (zX tx)))] H := hP
                    have hD : va_D A [((g 0), .inr (5, [.int th, .ref (g 1), .int (nI sv), .ref (g 2), .ref (g 3), .int (nI ln), .int (nI (u_2.1 + 1 + 1 + 1 + 1)), .int (nI (1 + 4 * v1 + 2 * 1 + 0)), .int u_50.2, .long hs])), ((g 3), .inl (y 0, 60, .inl (zX tx)))] := hD
                    refine lv_istore (lv' := [(5, .int 0), (4, .int (if sg tx ln (u_2.1 + 1 + 1 + 1) = 45 then (1 : Int32) else 0)), (3, .int 0), (2, .int 1), (1, .int (nI v1)), (0, .ref (g 0))]) hx hb dX5_readsReading_149 hl (by decide) rfl (fun ls hl => ?_)
                    refine lv_aload_n hx hb dX5_readsReading_151 rfl (lv_at hl 5 rfl) ?_
                    refine lv_iload hx hb dX5_readsReading_152 (lv_at hl 1 rfl) ?_
                    refine lv_if_eq (tgt := 165) hx hb dX5_readsReading_154 (by decide) (fun c_154 => absurd c_154 (zb1.mpr c_135)) (fun _ => ?_)
                    refine lv_aload_n hx hb dX5_readsReading_157 rfl (lv_at hl 5 rfl) ?_
                    refine va_get (D := D) (ci := 5) (v := .int u_50.2) (C := RX5) (T := TX5) (N := 10) hx hb htg iX5 hown hK hP 0 rfl rfl 8 (by decide) (htg _ tw_458) (fun _ h9 => h9) rfl dX5_readsReading_158 ?_
                    refine lv_ineg hx hb dX5_readsReading_161 ?_
                    refine lv_goto (tgt := 169) hx hb dX5_readsReading_162 (by decide) ?_
                    refine va_put (D := D) (ci := 5) (v := .int (-u_50.2)) (ty := .int) (C := RX5) (T := TX5) (N := 10) hx hb htg iX5 tyX5 tyX5_ok nmX5 hown hK hP hD hS 0 rfl rfl 8 (by decide) (htg _ tw_458) (fun _ h9 => h9) rfl (tyX5_ok 8 (by decide)) (rfl) (rfl) (Nat.le_of_ble_eq_true rfl) dX5_readsReading_169 (fun H locs hP hD hS => ?_)
                    have hP : va_P D vwCl [((g 0), .inr (5, [.int th, .ref (g 1), .int (nI sv), .ref (g 2), .ref (g 3), .int (nI ln), .int (nI (u_2.1 + 1 + 1 + 1 + 1)), .int (nI (1 + 4 * v1 + 2 * 1 + 0)), .int (-u_50.2), .long hs])), ((g 3), .inl (y 0, 60, .inl (zX tx)))] H := hP
                    have hD : va_D A [((g 0), .inr (5, [.int th, .ref (g 1), .int (nI sv), .ref (g 2), .ref (g 3), .int (nI ln), .int (nI (u_2.1 + 1 + 1 + 1 + 1)), .int (nI (1 + 4 * v1 + 2 * 1 + 0)), .int (-u_50.2), .long hs])), ((g 3), .inl (y 0, 60, .inl (zX tx)))] := hD
                    refine lv_iload hx hb dX5_readsReading_172 (lv_at hl 0 rfl) ?_
                    refine W.widen (k := 0) (n := 0) (by first | exact Nat.le_of_ble_eq_true rfl | omega) (by first | exact Nat.le_of_ble_eq_true rfl | omega) ?_
                    exact W.zret (v := 0) hx hb hr (rfl) (fun t ht hW => ⟨⟨0, (u_2.1 + 1 + 1 + 1 + 1, 1 + 4 * v1 + 2 * 1 + 0, -u_50.2), rfl, Or.inl ⟨rfl, show zBad tx ln (u_2.1 + 1 + 1 + 1 + 1) from zQ_f5 hQ5 (fun h => en2 ⟨by omega, by omega⟩)⟩, ⟨by rw [ht]; exact hP, hD⟩⟩, hS.F ht⟩) hS.2.2 dX5_readsReading_174
                  · refine zz_top (y := 1) er2 ?_
                    rw [ev2] at hP hD
                    have hP : va_P D vwCl [((g 0), .inr (5, [.int th, .ref (g 1), .int (nI sv), .ref (g 2), .ref (g 3), .int (nI ln), .int (nI u_50.1), .int (nI (1 + 4 * v1 + 2 * 1 + 0)), .int (nI v2), .long hs])), ((g 3), .inl (y 0, 60, .inl (zX tx)))] H := hP
                    have hD : va_D A [((g 0), .inr (5, [.int th, .ref (g 1), .int (nI sv), .ref (g 2), .ref (g 3), .int (nI ln), .int (nI u_50.1), .int (nI (1 + 4 * v1 + 2 * 1 + 0)), .int (nI v2), .long hs])), ((g 3), .inl (y 0, 60, .inl (zX tx)))] := hD
                    refine lv_istore (lv' := [(5, .int 1), (4, .int (if sg tx ln (u_2.1 + 1 + 1 + 1) = 45 then (1 : Int32) else 0)), (3, .int 0), (2, .int 1), (1, .int (nI v1)), (0, .ref (g 0))]) hx hb dX5_readsReading_149 hl (by decide) rfl (fun ls hl => ?_)
                    refine lv_aload_n hx hb dX5_readsReading_151 rfl (lv_at hl 5 rfl) ?_
                    refine lv_iload hx hb dX5_readsReading_152 (lv_at hl 1 rfl) ?_
                    refine lv_if_eq (tgt := 165) hx hb dX5_readsReading_154 (by decide) (fun c_154 => absurd c_154 (zb1.mpr c_135)) (fun _ => ?_)
                    refine lv_aload_n hx hb dX5_readsReading_157 rfl (lv_at hl 5 rfl) ?_
                    refine va_get (D := D) (ci := 5) (v := .int (nI v2)) (C := RX5) (T := TX5) (N := 10) hx hb htg iX5 hown hK hP 0 rfl rfl 8 (by decide) (htg _ tw_458) (fun _ h9 => h9) rfl dX5_readsReading_158 ?_
                    refine lv_ineg hx hb dX5_readsReading_161 ?_
                    refine lv_goto (tgt := 169) hx hb dX5_readsReading_162 (by decide) ?_
                    refine va_put (D := D) (ci := 5) (v := .int (-(nI v2))) (ty := .int) (C := RX5) (T := TX5) (N := 10) hx hb htg iX5 tyX5 tyX5_ok nmX5 hown hK hP hD hS 0 rfl rfl 8 (by decide) (htg _ tw_458) (fun _ h9 => h9) rfl (tyX5_ok 8 (by decide)) (rfl) (rfl) (Nat.le_of_ble_eq_true rfl) dX5_readsReading_169 (fun H locs hP hD hS => ?_)
                    have hP : va_P D vwCl [((g 0), .inr (5, [.int th, .ref (g 1), .int (nI sv), .ref (g 2), .ref (g 3), .int (nI ln), .int (nI u_50.1), .int (nI (1 + 4 * v1 + 2 * 1 + 0)), .int (-(nI v2)), .long hs])), ((g 3), .inl (y 0, 60, .inl (zX tx)))] H := hP
                    have hD : va_D A [((g 0), .inr (5, [.int th, .ref (g 1), .int (nI sv), .ref (g 2), .ref (g 3), .int (nI ln), .int (nI u_50.1), .int (nI (1 + 4 * v1 + 2 * 1 + 0)), .int (-(nI v2)), .long hs])), ((g 3), .inl (y 0, 60, .inl (zX tx)))] := hD
                    refine lv_iload hx hb dX5_readsReading_172 (lv_at hl 0 rfl) ?_
                    refine W.widen (k := 0) (n := 0) (by first | exact Nat.le_of_ble_eq_true rfl | omega) (by first | exact Nat.le_of_ble_eq_true rfl | omega) ?_
                    exact W.zret (v := 1) hx hb hr (rfl) (fun t ht hW => ⟨⟨1, (u_50.1, 1 + 4 * v1 + 2 * 1 + 0, -(nI v2)), rfl, Or.inr ⟨rfl, show zGot tx ln at9 (u_50.1) (1 + 4 * v1 + 2 * 1 + 0) (-(nI v2)) from zQ_6 hP2 (by omega) hno2 ((if_neg (by decide)).symm) (by omega)⟩, ⟨by rw [ht]; exact hP, hD⟩⟩, hS.F ht⟩) hS.2.2 dX5_readsReading_174
              · replace c_119 := zb0.mp c_119
                rw [if_neg c_119, Nat.add_zero] at hP hD
                have hP : va_P D vwCl [((g 0), .inr (5, [.int th, .ref (g 1), .int (nI sv), .ref (g 2), .ref (g 3), .int (nI ln), .int (nI (u_2.1 + 1 + 1)), .int (nI (1 + 4 * v1 + 2 * 1 + 0)), .int (nI v1), .long hs])), ((g 3), .inl (y 0, 60, .inl (zX tx)))] H := hP
                have hD : va_D A [((g 0), .inr (5, [.int th, .ref (g 1), .int (nI sv), .ref (g 2), .ref (g 3), .int (nI ln), .int (nI (u_2.1 + 1 + 1)), .int (nI (1 + 4 * v1 + 2 * 1 + 0)), .int (nI v1), .long hs])), ((g 3), .inl (y 0, 60, .inl (zX tx)))] := hD
                refine lv_iconst (v := 0) hx hb dX5_readsReading_122 (by decide) ?_
                refine W.widen (k := 0) (n := 0) (by first | exact Nat.le_of_ble_eq_true rfl | omega) (by first | exact Nat.le_of_ble_eq_true rfl | omega) ?_
                exact W.zret (v := 0) hx hb hr (rfl) (fun t ht hW => ⟨⟨0, (u_2.1 + 1 + 1, 1 + 4 * v1 + 2 * 1 + 0, nI v1), rfl, Or.inl ⟨rfl, show zBad tx ln (u_2.1 + 1 + 1) from zQ_f3 hQ3 c_119⟩, ⟨by rw [ht]; exact hP, hD⟩⟩, hS.F ht⟩) hS.2.2 dX5_readsReading_123
            · replace c_73 := zb0.mp c_73
              rw [if_neg c_73, Nat.add_zero] at hP hD
              have hP : va_P D vwCl [((g 0), .inr (5, [.int th, .ref (g 1), .int (nI sv), .ref (g 2), .ref (g 3), .int (nI ln), .int (nI (u_2.1 + 1)), .int (nI pl), .int (nI v1), .long hs])), ((g 3), .inl (y 0, 60, .inl (zX tx)))] H := hP
              have hD : va_D A [((g 0), .inr (5, [.int th, .ref (g 1), .int (nI sv), .ref (g 2), .ref (g 3), .int (nI ln), .int (nI (u_2.1 + 1)), .int (nI pl), .int (nI v1), .long hs])), ((g 3), .inl (y 0, 60, .inl (zX tx)))] := hD
              refine lv_aload_n hx hb dX5_readsReading_76 rfl (lv_at hl 3 rfl) ?_
              refine lv_bipush (v := 45) hx hb dX5_readsReading_77 (by decide) ?_
              refine zw_calli (wr := []) (w1 := (fun _ : Unit => [((g 0), .inr (5, [.int th, .ref (g 1), .int (nI sv), .ref (g 2), .ref (g 3), .int (nI ln), .int (nI (u_2.1 + 1 + (if sg tx ln (u_2.1 + 1) = 45 then 1 else 0))), .int (nI pl), .int (nI v1), .long hs])), ((g 3), .inl (y 0, 60, .inl (zX tx)))])) hP hD hS hA [0, 1] [] rfl rfl (by decide +kernel) (by decide +kernel) (va_runV (As := [.int 45]) (rest := []) ⟨hx, hb, hml, hown, hts⟩ (mX5_takes l D y _ g th sv ln (u_2.1 + 1) pl (nI v1) hs tx 45 (by first | assumption | rfl | omega | decide) (by first | assumption | rfl | omega | decide) (by first | assumption | rfl | omega | decide) (by first | assumption | rfl | omega | decide)) (cwV 1 hts (zgV tw_464 tw_465 tw_466 tw_369 tw_453) rfl rfl rfl (by decide +kernel) ⟨Nat.le_of_ble_eq_true rfl, Nat.le_of_ble_eq_true rfl⟩) (zRW_preV hKN hP hD (ci := 5) (q0 := 0) rfl rfl [0, 1] rfl (by decide)) rfl rfl hl.1 rfl (lv_room (Nat.le_of_ble_eq_true rfl)) dX5_readsReading_79 ⟨Nat.zero_le _, Nat.zero_le _⟩) (fun r_51 u_52 H locs hw_79 hP hD hS => ?_)
              have hP : va_P D vwCl [((g 0), .inr (5, [.int th, .ref (g 1), .int (nI sv), .ref (g 2), .ref (g 3), .int (nI ln), .int (nI (u_2.1 + 1 + (if sg tx ln (u_2.1 + 1) = 45 then 1 else 0))), .int (nI pl), .int (nI v1), .long hs])), ((g 3), .inl (y 0, 60, .inl (zX tx)))] H := hP
              have hD : va_D A [((g 0), .inr (5, [.int th, .ref (g 1), .int (nI sv), .ref (g 2), .ref (g 3), .int (nI ln), .int (nI (u_2.1 + 1 + (if sg tx ln (u_2.1 + 1) = 45 then 1 else 0))), .int (nI pl), .int (nI v1), .long hs])), ((g 3), .inl (y 0, 60, .inl (zX tx)))] := hD
              obtain rfl : r_51 = (if sg tx ln (u_2.1 + 1) = 45 then (1 : Int32) else 0) := hw_79
              refine lv_if_ne (tgt := 87) hx hb dX5_readsReading_82 (by decide) (fun c_82 => ?_) (fun c_82 => ?_)
              · replace c_82 := zb1.mp c_82
                exact absurd c_82 c_58
              · replace c_82 := zb0.mp c_82
                rw [if_neg c_82, Nat.add_zero] at hP hD
                have hP : va_P D vwCl [((g 0), .inr (5, [.int th, .ref (g 1), .int (nI sv), .ref (g 2), .ref (g 3), .int (nI ln), .int (nI (u_2.1 + 1)), .int (nI pl), .int (nI v1), .long hs])), ((g 3), .inl (y 0, 60, .inl (zX tx)))] H := hP
                have hD : va_D A [((g 0), .inr (5, [.int th, .ref (g 1), .int (nI sv), .ref (g 2), .ref (g 3), .int (nI ln), .int (nI (u_2.1 + 1)), .int (nI pl), .int (nI v1), .long hs])), ((g 3), .inl (y 0, 60, .inl (zX tx)))] := hD
                refine lv_iconst (v := 0) hx hb dX5_readsReading_85 (by decide) ?_
                refine W.widen (k := 0) (n := 0) (by first | exact Nat.le_of_ble_eq_true rfl | omega) (by first | exact Nat.le_of_ble_eq_true rfl | omega) ?_
                exact W.zret (v := 0) hx hb hr (rfl) (fun t ht hW => ⟨⟨0, (u_2.1 + 1, pl, nI v1), rfl, Or.inl ⟨rfl, show zBad tx ln (u_2.1 + 1) from zQ_f2 hQ2 c_73 c_82⟩, ⟨by rw [ht]; exact hP, hD⟩⟩, hS.F ht⟩) hS.2.2 dX5_readsReading_86
          · replace c_58 : (sg tx ln (u_2.1 + 1)) = 45 := (nI_eq (a := (sg tx ln (u_2.1 + 1))) (b := 45) (by omega) (by omega)).mp c_58
            refine lv_iconst (v := 1) hx hb dX5_readsReading_61 (by decide) ?_
            refine lv_goto (tgt := 66) hx hb dX5_readsReading_62 (by decide) ?_
            refine lv_istore_n (lv' := [(3, .int 1), (2, .int 1), (1, .int (nI v1)), (0, .ref (g 0))]) hx hb dX5_readsReading_66 rfl hl (by decide) rfl (fun ls hl => ?_)
            refine lv_aload_n hx hb dX5_readsReading_67 rfl (lv_at hl 3 rfl) ?_
            refine lv_bipush (v := 43) hx hb dX5_readsReading_68 (by decide) ?_
            refine zw_calli (wr := []) (w1 := (fun _ : Unit => [((g 0), .inr (5, [.int th, .ref (g 1), .int (nI sv), .ref (g 2), .ref (g 3), .int (nI ln), .int (nI (u_2.1 + 1 + (if sg tx ln (u_2.1 + 1) = 43 then 1 else 0))), .int (nI pl), .int (nI v1), .long hs])), ((g 3), .inl (y 0, 60, .inl (zX tx)))])) hP hD hS hA [0, 1] [] rfl rfl (by decide +kernel) (by decide +kernel) (va_runV (As := [.int 43]) (rest := []) ⟨hx, hb, hml, hown, hts⟩ (mX5_takes l D y _ g th sv ln (u_2.1 + 1) pl (nI v1) hs tx 43 (by first | assumption | rfl | omega | decide) (by first | assumption | rfl | omega | decide) (by first | assumption | rfl | omega | decide) (by first | assumption | rfl | omega | decide)) (cwV 1 hts (zgV tw_464 tw_465 tw_466 tw_369 tw_453) rfl rfl rfl (by decide +kernel) ⟨Nat.le_of_ble_eq_true rfl, Nat.le_of_ble_eq_true rfl⟩) (zRW_preV hKN hP hD (ci := 5) (q0 := 0) rfl rfl [0, 1] rfl (by decide)) rfl rfl hl.1 rfl (lv_room (Nat.le_of_ble_eq_true rfl)) dX5_readsReading_70 ⟨Nat.zero_le _, Nat.zero_le _⟩) (fun r_53 u_54 H locs hw_70 hP hD hS => ?_)
            have hP : va_P D vwCl [((g 0), .inr (5, [.int th, .ref (g 1), .int (nI sv), .ref (g 2), .ref (g 3), .int (nI ln), .int (nI (u_2.1 + 1 + (if sg tx ln (u_2.1 + 1) = 43 then 1 else 0))), .int (nI pl), .int (nI v1), .long hs])), ((g 3), .inl (y 0, 60, .inl (zX tx)))] H := hP
            have hD : va_D A [((g 0), .inr (5, [.int th, .ref (g 1), .int (nI sv), .ref (g 2), .ref (g 3), .int (nI ln), .int (nI (u_2.1 + 1 + (if sg tx ln (u_2.1 + 1) = 43 then 1 else 0))), .int (nI pl), .int (nI v1), .long hs])), ((g 3), .inl (y 0, 60, .inl (zX tx)))] := hD
            obtain rfl : r_53 = (if sg tx ln (u_2.1 + 1) = 43 then (1 : Int32) else 0) := hw_70
            refine lv_if_ne (tgt := 87) hx hb dX5_readsReading_73 (by decide) (fun c_73 => ?_) (fun c_73 => ?_)
            · replace c_73 := zb1.mp c_73
              exfalso; omega
            · replace c_73 := zb0.mp c_73
              rw [if_neg c_73, Nat.add_zero] at hP hD
              have hP : va_P D vwCl [((g 0), .inr (5, [.int th, .ref (g 1), .int (nI sv), .ref (g 2), .ref (g 3), .int (nI ln), .int (nI (u_2.1 + 1)), .int (nI pl), .int (nI v1), .long hs])), ((g 3), .inl (y 0, 60, .inl (zX tx)))] H := hP
              have hD : va_D A [((g 0), .inr (5, [.int th, .ref (g 1), .int (nI sv), .ref (g 2), .ref (g 3), .int (nI ln), .int (nI (u_2.1 + 1)), .int (nI pl), .int (nI v1), .long hs])), ((g 3), .inl (y 0, 60, .inl (zX tx)))] := hD
              refine lv_aload_n hx hb dX5_readsReading_76 rfl (lv_at hl 3 rfl) ?_
              refine lv_bipush (v := 45) hx hb dX5_readsReading_77 (by decide) ?_
              refine zw_calli (wr := []) (w1 := (fun _ : Unit => [((g 0), .inr (5, [.int th, .ref (g 1), .int (nI sv), .ref (g 2), .ref (g 3), .int (nI ln), .int (nI (u_2.1 + 1 + (if sg tx ln (u_2.1 + 1) = 45 then 1 else 0))), .int (nI pl), .int (nI v1), .long hs])), ((g 3), .inl (y 0, 60, .inl (zX tx)))])) hP hD hS hA [0, 1] [] rfl rfl (by decide +kernel) (by decide +kernel) (va_runV (As := [.int 45]) (rest := []) ⟨hx, hb, hml, hown, hts⟩ (mX5_takes l D y _ g th sv ln (u_2.1 + 1) pl (nI v1) hs tx 45 (by first | assumption | rfl | omega | decide) (by first | assumption | rfl | omega | decide) (by first | assumption | rfl | omega | decide) (by first | assumption | rfl | omega | decide)) (cwV 1 hts (zgV tw_464 tw_465 tw_466 tw_369 tw_453) rfl rfl rfl (by decide +kernel) ⟨Nat.le_of_ble_eq_true rfl, Nat.le_of_ble_eq_true rfl⟩) (zRW_preV hKN hP hD (ci := 5) (q0 := 0) rfl rfl [0, 1] rfl (by decide)) rfl rfl hl.1 rfl (lv_room (Nat.le_of_ble_eq_true rfl)) dX5_readsReading_79 ⟨Nat.zero_le _, Nat.zero_le _⟩) (fun r_55 u_56 H locs hw_79 hP hD hS => ?_)
              have hP : va_P D vwCl [((g 0), .inr (5, [.int th, .ref (g 1), .int (nI sv), .ref (g 2), .ref (g 3), .int (nI ln), .int (nI (u_2.1 + 1 + (if sg tx ln (u_2.1 + 1) = 45 then 1 else 0))), .int (nI pl), .int (nI v1), .long hs])), ((g 3), .inl (y 0, 60, .inl (zX tx)))] H := hP
              have hD : va_D A [((g 0), .inr (5, [.int th, .ref (g 1), .int (nI sv), .ref (g 2), .ref (g 3), .int (nI ln), .int (nI (u_2.1 + 1 + (if sg tx ln (u_2.1 + 1) = 45 then 1 else 0))), .int (nI pl), .int (nI v1), .long hs])), ((g 3), .inl (y 0, 60, .inl (zX tx)))] := hD
              obtain rfl : r_55 = (if sg tx ln (u_2.1 + 1) = 45 then (1 : Int32) else 0) := hw_79
              refine lv_if_ne (tgt := 87) hx hb dX5_readsReading_82 (by decide) (fun c_82 => ?_) (fun c_82 => ?_)
              · replace c_82 := zb1.mp c_82
                rw [if_pos c_82] at hP hD
                have hP : va_P D vwCl [((g 0), .inr (5, [.int th, .ref (g 1), .int (nI sv), .ref (g 2), .ref (g 3), .int (nI ln), .int (nI (u_2.1 + 1 + 1)), .int (nI pl), .int (nI v1), .long hs])), ((g 3), .inl (y 0, 60, .inl (zX tx)))] H := hP
                have hD : va_D A [((g 0), .inr (5, [.int th, .ref (g 1), .int (nI sv), .ref (g 2), .ref (g 3), .int (nI ln), .int (nI (u_2.1 + 1 + 1)), .int (nI pl), .int (nI v1), .long hs])), ((g 3), .inl (y 0, 60, .inl (zX tx)))] := hD
                have e3 : u_2.1 + 1 < ln := sg_in (tx := tx) (by omega)
                have e4 := sg_y (tx := tx) e3
                have hQ3 := zQ_23 (f' := 1) hQ2 e3 (by decide) (by omega)
                refine lv_aload_n hx hb dX5_readsReading_87 rfl (lv_at hl 3 rfl) ?_
                refine lv_iload_n hx hb dX5_readsReading_88 rfl (lv_at hl 2 rfl) ?_
                refine lv_iload_n hx hb dX5_readsReading_89 rfl (lv_at hl 1 rfl) ?_
                refine lv_if_eq (tgt := 97) hx hb dX5_readsReading_90 (by decide) (fun c_90 => absurd c_90 (by decide)) (fun _ => ?_)
                refine lv_iconst (v := 1) hx hb dX5_readsReading_93 (by decide) ?_
                refine lv_goto (tgt := 98) hx hb dX5_readsReading_94 (by decide) ?_
                refine lv_iload_n hx hb dX5_readsReading_98 rfl (lv_at hl 0 rfl) ?_
                refine lv_if_eq (tgt := 106) hx hb dX5_readsReading_99 (by decide) (fun c_99 => absurd c_99 (by decide)) (fun _ => ?_)
                refine lv_iconst (v := 1) hx hb dX5_readsReading_102 (by decide) ?_
                refine lv_goto (tgt := 107) hx hb dX5_readsReading_103 (by decide) ?_
                refine zr_calli (va_runS (As := [.int (nI v1), .int 1, .int 1]) (rest := [.ref (g 0)]) ⟨hx, hb, hml, hown, hts⟩ (mX5_placeOf l v1 1 1) (va_cwS 3 hts (zgS tw_388 tw_389 tw_369 tw_386) rfl rfl rfl (by decide +kernel) ⟨Nat.le_of_ble_eq_true rfl, Nat.le_of_ble_eq_true rfl⟩) zP_pre rfl rfl hl.1 rfl (lv_room (Nat.le_of_ble_eq_true rfl)) dX5_readsReading_107 ⟨Nat.zero_le _, Nat.zero_le _⟩) hS (fun r_57 H locs hw_107 hT hS => ?_)
                replace hP := hT _ _ hP
                obtain rfl : r_57 = nI (1 + 4 * v1 + 2 * 1 + 1) := hw_107
                refine va_put (D := D) (ci := 5) (v := .int (nI (1 + 4 * v1 + 2 * 1 + 1))) (ty := .int) (C := RX5) (T := TX5) (N := 10) hx hb htg iX5 tyX5 tyX5_ok nmX5 hown hK hP hD hS 0 rfl rfl 7 (by decide) (htg _ tw_460) (fun _ h9 => h9) rfl (tyX5_ok 7 (by decide)) (rfl) (rfl) (Nat.le_of_ble_eq_true rfl) dX5_readsReading_110 (fun H locs hP hD hS => ?_)
                have hP : va_P D vwCl [((g 0), .inr (5, [.int th, .ref (g 1), .int (nI sv), .ref (g 2), .ref (g 3), .int (nI ln), .int (nI (u_2.1 + 1 + 1)), .int (nI (1 + 4 * v1 + 2 * 1 + 1)), .int (nI v1), .long hs])), ((g 3), .inl (y 0, 60, .inl (zX tx)))] H := hP
                have hD : va_D A [((g 0), .inr (5, [.int th, .ref (g 1), .int (nI sv), .ref (g 2), .ref (g 3), .int (nI ln), .int (nI (u_2.1 + 1 + 1)), .int (nI (1 + 4 * v1 + 2 * 1 + 1)), .int (nI v1), .long hs])), ((g 3), .inl (y 0, 60, .inl (zX tx)))] := hD
                refine lv_aload_n hx hb dX5_readsReading_113 rfl (lv_at hl 3 rfl) ?_
                refine lv_bipush (v := 61) hx hb dX5_readsReading_114 (by decide) ?_
                refine zw_calli (wr := []) (w1 := (fun _ : Unit => [((g 0), .inr (5, [.int th, .ref (g 1), .int (nI sv), .ref (g 2), .ref (g 3), .int (nI ln), .int (nI (u_2.1 + 1 + 1 + (if sg tx ln (u_2.1 + 1 + 1) = 61 then 1 else 0))), .int (nI (1 + 4 * v1 + 2 * 1 + 1)), .int (nI v1), .long hs])), ((g 3), .inl (y 0, 60, .inl (zX tx)))])) hP hD hS hA [0, 1] [] rfl rfl (by decide +kernel) (by decide +kernel) (va_runV (As := [.int 61]) (rest := []) ⟨hx, hb, hml, hown, hts⟩ (mX5_takes l D y _ g th sv ln (u_2.1 + 1 + 1) (1 + 4 * v1 + 2 * 1 + 1) (nI v1) hs tx 61 (by first | assumption | rfl | omega | decide) (by first | assumption | rfl | omega | decide) (by first | assumption | rfl | omega | decide) (by first | assumption | rfl | omega | decide)) (cwV 1 hts (zgV tw_464 tw_465 tw_466 tw_369 tw_453) rfl rfl rfl (by decide +kernel) ⟨Nat.le_of_ble_eq_true rfl, Nat.le_of_ble_eq_true rfl⟩) (zRW_preV hKN hP hD (ci := 5) (q0 := 0) rfl rfl [0, 1] rfl (by decide)) rfl rfl hl.1 rfl (lv_room (Nat.le_of_ble_eq_true rfl)) dX5_readsReading_116 ⟨Nat.zero_le _, Nat.zero_le _⟩) (fun r_58 u_59 H locs hw_116 hP hD hS => ?_)
                have hP : va_P D vwCl [((g 0), .inr (5, [.int th, .ref (g 1), .int (nI sv), .ref (g 2), .ref (g 3), .int (nI ln), .int (nI (u_2.1 + 1 + 1 + (if sg tx ln (u_2.1 + 1 + 1) = 61 then 1 else 0))), .int (nI (1 + 4 * v1 + 2 * 1 + 1)), .int (nI v1), .long hs])), ((g 3), .inl (y 0, 60, .inl (zX tx)))] H := hP
                have hD : va_D A [((g 0), .inr (5, [.int th, .ref (g 1), .int (nI sv), .ref (g 2), .ref (g 3), .int (nI ln), .int (nI (u_2.1 + 1 + 1 + (if sg tx ln (u_2.1 + 1 + 1) = 61 then 1 else 0))), .int (nI (1 + 4 * v1 + 2 * 1 + 1)), .int (nI v1), .long hs])), ((g 3), .inl (y 0, 60, .inl (zX tx)))] := hD
                obtain rfl : r_58 = (if sg tx ln (u_2.1 + 1 + 1) = 61 then (1 : Int32) else 0) := hw_116
                refine lv_if_ne (tgt := 124) hx hb dX5_readsReading_119 (by decide) (fun c_119 => ?_) (fun c_119 => ?_)
                · replace c_119 := zb1.mp c_119
                  rw [if_pos c_119] at hP hD
                  have hP : va_P D vwCl [((g 0), .inr (5, [.int th, .ref (g 1), .int (nI sv), .ref (g 2), .ref (g 3), .int (nI ln), .int (nI (u_2.1 + 1 + 1 + 1)), .int (nI (1 + 4 * v1 + 2 * 1 + 1)), .int (nI v1), .long hs])), ((g 3), .inl (y 0, 60, .inl (zX tx)))] H := hP
                  have hD : va_D A [((g 0), .inr (5, [.int th, .ref (g 1), .int (nI sv), .ref (g 2), .ref (g 3), .int (nI ln), .int (nI (u_2.1 + 1 + 1 + 1)), .int (nI (1 + 4 * v1 + 2 * 1 + 1)), .int (nI v1), .long hs])), ((g 3), .inl (y 0, 60, .inl (zX tx)))] := hD
                  have e5 : u_2.1 + 1 + 1 < ln := sg_in (tx := tx) (by omega)
                  have e6 := sg_y (tx := tx) e5
                  have hQ4 := zQ_34 hQ3 e5 (by omega)
                  refine lv_aload_n hx hb dX5_readsReading_124 rfl (lv_at hl 3 rfl) ?_
                  refine lv_bipush (v := 45) hx hb dX5_readsReading_125 (by decide) ?_
                  refine zw_calli (wr := []) (w1 := (fun _ : Unit => [((g 0), .inr (5, [.int th, .ref (g 1), .int (nI sv), .ref (g 2), .ref (g 3), .int (nI ln), .int (nI (u_2.1 + 1 + 1 + 1 + (if sg tx ln (u_2.1 + 1 + 1 + 1) = 45 then 1 else 0))), .int (nI (1 + 4 * v1 + 2 * 1 + 1)), .int (nI v1), .long hs])), ((g 3), .inl (y 0, 60, .inl (zX tx)))])) hP hD hS hA [0, 1] [] rfl rfl (by decide +kernel) (by decide +kernel) (va_runV (As := [.int 45]) (rest := []) ⟨hx, hb, hml, hown, hts⟩ (mX5_takes l D y _ g th sv ln (u_2.1 + 1 + 1 + 1) (1 + 4 * v1 + 2 * 1 + 1) (nI v1) hs tx 45 (by first | assumption | rfl | omega | decide) (by first | assumption | rfl | omega | decide) (by first | assumption | rfl | omega | decide) (by first | assumption | rfl | omega | decide)) (cwV 1 hts (zgV tw_464 tw_465 tw_466 tw_369 tw_453) rfl rfl rfl (by decide +kernel) ⟨Nat.le_of_ble_eq_true rfl, Nat.le_of_ble_eq_true rfl⟩) (zRW_preV hKN hP hD (ci := 5) (q0 := 0) rfl rfl [0, 1] rfl (by decide)) rfl rfl hl.1 rfl (lv_room (Nat.le_of_ble_eq_true rfl)) dX5_readsReading_127 ⟨Nat.zero_le _, Nat.zero_le _⟩) (fun r_60 u_61 H locs hw_127 hP hD hS => ?_)
                  have hP : va_P D vwCl [((g 0), .inr (5, [.int th, .ref (g 1), .int (nI sv), .ref (g 2), .ref (g 3), .int (nI ln), .int (nI (u_2.1 + 1 + 1 + 1 + (if sg tx ln (u_2.1 + 1 + 1 + 1) = 45 then 1 else 0))), .int (nI (1 + 4 * v1 + 2 * 1 + 1)), .int (nI v1), .long hs])), ((g 3), .inl (y 0, 60, .inl (zX tx)))] H := hP
                  have hD : va_D A [((g 0), .inr (5, [.int th, .ref (g 1), .int (nI sv), .ref (g 2), .ref (g 3), .int (nI ln), .int (nI (u_2.1 + 1 + 1 + 1 + (if sg tx ln (u_2.1 + 1 + 1 + 1) = 45 then 1 else 0))), .int (nI (1 + 4 * v1 + 2 * 1 + 1)), .int (nI v1), .long hs])), ((g 3), .inl (y 0, 60, .inl (zX tx)))] := hD
                  obtain rfl : r_60 = (if sg tx ln (u_2.1 + 1 + 1 + 1) = 45 then (1 : Int32) else 0) := hw_127
                  refine lv_istore (lv' := [(4, .int (if sg tx ln (u_2.1 + 1 + 1 + 1) = 45 then (1 : Int32) else 0)), (3, .int 1), (2, .int 1), (1, .int (nI v1)), (0, .ref (g 0))]) hx hb dX5_readsReading_130 hl (by decide) rfl (fun ls hl => ?_)
                  refine lv_aload_n hx hb dX5_readsReading_132 rfl (lv_at hl 4 rfl) ?_
                  refine lv_iload hx hb dX5_readsReading_133 (lv_at hl 0 rfl) ?_
                  refine lv_if_eq (tgt := 142) hx hb dX5_readsReading_135 (by decide) (fun c_135 => ?_) (fun c_135 => ?_)
                  · replace c_135 := zb0.mp c_135
                    rw [if_neg c_135, Nat.add_zero] at hP hD
                    have hP : va_P D vwCl [((g 0), .inr (5, [.int th, .ref (g 1), .int (nI sv), .ref (g 2), .ref (g 3), .int (nI ln), .int (nI (u_2.1 + 1 + 1 + 1)), .int (nI (1 + 4 * v1 + 2 * 1 + 1)), .int (nI v1), .long hs])), ((g 3), .inl (y 0, 60, .inl (zX tx)))] H := hP
                    have hD : va_D A [((g 0), .inr (5, [.int th, .ref (g 1), .int (nI sv), .ref (g 2), .ref (g 3), .int (nI ln), .int (nI (u_2.1 + 1 + 1 + 1)), .int (nI (1 + 4 * v1 + 2 * 1 + 1)), .int (nI v1), .long hs])), ((g 3), .inl (y 0, 60, .inl (zX tx)))] := hD
                    refine lv_iconst (v := 0) hx hb dX5_readsReading_142 (by decide) ?_
                    refine lv_sipush (v := 200) hx hb dX5_readsReading_143 (by decide) ?_
                    refine zw_calli (wr := []) (w1 := (fun u : (Nat × Int32) => [((g 0), .inr (5, [.int th, .ref (g 1), .int (nI sv), .ref (g 2), .ref (g 3), .int (nI ln), .int (nI u.1), .int (nI (1 + 4 * v1 + 2 * 1 + 1)), .int u.2, .long hs])), ((g 3), .inl (y 0, 60, .inl (zX tx)))])) hP hD hS hA [0, 1] [] rfl rfl (by decide +kernel) (by decide +kernel) (va_runV (As := [.int 0, .int 200]) (rest := []) ⟨hx, hb, hml, hown, hts⟩ (mX5_readsNumber l D y _ g th sv ln (u_2.1 + 1 + 1 + 1) (1 + 4 * v1 + 2 * 1 + 1) (nI v1) hs tx (fun b v => zQ tx ln at9 b 6 v1 1 1 0 v) 0 200 (by first | assumption | rfl | omega | decide) (by first | assumption | rfl | omega | decide) (by first | assumption | rfl | omega | decide) (by first | assumption | rfl | omega | decide) (by first | assumption | rfl | omega | decide) (fun h1 h2 h3 => zQ_46 hQ4 h1 ⟨by omega, h3⟩) (fun b v h1 h2 h3 h4 h5 => zQ_66 h1 h2 h4 h3 h5)) (cwV 2 hts (zgV tw_461 tw_462 tw_463 tw_369 tw_457) rfl rfl rfl (by decide +kernel) ⟨Nat.le_of_ble_eq_true rfl, Nat.le_of_ble_eq_true rfl⟩) (zRW_preV hKN hP hD (ci := 5) (q0 := 0) rfl rfl [0, 1] rfl (by decide)) rfl rfl hl.1 rfl (lv_room (Nat.le_of_ble_eq_true rfl)) dX5_readsReading_146 ⟨Nat.zero_le _, Nat.zero_le _⟩) (fun r_62 u_63 H locs hw_146 hP hD hS => ?_)
                    have hP : va_P D vwCl [((g 0), .inr (5, [.int th, .ref (g 1), .int (nI sv), .ref (g 2), .ref (g 3), .int (nI ln), .int (nI u_63.1), .int (nI (1 + 4 * v1 + 2 * 1 + 1)), .int u_63.2, .long hs])), ((g 3), .inl (y 0, 60, .inl (zX tx)))] H := hP
                    have hD : va_D A [((g 0), .inr (5, [.int th, .ref (g 1), .int (nI sv), .ref (g 2), .ref (g 3), .int (nI ln), .int (nI u_63.1), .int (nI (1 + 4 * v1 + 2 * 1 + 1)), .int u_63.2, .long hs])), ((g 3), .inl (y 0, 60, .inl (zX tx)))] := hD
                    try dsimp only at hw_146
                    rcases hw_146 with ⟨er2, ea2, ev2, en2⟩ | ⟨er2, v2, ev2, hv2, hlt2, hP2, hle2, hno2⟩
                    · refine zz_top (y := 0) er2 ?_
                      rw [ea2] at hP hD
                      have hP : va_P D vwCl [((g 0), .inr (5, [.int th, .ref (g 1), .int (nI sv), .ref (g 2), .ref (g 3), .int (nI ln), .int (nI (u_2.1 + 1 + 1 + 1)), .int (nI (1 + 4 * v1 + 2 * 1 + 1)), .int u_63.2, .long hs])), ((g 3), .inl (y 0, 60, .inl (zX tx)))] H := hP
                      have hD : va_D A [((g 0), .inr (5, [.int th, .ref (g 1), .int (nI sv), .ref (g 2), .ref (g 3), .int (nI ln), .int (nI (u_2.1 + 1 + 1 + 1)), .int (nI (1 + 4 * v1 + 2 * 1 + 1)), .int u_63.2, .long hs])), ((g 3), .inl (y 0, 60, .inl (zX tx)))] := hD
                      refine lv_istore (lv' := [(5, .int 0), (4, .int (if sg tx ln (u_2.1 + 1 + 1 + 1) = 45 then (1 : Int32) else 0)), (3, .int 1), (2, .int 1), (1, .int (nI v1)), (0, .ref (g 0))]) hx hb dX5_readsReading_149 hl (by decide) rfl (fun ls hl => ?_)
                      refine lv_aload_n hx hb dX5_readsReading_151 rfl (lv_at hl 5 rfl) ?_
                      refine lv_iload hx hb dX5_readsReading_152 (lv_at hl 1 rfl) ?_
                      refine lv_if_eq (tgt := 165) hx hb dX5_readsReading_154 (by decide) (fun _ => ?_) (fun c_154 => absurd (zb0.mpr c_135) c_154)
                      refine lv_aload_n hx hb dX5_readsReading_165 rfl (lv_at hl 5 rfl) ?_
                      refine va_get (D := D) (ci := 5) (v := .int u_63.2) (C := RX5) (T := TX5) (N := 10) hx hb htg iX5 hown hK hP 0 rfl rfl 8 (by decide) (htg _ tw_458) (fun _ h9 => h9) rfl dX5_readsReading_166 ?_
                      refine va_put (D := D) (ci := 5) (v := .int u_63.2) (ty := .int) (C := RX5) (T := TX5) (N := 10) hx hb htg iX5 tyX5 tyX5_ok nmX5 hown hK hP hD hS 0 rfl rfl 8 (by decide) (htg _ tw_458) (fun _ h9 => h9) rfl (tyX5_ok 8 (by decide)) (rfl) (rfl) (Nat.le_of_ble_eq_true rfl) dX5_readsReading_169 (fun H locs hP hD hS => ?_)
                      have hP : va_P D vwCl [((g 0), .inr (5, [.int th, .ref (g 1), .int (nI sv), .ref (g 2), .ref (g 3), .int (nI ln), .int (nI (u_2.1 + 1 + 1 + 1)), .int (nI (1 + 4 * v1 + 2 * 1 + 1)), .int u_63.2, .long hs])), ((g 3), .inl (y 0, 60, .inl (zX tx)))] H := hP
                      have hD : va_D A [((g 0), .inr (5, [.int th, .ref (g 1), .int (nI sv), .ref (g 2), .ref (g 3), .int (nI ln), .int (nI (u_2.1 + 1 + 1 + 1)), .int (nI (1 + 4 * v1 + 2 * 1 + 1)), .int u_63.2, .long hs])), ((g 3), .inl (y 0, 60, .inl (zX tx)))] := hD
                      refine lv_iload hx hb dX5_readsReading_172 (lv_at hl 0 rfl) ?_
                      refine W.widen (k := 0) (n := 0) (by first | exact Nat.le_of_ble_eq_true rfl | omega) (by first | exact Nat.le_of_ble_eq_true rfl | omega) ?_
                      exact W.zret (v := 0) hx hb hr (rfl) (fun t ht hW => ⟨⟨0, (u_2.1 + 1 + 1 + 1, 1 + 4 * v1 + 2 * 1 + 1, u_63.2), rfl, Or.inl ⟨rfl, show zBad tx ln (u_2.1 + 1 + 1 + 1) from zQ_f4 hQ4 c_135 (fun h => en2 ⟨by omega, by omega⟩)⟩, ⟨by rw [ht]; exact hP, hD⟩⟩, hS.F ht⟩) hS.2.2 dX5_readsReading_174
                    · refine zz_top (y := 1) er2 ?_
                      rw [ev2] at hP hD
                      have hP : va_P D vwCl [((g 0), .inr (5, [.int th, .ref (g 1), .int (nI sv), .ref (g 2), .ref (g 3), .int (nI ln), .int (nI u_63.1), .int (nI (1 + 4 * v1 + 2 * 1 + 1)), .int (nI v2), .long hs])), ((g 3), .inl (y 0, 60, .inl (zX tx)))] H := hP
                      have hD : va_D A [((g 0), .inr (5, [.int th, .ref (g 1), .int (nI sv), .ref (g 2), .ref (g 3), .int (nI ln), .int (nI u_63.1), .int (nI (1 + 4 * v1 + 2 * 1 + 1)), .int (nI v2), .long hs])), ((g 3), .inl (y 0, 60, .inl (zX tx)))] := hD
                      refine lv_istore (lv' := [(5, .int 1), (4, .int (if sg tx ln (u_2.1 + 1 + 1 + 1) = 45 then (1 : Int32) else 0)), (3, .int 1), (2, .int 1), (1, .int (nI v1)), (0, .ref (g 0))]) hx hb dX5_readsReading_149 hl (by decide) rfl (fun ls hl => ?_)
                      refine lv_aload_n hx hb dX5_readsReading_151 rfl (lv_at hl 5 rfl) ?_
                      refine lv_iload hx hb dX5_readsReading_152 (lv_at hl 1 rfl) ?_
                      refine lv_if_eq (tgt := 165) hx hb dX5_readsReading_154 (by decide) (fun _ => ?_) (fun c_154 => absurd (zb0.mpr c_135) c_154)
                      refine lv_aload_n hx hb dX5_readsReading_165 rfl (lv_at hl 5 rfl) ?_
                      refine va_get (D := D) (ci := 5) (v := .int (nI v2)) (C := RX5) (T := TX5) (N := 10) hx hb htg iX5 hown hK hP 0 rfl rfl 8 (by decide) (htg _ tw_458) (fun _ h9 => h9) rfl dX5_readsReading_166 ?_
                      refine va_put (D := D) (ci := 5) (v := .int (nI v2)) (ty := .int) (C := RX5) (T := TX5) (N := 10) hx hb htg iX5 tyX5 tyX5_ok nmX5 hown hK hP hD hS 0 rfl rfl 8 (by decide) (htg _ tw_458) (fun _ h9 => h9) rfl (tyX5_ok 8 (by decide)) (rfl) (rfl) (Nat.le_of_ble_eq_true rfl) dX5_readsReading_169 (fun H locs hP hD hS => ?_)
                      have hP : va_P D vwCl [((g 0), .inr (5, [.int th, .ref (g 1), .int (nI sv), .ref (g 2), .ref (g 3), .int (nI ln), .int (nI u_63.1), .int (nI (1 + 4 * v1 + 2 * 1 + 1)), .int (nI v2), .long hs])), ((g 3), .inl (y 0, 60, .inl (zX tx)))] H := hP
                      have hD : va_D A [((g 0), .inr (5, [.int th, .ref (g 1), .int (nI sv), .ref (g 2), .ref (g 3), .int (nI ln), .int (nI u_63.1), .int (nI (1 + 4 * v1 + 2 * 1 + 1)), .int (nI v2), .long hs])), ((g 3), .inl (y 0, 60, .inl (zX tx)))] := hD
                      refine lv_iload hx hb dX5_readsReading_172 (lv_at hl 0 rfl) ?_
                      refine W.widen (k := 0) (n := 0) (by first | exact Nat.le_of_ble_eq_true rfl | omega) (by first | exact Nat.le_of_ble_eq_true rfl | omega) ?_
                      exact W.zret (v := 1) hx hb hr (rfl) (fun t ht hW => ⟨⟨1, (u_63.1, 1 + 4 * v1 + 2 * 1 + 1, nI v2), rfl, Or.inr ⟨rfl, show zGot tx ln at9 (u_63.1) (1 + 4 * v1 + 2 * 1 + 1) (nI v2) from zQ_6 hP2 (by omega) hno2 ((if_pos rfl).symm) (by omega)⟩, ⟨by rw [ht]; exact hP, hD⟩⟩, hS.F ht⟩) hS.2.2 dX5_readsReading_174
                  · replace c_135 := zb1.mp c_135
                    rw [if_pos c_135] at hP hD
                    have hP : va_P D vwCl [((g 0), .inr (5, [.int th, .ref (g 1), .int (nI sv), .ref (g 2), .ref (g 3), .int (nI ln), .int (nI (u_2.1 + 1 + 1 + 1 + 1)), .int (nI (1 + 4 * v1 + 2 * 1 + 1)), .int (nI v1), .long hs])), ((g 3), .inl (y 0, 60, .inl (zX tx)))] H := hP
                    have hD : va_D A [((g 0), .inr (5, [.int th, .ref (g 1), .int (nI sv), .ref (g 2), .ref (g 3), .int (nI ln), .int (nI (u_2.1 + 1 + 1 + 1 + 1)), .int (nI (1 + 4 * v1 + 2 * 1 + 1)), .int (nI v1), .long hs])), ((g 3), .inl (y 0, 60, .inl (zX tx)))] := hD
                    have e7 : u_2.1 + 1 + 1 + 1 < ln := sg_in (tx := tx) (by omega)
                    have e8 := sg_y (tx := tx) e7
                    have hQ5 := zQ_45 hQ4 e7 (by omega)
                    refine lv_iconst (v := 1) hx hb dX5_readsReading_138 (by decide) ?_
                    refine lv_goto (tgt := 143) hx hb dX5_readsReading_139 (by decide) ?_
                    refine lv_sipush (v := 200) hx hb dX5_readsReading_143 (by decide) ?_
                    refine zw_calli (wr := []) (w1 := (fun u : (Nat × Int32) => [((g 0), .inr (5, [.int th, .ref (g 1), .int (nI sv), .ref (g 2), .ref (g 3), .int (nI ln), .int (nI u.1), .int (nI (1 + 4 * v1 + 2 * 1 + 1)), .int u.2, .long hs])), ((g 3), .inl (y 0, 60, .inl (zX tx)))])) hP hD hS hA [0, 1] [] rfl rfl (by decide +kernel) (by decide +kernel) (va_runV (As := [.int 1, .int 200]) (rest := []) ⟨hx, hb, hml, hown, hts⟩ (mX5_readsNumber l D y _ g th sv ln (u_2.1 + 1 + 1 + 1 + 1) (1 + 4 * v1 + 2 * 1 + 1) (nI v1) hs tx (fun b v => zQ tx ln at9 b 6 v1 1 1 1 v) 1 200 (by first | assumption | rfl | omega | decide) (by first | assumption | rfl | omega | decide) (by first | assumption | rfl | omega | decide) (by first | assumption | rfl | omega | decide) (by first | assumption | rfl | omega | decide) (fun h1 h2 h3 => zQ_56 hQ5 h1 (by omega) h3) (fun b v h1 h2 h3 h4 h5 => zQ_66 h1 h2 h4 h3 h5)) (cwV 2 hts (zgV tw_461 tw_462 tw_463 tw_369 tw_457) rfl rfl rfl (by decide +kernel) ⟨Nat.le_of_ble_eq_true rfl, Nat.le_of_ble_eq_true rfl⟩) (zRW_preV hKN hP hD (ci := 5) (q0 := 0) rfl rfl [0, 1] rfl (by decide)) rfl rfl hl.1 rfl (lv_room (Nat.le_of_ble_eq_true rfl)) dX5_readsReading_146 ⟨Nat.zero_le _, Nat.zero_le _⟩) (fun r_64 u_65 H locs hw_146 hP hD hS => ?_)
                    have hP : va_P D vwCl [((g 0), .inr (5, [.int th, .ref (g 1), .int (nI sv), .ref (g 2), .ref (g 3), .int (nI ln), .int (nI u_65.1), .int (nI (1 + 4 * v1 + 2 * 1 + 1)), .int u_65.2, .long hs])), ((g 3), .inl (y 0, 60, .inl (zX tx)))] H := hP
                    have hD : va_D A [((g 0), .inr (5, [.int th, .ref (g 1), .int (nI sv), .ref (g 2), .ref (g 3), .int (nI ln), .int (nI u_65.1), .int (nI (1 + 4 * v1 + 2 * 1 + 1)), .int u_65.2, .long hs])), ((g 3), .inl (y 0, 60, .inl (zX tx)))] := hD
                    try dsimp only at hw_146
                    rcases hw_146 with ⟨er2, ea2, ev2, en2⟩ | ⟨er2, v2, ev2, hv2, hlt2, hP2, hle2, hno2⟩
                    · refine zz_top (y := 0) er2 ?_
                      rw [ea2] at hP hD
                      have hP : va_P D vwCl [((g 0), .inr (5, [.int th, .ref (g 1), .int (nI sv), .ref (g 2), .ref (g 3), .int (nI ln), .int (nI (u_2.1 + 1 + 1 + 1 + 1)), .int (nI (1 + 4 * v1 + 2 * 1 + 1)), .int u_65.2, .long hs])), ((g 3), .inl (y 0, 60, .inl (zX tx)))] H := hP
                      have hD : va_D A [((g 0), .inr (5, [.int th, .ref (g 1), .int (nI sv), .ref (g 2), .ref (g 3), .int (nI ln), .int (nI (u_2.1 + 1 + 1 + 1 + 1)), .int (nI (1 + 4 * v1 + 2 * 1 + 1)), .int u_65.2, .long hs])), ((g 3), .inl (y 0, 60, .inl (zX tx)))] := hD
                      refine lv_istore (lv' := [(5, .int 0), (4, .int (if sg tx ln (u_2.1 + 1 + 1 + 1) = 45 then (1 : Int32) else 0)), (3, .int 1), (2, .int 1), (1, .int (nI v1)), (0, .ref (g 0))]) hx hb dX5_readsReading_149 hl (by decide) rfl (fun ls hl => ?_)
                      refine lv_aload_n hx hb dX5_readsReading_151 rfl (lv_at hl 5 rfl) ?_
                      refine lv_iload hx hb dX5_readsReading_152 (lv_at hl 1 rfl) ?_
                      refine lv_if_eq (tgt := 165) hx hb dX5_readsReading_154 (by decide) (fun c_154 => absurd c_154 (zb1.mpr c_135)) (fun _ => ?_)
                      refine lv_aload_n hx hb dX5_readsReading_157 rfl (lv_at hl 5 rfl) ?_
                      refine va_get (D := D) (ci := 5) (v := .int u_65.2) (C := RX5) (T := TX5) (N := 10) hx hb htg iX5 hown hK hP 0 rfl rfl 8 (by decide) (htg _ tw_458) (fun _ h9 => h9) rfl dX5_readsReading_158 ?_
                      refine lv_ineg hx hb dX5_readsReading_161 ?_
                      refine lv_goto (tgt := 169) hx hb dX5_readsReading_162 (by decide) ?_
                      refine va_put (D := D) (ci := 5) (v := .int (-u_65.2)) (ty := .int) (C := RX5) (T := TX5) (N := 10) hx hb htg iX5 tyX5 tyX5_ok nmX5 hown hK hP hD hS 0 rfl rfl 8 (by decide) (htg _ tw_458) (fun _ h9 => h9) rfl (tyX5_ok 8 (by decide)) (rfl) (rfl) (Nat.le_of_ble_eq_true rfl) dX5_readsReading_169 (fun H locs hP hD hS => ?_)
                      have hP : va_P D vwCl [((g 0), .inr (5, [.int th, .ref (g 1), .int (nI sv), .ref (g 2), .ref (g 3), .int (nI ln), .int (nI (u_2.1 + 1 + 1 + 1 + 1)), .int (nI (1 + 4 * v1 + 2 * 1 + 1)), .int (-u_65.2), .long hs])), ((g 3), .inl (y 0, 60, .inl (zX tx)))] H := hP
                      have hD : va_D A [((g 0), .inr (5, [.int th, .ref (g 1), .int (nI sv), .ref (g 2), .ref (g 3), .int (nI ln), .int (nI (u_2.1 + 1 + 1 + 1 + 1)), .int (nI (1 + 4 * v1 + 2 * 1 + 1)), .int (-u_65.2), .long hs])), ((g 3), .inl (y 0, 60, .inl (zX tx)))] := hD
                      refine lv_iload hx hb dX5_readsReading_172 (lv_at hl 0 rfl) ?_
                      refine W.widen (k := 0) (n := 0) (by first | exact Nat.le_of_ble_eq_true rfl | omega) (by first | exact Nat.le_of_ble_eq_true rfl | omega) ?_
                      exact W.zret (v := 0) hx hb hr (rfl) (fun t ht hW => ⟨⟨0, (u_2.1 + 1 + 1 + 1 + 1, 1 + 4 * v1 + 2 * 1 + 1, -u_65.2), rfl, Or.inl ⟨rfl, show zBad tx ln (u_2.1 + 1 + 1 + 1 + 1) from zQ_f5 hQ5 (fun h => en2 ⟨by omega, by omega⟩)⟩, ⟨by rw [ht]; exact hP, hD⟩⟩, hS.F ht⟩) hS.2.2 dX5_readsReading_174
                    · refine zz_top (y := 1) er2 ?_
                      rw [ev2] at hP hD
                      have hP : va_P D vwCl [((g 0), .inr (5, [.int th, .ref (g 1), .int (nI sv), .ref (g 2), .ref (g 3), .int (nI ln), .int (nI u_65.1), .int (nI (1 + 4 * v1 + 2 * 1 + 1)), .int (nI v2), .long hs])), ((g 3), .inl (y 0, 60, .inl (zX tx)))] H := hP
                      have hD : va_D A [((g 0), .inr (5, [.int th, .ref (g 1), .int (nI sv), .ref (g 2), .ref (g 3), .int (nI ln), .int (nI u_65.1), .int (nI (1 + 4 * v1 + 2 * 1 + 1)), .int (nI v2), .long hs])), ((g 3), .inl (y 0, 60, .inl (zX tx)))] := hD
                      refine lv_istore (lv' := [(5, .int 1), (4, .int (if sg tx ln (u_2.1 + 1 + 1 + 1) = 45 then (1 : Int32) else 0)), (3, .int 1), (2, .int 1), (1, .int (nI v1)), (0, .ref (g 0))]) hx hb dX5_readsReading_149 hl (by decide) rfl (fun ls hl => ?_)
                      refine lv_aload_n hx hb dX5_readsReading_151 rfl (lv_at hl 5 rfl) ?_
                      refine lv_iload hx hb dX5_readsReading_152 (lv_at hl 1 rfl) ?_
                      refine lv_if_eq (tgt := 165) hx hb dX5_readsReading_154 (by decide) (fun c_154 => absurd c_154 (zb1.mpr c_135)) (fun _ => ?_)
                      refine lv_aload_n hx hb dX5_readsReading_157 rfl (lv_at hl 5 rfl) ?_
                      refine va_get (D := D) (ci := 5) (v := .int (nI v2)) (C := RX5) (T := TX5) (N := 10) hx hb htg iX5 hown hK hP 0 rfl rfl 8 (by decide) (htg _ tw_458) (fun _ h9 => h9) rfl dX5_readsReading_158 ?_
                      refine lv_ineg hx hb dX5_readsReading_161 ?_
                      refine lv_goto (tgt := 169) hx hb dX5_readsReading_162 (by decide) ?_
                      refine va_put (D := D) (ci := 5) (v := .int (-(nI v2))) (ty := .int) (C := RX5) (T := TX5) (N := 10) hx hb htg iX5 tyX5 tyX5_ok nmX5 hown hK hP hD hS 0 rfl rfl 8 (by decide) (htg _ tw_458) (fun _ h9 => h9) rfl (tyX5_ok 8 (by decide)) (rfl) (rfl) (Nat.le_of_ble_eq_true rfl) dX5_readsReading_169 (fun H locs hP hD hS => ?_)
                      have hP : va_P D vwCl [((g 0), .inr (5, [.int th, .ref (g 1), .int (nI sv), .ref (g 2), .ref (g 3), .int (nI ln), .int (nI u_65.1), .int (nI (1 + 4 * v1 + 2 * 1 + 1)), .int (-(nI v2)), .long hs])), ((g 3), .inl (y 0, 60, .inl (zX tx)))] H := hP
                      have hD : va_D A [((g 0), .inr (5, [.int th, .ref (g 1), .int (nI sv), .ref (g 2), .ref (g 3), .int (nI ln), .int (nI u_65.1), .int (nI (1 + 4 * v1 + 2 * 1 + 1)), .int (-(nI v2)), .long hs])), ((g 3), .inl (y 0, 60, .inl (zX tx)))] := hD
                      refine lv_iload hx hb dX5_readsReading_172 (lv_at hl 0 rfl) ?_
                      refine W.widen (k := 0) (n := 0) (by first | exact Nat.le_of_ble_eq_true rfl | omega) (by first | exact Nat.le_of_ble_eq_true rfl | omega) ?_
                      exact W.zret (v := 1) hx hb hr (rfl) (fun t ht hW => ⟨⟨1, (u_65.1, 1 + 4 * v1 + 2 * 1 + 1, -(nI v2)), rfl, Or.inr ⟨rfl, show zGot tx ln at9 (u_65.1) (1 + 4 * v1 + 2 * 1 + 1) (-(nI v2)) from zQ_6 hP2 (by omega) hno2 ((if_neg (by decide)).symm) (by omega)⟩, ⟨by rw [ht]; exact hP, hD⟩⟩, hS.F ht⟩) hS.2.2 dX5_readsReading_174
                · replace c_119 := zb0.mp c_119
                  rw [if_neg c_119, Nat.add_zero] at hP hD
                  have hP : va_P D vwCl [((g 0), .inr (5, [.int th, .ref (g 1), .int (nI sv), .ref (g 2), .ref (g 3), .int (nI ln), .int (nI (u_2.1 + 1 + 1)), .int (nI (1 + 4 * v1 + 2 * 1 + 1)), .int (nI v1), .long hs])), ((g 3), .inl (y 0, 60, .inl (zX tx)))] H := hP
                  have hD : va_D A [((g 0), .inr (5, [.int th, .ref (g 1), .int (nI sv), .ref (g 2), .ref (g 3), .int (nI ln), .int (nI (u_2.1 + 1 + 1)), .int (nI (1 + 4 * v1 + 2 * 1 + 1)), .int (nI v1), .long hs])), ((g 3), .inl (y 0, 60, .inl (zX tx)))] := hD
                  refine lv_iconst (v := 0) hx hb dX5_readsReading_122 (by decide) ?_
                  refine W.widen (k := 0) (n := 0) (by first | exact Nat.le_of_ble_eq_true rfl | omega) (by first | exact Nat.le_of_ble_eq_true rfl | omega) ?_
                  exact W.zret (v := 0) hx hb hr (rfl) (fun t ht hW => ⟨⟨0, (u_2.1 + 1 + 1, 1 + 4 * v1 + 2 * 1 + 1, nI v1), rfl, Or.inl ⟨rfl, show zBad tx ln (u_2.1 + 1 + 1) from zQ_f3 hQ3 c_119⟩, ⟨by rw [ht]; exact hP, hD⟩⟩, hS.F ht⟩) hS.2.2 dX5_readsReading_123
              · replace c_82 := zb0.mp c_82
                rw [if_neg c_82, Nat.add_zero] at hP hD
                have hP : va_P D vwCl [((g 0), .inr (5, [.int th, .ref (g 1), .int (nI sv), .ref (g 2), .ref (g 3), .int (nI ln), .int (nI (u_2.1 + 1)), .int (nI pl), .int (nI v1), .long hs])), ((g 3), .inl (y 0, 60, .inl (zX tx)))] H := hP
                have hD : va_D A [((g 0), .inr (5, [.int th, .ref (g 1), .int (nI sv), .ref (g 2), .ref (g 3), .int (nI ln), .int (nI (u_2.1 + 1)), .int (nI pl), .int (nI v1), .long hs])), ((g 3), .inl (y 0, 60, .inl (zX tx)))] := hD
                refine lv_iconst (v := 0) hx hb dX5_readsReading_85 (by decide) ?_
                refine W.widen (k := 0) (n := 0) (by first | exact Nat.le_of_ble_eq_true rfl | omega) (by first | exact Nat.le_of_ble_eq_true rfl | omega) ?_
                exact W.zret (v := 0) hx hb hr (rfl) (fun t ht hW => ⟨⟨0, (u_2.1 + 1, pl, nI v1), rfl, Or.inl ⟨rfl, show zBad tx ln (u_2.1 + 1) from zQ_f2 hQ2 c_73 c_82⟩, ⟨by rw [ht]; exact hP, hD⟩⟩, hS.F ht⟩) hS.2.2 dX5_readsReading_86
        · replace c_47 := zb0.mp c_47
          rw [if_neg c_47, Nat.add_zero] at hP hD
          have hP : va_P D vwCl [((g 0), .inr (5, [.int th, .ref (g 1), .int (nI sv), .ref (g 2), .ref (g 3), .int (nI ln), .int (nI u_2.1), .int (nI pl), .int (nI v1), .long hs])), ((g 3), .inl (y 0, 60, .inl (zX tx)))] H := hP
          have hD : va_D A [((g 0), .inr (5, [.int th, .ref (g 1), .int (nI sv), .ref (g 2), .ref (g 3), .int (nI ln), .int (nI u_2.1), .int (nI pl), .int (nI v1), .long hs])), ((g 3), .inl (y 0, 60, .inl (zX tx)))] := hD
          refine lv_iconst (v := 0) hx hb dX5_readsReading_50 (by decide) ?_
          refine W.widen (k := 0) (n := 0) (by first | exact Nat.le_of_ble_eq_true rfl | omega) (by first | exact Nat.le_of_ble_eq_true rfl | omega) ?_
          exact W.zret (v := 0) hx hb hr (rfl) (fun t ht hW => ⟨⟨0, (u_2.1, pl, nI v1), rfl, Or.inl ⟨rfl, show zBad tx ln (u_2.1) from zQ_f1 hP1 c_38 c_47 hno1⟩, ⟨by rw [ht]; exact hP, hD⟩⟩, hS.F ht⟩) hS.2.2 dX5_readsReading_51
