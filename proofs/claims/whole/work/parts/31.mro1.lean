set_option maxHeartbeats 4000000 in
set_option maxRecDepth 100000 in
theorem mX5_in (l : Launch) (v : Int32) (lo : Int32) (hi : Int32) : Met l yX5_in (ws_ yX5_in cX5_in 3 (some .boolean)) ({ frames := 0, cells := 0, slots := 0, locals := 0 }) (va_Pc [.int v, .int lo, .int hi] (fun _ => True)) (va_Qi (fun (r : Int32) (_ : Unit) => r = (if ¬ v < lo ∧ ¬ hi < v then 1 else 0)) (fun _ _ => True) (fun _ => False)) 0 0 (fun _ => False) := by
  refine Met.ofW (cc := cX5_in) (maxL := 3) (ret := (some .boolean)) (by decide) rfl ?_
  intro p e s m args below meth c s₁ B hml hpre9
  obtain ⟨rfl, -⟩ := hpre9
  have hx := B.exec
  have hb := B.bytes
  have hr := B.returns
  have hts := atoms_spec (ws := (ws_ yX5_in cX5_in 3 (some .boolean))) B.pre
  have htg : ∀ w ∈ gT, w.before _ s = true := fun w h => hts w (List.mem_cons_of_mem _ h)
  have hown : s.vm.findClass RX5 = some m.cls := findClass_of_methodNamed B.named
  have hlocks := B.notSynchronized
  have hS : va_S (fun _ => False) s.heap s.heap [] := va_S.rf
  have hl := lv_entry ([.int v, .int lo, .int hi]) (n := 3) (Nat.le_of_ble_eq_true rfl)
  rw [lg_entry_eq]
  generalize (lg_sl ([.int v, .int lo, .int hi]) ++ List.replicate (3 - (lg_sl ([.int v, .int lo, .int hi])).length) Slot.unset).toArray = ls at hl ⊢
  have hl : lv_has ls 3 [(0, .int v), (1, .int lo), (2, .int hi)] := hl
  refine lv_iload_n hx hb dX5_in_0 rfl (lv_at hl 0 rfl) ?_
  refine lv_iload_n hx hb dX5_in_1 rfl (lv_at hl 1 rfl) ?_
  refine lv_icmp_lt (tgt := 14) hx hb dX5_in_2 (by decide) (fun c_2 => ?_) (fun c_2 => ?_)
  · refine lv_iconst (v := 0) hx hb dX5_in_14 (by decide) ?_
    exact W.zret (v := 0) hx hb hr (by first | rfl | (split <;> rfl)) (fun t ht hW => ⟨⟨0, (), rfl, by simp_all, trivial⟩, hS.F ht⟩) hS.2.2 dX5_in_15
  · refine lv_iload_n hx hb dX5_in_5 rfl (lv_at hl 0 rfl) ?_
    refine lv_iload_n hx hb dX5_in_6 rfl (lv_at hl 2 rfl) ?_
    refine lv_icmp_gt (tgt := 14) hx hb dX5_in_7 (by decide) (fun c_7 => ?_) (fun c_7 => ?_)
    · refine lv_iconst (v := 0) hx hb dX5_in_14 (by decide) ?_
      exact W.zret (v := 0) hx hb hr (by first | rfl | (split <;> rfl)) (fun t ht hW => ⟨⟨0, (), rfl, by simp_all, trivial⟩, hS.F ht⟩) hS.2.2 dX5_in_15
    · refine lv_iconst (v := 1) hx hb dX5_in_10 (by decide) ?_
      refine lv_goto (tgt := 15) hx hb dX5_in_11 (by decide) ?_
      exact W.zret (v := 1) hx hb hr (by first | rfl | (split <;> rfl)) (fun t ht hW => ⟨⟨1, (), rfl, by simp_all, trivial⟩, hS.F ht⟩) hS.2.2 dX5_in_15

set_option maxHeartbeats 4000000 in
set_option maxRecDepth 100000 in
theorem mX5_isLevel (l : Launch) (v : Int32) : Met l yX5_isLevel (ws_ yX5_isLevel cX5_isLevel 1 (some .boolean)) ({ frames := 1, cells := 0, slots := 0, locals := 22 }) (va_Pc [.int v] (fun _ => True)) (va_Qi (fun (r : Int32) (_ : Unit) => r = (if ¬ v < 0 ∧ ¬ 15 < v then 1 else 0)) (fun _ _ => True) (fun _ => False)) 0 0 (fun _ => False) := by
  refine Met.ofW (cc := cX5_isLevel) (maxL := 1) (ret := (some .boolean)) (by decide) rfl ?_
  intro p e s m args below meth c s₁ B hml hpre9
  obtain ⟨rfl, -⟩ := hpre9
  have hx := B.exec
  have hb := B.bytes
  have hr := B.returns
  have hts := atoms_spec (ws := (ws_ yX5_isLevel cX5_isLevel 1 (some .boolean))) B.pre
  have htg : ∀ w ∈ gT, w.before _ s = true := fun w h => hts w (List.mem_cons_of_mem _ h)
  have hown : s.vm.findClass RX5 = some m.cls := findClass_of_methodNamed B.named
  have hlocks := B.notSynchronized
  have hS : va_S (fun _ => False) s.heap s.heap [] := va_S.rf
  have hl := lv_entry ([.int v]) (n := 1) (Nat.le_of_ble_eq_true rfl)
  rw [lg_entry_eq]
  generalize (lg_sl ([.int v]) ++ List.replicate (1 - (lg_sl ([.int v])).length) Slot.unset).toArray = ls at hl ⊢
  have hl : lv_has ls 1 [(0, .int v)] := hl
  refine lv_iload_n hx hb dX5_isLevel_0 rfl (lv_at hl 0 rfl) ?_
  refine lv_iconst (v := 0) hx hb dX5_isLevel_1 (by decide) ?_
  refine lv_bipush (v := 15) hx hb dX5_isLevel_2 (by decide) ?_
  refine zr_calli (va_runS (As := [.int v, .int 0, .int 15]) (rest := []) ⟨hx, hb, hml, hown, hts⟩ (mX5_in l v 0 15) (va_cwS 3 hts (zgS tw_367 tw_368 tw_369 tw_364) rfl rfl rfl (by decide +kernel) ⟨Nat.le_of_ble_eq_true rfl, Nat.le_of_ble_eq_true rfl⟩) zP_pre rfl rfl hl.1 rfl (lv_room (Nat.le_of_ble_eq_true rfl)) dX5_isLevel_4 ⟨Nat.zero_le _, Nat.zero_le _⟩) hS (fun r_1 H locs hw_4 hT hS => ?_)
  obtain rfl : r_1 = (if ¬ v < 0 ∧ ¬ 15 < v then (1 : Int32) else 0) := hw_4
  exact W.zret (v := (if ¬ v < 0 ∧ ¬ 15 < v then (1 : Int32) else 0)) hx hb hr (by split <;> rfl) (fun t ht hW => ⟨⟨(if ¬ v < 0 ∧ ¬ 15 < v then (1 : Int32) else 0), (), rfl, by first | rfl | trivial | simp_all, trivial⟩, hS.F ht⟩) hS.2.2 dX5_isLevel_7

set_option maxHeartbeats 4000000 in
set_option maxRecDepth 100000 in
theorem mX5_isSide (l : Launch) (v : Int32) : Met l yX5_isSide (ws_ yX5_isSide cX5_isSide 1 (some .boolean)) ({ frames := 1, cells := 0, slots := 0, locals := 22 }) (va_Pc [.int v] (fun _ => True)) (va_Qi (fun (r : Int32) (_ : Unit) => r = (if ¬ v < 0 ∧ ¬ 1 < v then 1 else 0)) (fun _ _ => True) (fun _ => False)) 0 0 (fun _ => False) := by
  refine Met.ofW (cc := cX5_isSide) (maxL := 1) (ret := (some .boolean)) (by decide) rfl ?_
  intro p e s m args below meth c s₁ B hml hpre9
  obtain ⟨rfl, -⟩ := hpre9
  have hx := B.exec
  have hb := B.bytes
  have hr := B.returns
  have hts := atoms_spec (ws := (ws_ yX5_isSide cX5_isSide 1 (some .boolean))) B.pre
  have htg : ∀ w ∈ gT, w.before _ s = true := fun w h => hts w (List.mem_cons_of_mem _ h)
  have hown : s.vm.findClass RX5 = some m.cls := findClass_of_methodNamed B.named
  have hlocks := B.notSynchronized
  have hS : va_S (fun _ => False) s.heap s.heap [] := va_S.rf
  have hl := lv_entry ([.int v]) (n := 1) (Nat.le_of_ble_eq_true rfl)
  rw [lg_entry_eq]
  generalize (lg_sl ([.int v]) ++ List.replicate (1 - (lg_sl ([.int v])).length) Slot.unset).toArray = ls at hl ⊢
  have hl : lv_has ls 1 [(0, .int v)] := hl
  refine lv_iload_n hx hb dX5_isSide_0 rfl (lv_at hl 0 rfl) ?_
  refine lv_iconst (v := 0) hx hb dX5_isSide_1 (by decide) ?_
  refine lv_iconst (v := 1) hx hb dX5_isSide_2 (by decide) ?_
  refine zr_calli (va_runS (As := [.int v, .int 0, .int 1]) (rest := []) ⟨hx, hb, hml, hown, hts⟩ (mX5_in l v 0 1) (va_cwS 3 hts (zgS tw_367 tw_368 tw_369 tw_364) rfl rfl rfl (by decide +kernel) ⟨Nat.le_of_ble_eq_true rfl, Nat.le_of_ble_eq_true rfl⟩) zP_pre rfl rfl hl.1 rfl (lv_room (Nat.le_of_ble_eq_true rfl)) dX5_isSide_3 ⟨Nat.zero_le _, Nat.zero_le _⟩) hS (fun r_1 H locs hw_3 hT hS => ?_)
  obtain rfl : r_1 = (if ¬ v < 0 ∧ ¬ 1 < v then (1 : Int32) else 0) := hw_3
  exact W.zret (v := (if ¬ v < 0 ∧ ¬ 1 < v then (1 : Int32) else 0)) hx hb hr (by first | rfl | (split <;> rfl)) (fun t ht hW => ⟨⟨(if ¬ v < 0 ∧ ¬ 1 < v then (1 : Int32) else 0), (), rfl, by first | rfl | trivial | simp_all, trivial⟩, hS.F ht⟩) hS.2.2 dX5_isSide_6

set_option maxHeartbeats 4000000 in
set_option maxRecDepth 100000 in
theorem mX5_size (l : Launch) (x : Int32) : Met l yX5_size (ws_ yX5_size cX5_size 1 (some .int)) ({ frames := 0, cells := 0, slots := 0, locals := 0 }) (va_Pc [.int x] (fun _ => True)) (va_Qi (fun (r : Int32) (_ : Unit) => r = qAbs x) (fun _ _ => True) (fun _ => False)) 0 0 (fun _ => False) := by
  refine Met.ofW (cc := cX5_size) (maxL := 1) (ret := (some .int)) (by decide) rfl ?_
  intro p e s m args below meth c s₁ B hml hpre9
  obtain ⟨rfl, -⟩ := hpre9
  have hx := B.exec
  have hb := B.bytes
  have hr := B.returns
  have hts := atoms_spec (ws := (ws_ yX5_size cX5_size 1 (some .int))) B.pre
  have htg : ∀ w ∈ gT, w.before _ s = true := fun w h => hts w (List.mem_cons_of_mem _ h)
  have hown : s.vm.findClass RX5 = some m.cls := findClass_of_methodNamed B.named
  have hlocks := B.notSynchronized
  have hS : va_S (fun _ => False) s.heap s.heap [] := va_S.rf
  have hl := lv_entry ([.int x]) (n := 1) (Nat.le_of_ble_eq_true rfl)
  rw [lg_entry_eq]
  generalize (lg_sl ([.int x]) ++ List.replicate (1 - (lg_sl ([.int x])).length) Slot.unset).toArray = ls at hl ⊢
  have hl : lv_has ls 1 [(0, .int x)] := hl
  refine lv_iload_n hx hb dX5_size_0 rfl (lv_at hl 0 rfl) ?_
  refine lv_if_ge (tgt := 9) hx hb dX5_size_1 (by decide) (fun c_1 => ?_) (fun c_1 => ?_)
  · refine lv_iload_n hx hb dX5_size_9 rfl (lv_at hl 0 rfl) ?_
    exact W.iret (v := x) hx hb hr (fun t ht hW => ⟨⟨x, (), rfl, (if_pos c_1).symm, trivial⟩, hS.F ht⟩) hS.2.2 dX5_size_10
  · refine lv_iload_n hx hb dX5_size_4 rfl (lv_at hl 0 rfl) ?_
    refine lv_ineg hx hb dX5_size_5 ?_
    refine lv_goto (tgt := 10) hx hb dX5_size_6 (by decide) ?_
    exact W.iret (v := (-x)) hx hb hr (fun t ht hW => ⟨⟨-x, (), rfl, (zneg _).trans (if_neg c_1).symm, trivial⟩, hS.F ht⟩) hS.2.2 dX5_size_10

set_option maxHeartbeats 4000000 in
set_option maxRecDepth 100000 in
theorem mX5_placeOf (l : Launch) (v : Nat) (o : Nat) (f : Nat) : Met l yX5_placeOf (ws_ yX5_placeOf cX5_placeOf 3 (some .int)) ({ frames := 0, cells := 0, slots := 0, locals := 0 }) (va_Pc [.int (nI v), .int (nI o), .int (nI f)] (fun _ => True)) (va_Qi (fun (r : Int32) (_ : Unit) => r = nI (1 + 4 * v + 2 * o + f)) (fun _ _ => True) (fun _ => False)) 0 0 (fun _ => False) := by
  refine Met.ofW (cc := cX5_placeOf) (maxL := 3) (ret := (some .int)) (by decide) rfl ?_
  intro p e s m args below meth c s₁ B hml hpre9
  obtain ⟨rfl, -⟩ := hpre9
  have hx := B.exec
  have hb := B.bytes
  have hr := B.returns
  have hts := atoms_spec (ws := (ws_ yX5_placeOf cX5_placeOf 3 (some .int))) B.pre
  have htg : ∀ w ∈ gT, w.before _ s = true := fun w h => hts w (List.mem_cons_of_mem _ h)
  have hown : s.vm.findClass RX5 = some m.cls := findClass_of_methodNamed B.named
  have hlocks := B.notSynchronized
  have hS : va_S (fun _ => False) s.heap s.heap [] := va_S.rf
  have hl := lv_entry ([.int (nI v), .int (nI o), .int (nI f)]) (n := 3) (Nat.le_of_ble_eq_true rfl)
  rw [lg_entry_eq]
  generalize (lg_sl ([.int (nI v), .int (nI o), .int (nI f)]) ++ List.replicate (3 - (lg_sl ([.int (nI v), .int (nI o), .int (nI f)])).length) Slot.unset).toArray = ls at hl ⊢
  have hl : lv_has ls 3 [(0, .int (nI v)), (1, .int (nI o)), (2, .int (nI f))] := hl
  refine lv_iconst (v := 1) hx hb dX5_placeOf_0 (by decide) ?_
  refine lv_iconst (v := 4) hx hb dX5_placeOf_1 (by decide) ?_
  refine lv_iload_n hx hb dX5_placeOf_2 rfl (lv_at hl 0 rfl) ?_
  refine lv_imul hx hb dX5_placeOf_3 ?_
  refine zz_top (y := nI (4 * v)) (pk_mul 4 v) ?_
  refine lv_iadd hx hb dX5_placeOf_4 ?_
  refine zz_top (y := nI (1 + (4 * v))) (nI_add 1 (4 * v)) ?_
  refine lv_iconst (v := 2) hx hb dX5_placeOf_5 (by decide) ?_
  refine lv_iload_n hx hb dX5_placeOf_6 rfl (lv_at hl 1 rfl) ?_
  refine lv_imul hx hb dX5_placeOf_7 ?_
  refine zz_top (y := nI (2 * o)) (pk_mul 2 o) ?_
  refine lv_iadd hx hb dX5_placeOf_8 ?_
  refine zz_top (y := nI ((1 + (4 * v)) + (2 * o))) (nI_add (1 + (4 * v)) (2 * o)) ?_
  refine lv_iload_n hx hb dX5_placeOf_9 rfl (lv_at hl 2 rfl) ?_
  refine lv_iadd hx hb dX5_placeOf_10 ?_
  refine zz_top (y := nI (((1 + (4 * v)) + (2 * o)) + f)) (nI_add ((1 + (4 * v)) + (2 * o)) f) ?_
  exact W.iret (v := (nI (((1 + (4 * v)) + (2 * o)) + f))) hx hb hr (fun t ht hW => ⟨⟨nI (((1 + (4 * v)) + (2 * o)) + f), (), rfl, by first | rfl | trivial | simp_all, trivial⟩, hS.F ht⟩) hS.2.2 dX5_placeOf_11

set_option maxHeartbeats 4000000 in
set_option maxRecDepth 100000 in
theorem mX5_isSurvey (l : Launch) (D : va_G) (y : Nat → ClassId) (g : Nat → Nat) (S : (Nat → Int32)) (th : Int32) (sv : Nat) (ln : Nat) (at9 : Nat) (pl : Nat) (va : Int32) (hs : Int64) (x : Int32) : Met l yX5_isSurvey (ws_ yX5_isSurvey cX5_isSurvey 2 (some .boolean)) ({ frames := 1, cells := 0, slots := 0, locals := 22 }) (va_Pc [.ref (g 0), .int x] (zRO D y [((g 0), .inr (5, [.int th, .ref (g 1), .int (nI sv), .ref (g 2), .ref (g 3), .int (nI ln), .int (nI at9), .int (nI pl), .int va, .long hs])), ((g 1), .inl (y 0, 4023, .inl S))])) (va_Qi (fun (r : Int32) (_ : Unit) => r = (if ¬ x < 0 ∧ ¬ (S 1 - 1) < x then 1 else 0)) (fun _ _ => True) (fun _ => False)) 0 0 (fun _ => False) := by
  refine Met.ofW (cc := cX5_isSurvey) (maxL := 2) (ret := (some .boolean)) (by decide) rfl ?_
  intro p e s m args below meth c s₁ B hml hpre9
  obtain ⟨rfl, hP, hKN⟩ := hpre9
  have hK := hKN.1
  have hx := B.exec
  have hb := B.bytes
  have hr := B.returns
  have hts := atoms_spec (ws := (ws_ yX5_isSurvey cX5_isSurvey 2 (some .boolean))) B.pre
  have htg : ∀ w ∈ gT, w.before _ s = true := fun w h => hts w (List.mem_cons_of_mem _ h)
  have hown : s.vm.findClass RX5 = some m.cls := findClass_of_methodNamed B.named
  have hlocks := B.notSynchronized
  have hS : va_S (fun _ => False) s.heap s.heap [] := va_S.rf
  have hP : va_P D vwCl [((g 0), .inr (5, [.int th, .ref (g 1), .int (nI sv), .ref (g 2), .ref (g 3), .int (nI ln), .int (nI at9), .int (nI pl), .int va, .long hs])), ((g 1), .inl (y 0, 4023, .inl S))] s.heap := hP
  have hl := lv_entry ([.ref (g 0), .int x]) (n := 2) (Nat.le_of_ble_eq_true rfl)
  rw [lg_entry_eq]
  generalize (lg_sl ([.ref (g 0), .int x]) ++ List.replicate (2 - (lg_sl ([.ref (g 0), .int x])).length) Slot.unset).toArray = ls at hl ⊢
  have hl : lv_has ls 2 [(0, .ref (g 0)), (1, .int x)] := hl
  refine lv_iload_n hx hb dX5_isSurvey_0 rfl (lv_at hl 1 rfl) ?_
  refine lv_iconst (v := 0) hx hb dX5_isSurvey_1 (by decide) ?_
  refine lv_aload_n hx hb dX5_isSurvey_2 rfl (lv_at hl 0 rfl) ?_
  refine va_get (D := D) (ci := 5) (v := .ref (g 1)) (C := RX5) (T := TX5) (N := 10) hx hb htg iX5 hown hK hP 0 rfl rfl 1 (by decide) (htg _ tw_359) (fun _ h9 => h9) rfl dX5_isSurvey_3 ?_
  refine lv_iconst (v := 1) hx hb dX5_isSurvey_6 (by decide) ?_
  refine va_iald hx hb hK hP 1 0 rfl rfl (vp_in_nI (n := 1) (by decide) (by decide)) dX5_isSurvey_7 ?_
  refine zz_top (y := S 1) (congrArg S (by decide)) ?_
  refine lv_iconst (v := 1) hx hb dX5_isSurvey_8 (by decide) ?_
  refine lv_isub hx hb dX5_isSurvey_9 ?_
  refine zr_calli (va_runS (As := [.int x, .int 0, .int ((S 1) - 1)]) (rest := []) ⟨hx, hb, hml, hown, hts⟩ (mX5_in l x 0 ((S 1) - 1)) (va_cwS 3 hts (zgS tw_367 tw_368 tw_369 tw_364) rfl rfl rfl (by decide +kernel) ⟨Nat.le_of_ble_eq_true rfl, Nat.le_of_ble_eq_true rfl⟩) zP_pre rfl rfl hl.1 rfl (lv_room (Nat.le_of_ble_eq_true rfl)) dX5_isSurvey_10 ⟨Nat.zero_le _, Nat.zero_le _⟩) hS (fun r_1 H locs hw_10 hT hS => ?_)
  replace hP := hT _ _ hP
  obtain rfl : r_1 = (if ¬ x < 0 ∧ ¬ ((S 1) - 1) < x then (1 : Int32) else 0) := hw_10
  exact W.zret (v := (if ¬ x < 0 ∧ ¬ ((S 1) - 1) < x then (1 : Int32) else 0)) hx hb hr (by split <;> rfl) (fun t ht hW => ⟨⟨(if ¬ x < 0 ∧ ¬ ((S 1) - 1) < x then (1 : Int32) else 0), (), rfl, by first | rfl | trivial | simp_all, trivial⟩, hS.F ht⟩) hS.2.2 dX5_isSurvey_13

set_option maxHeartbeats 4000000 in
set_option maxRecDepth 100000 in
theorem mX5_tilt (l : Launch) (D : va_G) (y : Nat → ClassId) (g : Nat → Nat) (S : (Nat → Int32)) (th : Int32) (sv : Nat) (ln : Nat) (at9 : Nat) (pl : Nat) (va : Int32) (hs : Int64) (v : Nat) (o : Nat) (hl9 : v < 16) (hq : o < 2) : Met l yX5_tilt (ws_ yX5_tilt cX5_tilt 3 (some .int)) ({ frames := 0, cells := 0, slots := 0, locals := 0 }) (va_Pc [.ref (g 0), .int (nI v), .int (nI o)] (zRO D y [((g 0), .inr (5, [.int th, .ref (g 1), .int (nI sv), .ref (g 2), .ref (g 3), .int (nI ln), .int (nI at9), .int (nI pl), .int va, .long hs])), ((g 1), .inl (y 0, 4023, .inl S))])) (va_Qi (fun (r : Int32) (_ : Unit) => r = S (9 + 3 * v + o)) (fun _ _ => True) (fun _ => False)) 0 0 (fun _ => False) := by
  refine Met.ofW (cc := cX5_tilt) (maxL := 3) (ret := (some .int)) (by decide) rfl ?_
  intro p e s m args below meth c s₁ B hml hpre9
  obtain ⟨rfl, hP, hKN⟩ := hpre9
  have hK := hKN.1
  have hx := B.exec
  have hb := B.bytes
  have hr := B.returns
  have hts := atoms_spec (ws := (ws_ yX5_tilt cX5_tilt 3 (some .int))) B.pre
  have htg : ∀ w ∈ gT, w.before _ s = true := fun w h => hts w (List.mem_cons_of_mem _ h)
  have hown : s.vm.findClass RX5 = some m.cls := findClass_of_methodNamed B.named
  have hlocks := B.notSynchronized
  have hS : va_S (fun _ => False) s.heap s.heap [] := va_S.rf
  have hP : va_P D vwCl [((g 0), .inr (5, [.int th, .ref (g 1), .int (nI sv), .ref (g 2), .ref (g 3), .int (nI ln), .int (nI at9), .int (nI pl), .int va, .long hs])), ((g 1), .inl (y 0, 4023, .inl S))] s.heap := hP
  have hl := lv_entry ([.ref (g 0), .int (nI v), .int (nI o)]) (n := 3) (Nat.le_of_ble_eq_true rfl)
  rw [lg_entry_eq]
  generalize (lg_sl ([.ref (g 0), .int (nI v), .int (nI o)]) ++ List.replicate (3 - (lg_sl ([.ref (g 0), .int (nI v), .int (nI o)])).length) Slot.unset).toArray = ls at hl ⊢
  have hl : lv_has ls 3 [(0, .ref (g 0)), (1, .int (nI v)), (2, .int (nI o))] := hl
  refine lv_aload_n hx hb dX5_tilt_0 rfl (lv_at hl 0 rfl) ?_
  refine va_get (D := D) (ci := 5) (v := .ref (g 1)) (C := RX5) (T := TX5) (N := 10) hx hb htg iX5 hown hK hP 0 rfl rfl 1 (by decide) (htg _ tw_359) (fun _ h9 => h9) rfl dX5_tilt_1 ?_
  refine lv_bipush (v := 9) hx hb dX5_tilt_4 (by decide) ?_
  refine lv_iconst (v := 3) hx hb dX5_tilt_6 (by decide) ?_
  refine lv_iload_n hx hb dX5_tilt_7 rfl (lv_at hl 1 rfl) ?_
  refine lv_imul hx hb dX5_tilt_8 ?_
  refine zz_top (y := nI (3 * v)) (pk_mul 3 v) ?_
  refine lv_iadd hx hb dX5_tilt_9 ?_
  refine zz_top (y := nI (9 + (3 * v))) (nI_add 9 (3 * v)) ?_
  refine lv_iload_n hx hb dX5_tilt_10 rfl (lv_at hl 2 rfl) ?_
  refine lv_iadd hx hb dX5_tilt_11 ?_
  refine zz_top (y := nI ((9 + (3 * v)) + o)) (nI_add (9 + (3 * v)) o) ?_
  refine va_iald hx hb hK hP 1 0 rfl rfl (vp_in_nI (by omega) (by decide)) dX5_tilt_12 ?_
  refine zz_top (y := S ((9 + (3 * v)) + o)) (congrArg S (nI_clamp (by omega))) ?_
  exact W.iret (v := (S ((9 + (3 * v)) + o))) hx hb hr (fun t ht hW => ⟨⟨S ((9 + (3 * v)) + o), (), rfl, by first | rfl | trivial | simp_all, trivial⟩, hS.F ht⟩) hS.2.2 dX5_tilt_13

set_option maxHeartbeats 4000000 in
set_option maxRecDepth 100000 in
theorem mX5_turnOf (l : Launch) (D : va_G) (y : Nat → ClassId) (g : Nat → Nat) (S : (Nat → Int32)) (th : Int32) (sv : Nat) (ln : Nat) (at9 : Nat) (pl : Nat) (va : Int32) (hs : Int64) (v : Nat) (hl9 : v < 16) : Met l yX5_turnOf (ws_ yX5_turnOf cX5_turnOf 2 (some .int)) ({ frames := 0, cells := 0, slots := 0, locals := 0 }) (va_Pc [.ref (g 0), .int (nI v)] (zRO D y [((g 0), .inr (5, [.int th, .ref (g 1), .int (nI sv), .ref (g 2), .ref (g 3), .int (nI ln), .int (nI at9), .int (nI pl), .int va, .long hs])), ((g 1), .inl (y 0, 4023, .inl S))])) (va_Qi (fun (r : Int32) (_ : Unit) => r = S (11 + 3 * v)) (fun _ _ => True) (fun _ => False)) 0 0 (fun _ => False) := by
  refine Met.ofW (cc := cX5_turnOf) (maxL := 2) (ret := (some .int)) (by decide) rfl ?_
  intro p e s m args below meth c s₁ B hml hpre9
  obtain ⟨rfl, hP, hKN⟩ := hpre9
  have hK := hKN.1
  have hx := B.exec
  have hb := B.bytes
  have hr := B.returns
  have hts := atoms_spec (ws := (ws_ yX5_turnOf cX5_turnOf 2 (some .int))) B.pre
  have htg : ∀ w ∈ gT, w.before _ s = true := fun w h => hts w (List.mem_cons_of_mem _ h)
  have hown : s.vm.findClass RX5 = some m.cls := findClass_of_methodNamed B.named
  have hlocks := B.notSynchronized
  have hS : va_S (fun _ => False) s.heap s.heap [] := va_S.rf
  have hP : va_P D vwCl [((g 0), .inr (5, [.int th, .ref (g 1), .int (nI sv), .ref (g 2), .ref (g 3), .int (nI ln), .int (nI at9), .int (nI pl), .int va, .long hs])), ((g 1), .inl (y 0, 4023, .inl S))] s.heap := hP
  have hl := lv_entry ([.ref (g 0), .int (nI v)]) (n := 2) (Nat.le_of_ble_eq_true rfl)
  rw [lg_entry_eq]
  generalize (lg_sl ([.ref (g 0), .int (nI v)]) ++ List.replicate (2 - (lg_sl ([.ref (g 0), .int (nI v)])).length) Slot.unset).toArray = ls at hl ⊢
  have hl : lv_has ls 2 [(0, .ref (g 0)), (1, .int (nI v))] := hl
  refine lv_aload_n hx hb dX5_turnOf_0 rfl (lv_at hl 0 rfl) ?_
  refine va_get (D := D) (ci := 5) (v := .ref (g 1)) (C := RX5) (T := TX5) (N := 10) hx hb htg iX5 hown hK hP 0 rfl rfl 1 (by decide) (htg _ tw_359) (fun _ h9 => h9) rfl dX5_turnOf_1 ?_
  refine lv_bipush (v := 9) hx hb dX5_turnOf_4 (by decide) ?_
  refine lv_iconst (v := 3) hx hb dX5_turnOf_6 (by decide) ?_
  refine lv_iload_n hx hb dX5_turnOf_7 rfl (lv_at hl 1 rfl) ?_
  refine lv_imul hx hb dX5_turnOf_8 ?_
  refine zz_top (y := nI (3 * v)) (pk_mul 3 v) ?_
  refine lv_iadd hx hb dX5_turnOf_9 ?_
  refine zz_top (y := nI (9 + (3 * v))) (nI_add 9 (3 * v)) ?_
  refine lv_iconst (v := 2) hx hb dX5_turnOf_10 (by decide) ?_
  refine lv_iadd hx hb dX5_turnOf_11 ?_
  refine zz_top (y := nI ((9 + (3 * v)) + 2)) (nI_add (9 + (3 * v)) 2) ?_
  refine va_iald hx hb hK hP 1 0 rfl rfl (vp_in_nI (by omega) (by decide)) dX5_turnOf_12 ?_
  refine zz_top (y := S ((9 + (3 * v)) + 2)) (congrArg S (nI_clamp (by omega))) ?_
  refine zz_top (y := S (11 + 3 * v)) (congrArg S (by omega)) ?_
  exact W.iret (v := (S (11 + 3 * v))) hx hb hr (fun t ht hW => ⟨⟨S (11 + 3 * v), (), rfl, by first | rfl | trivial | simp_all, trivial⟩, hS.F ht⟩) hS.2.2 dX5_turnOf_13

set_option maxHeartbeats 4000000 in
set_option maxRecDepth 100000 in
theorem mX5_ownTilt (l : Launch) (D : va_G) (y : Nat → ClassId) (g : Nat → Nat) (S : (Nat → Int32)) (th : Int32) (sv : Nat) (ln : Nat) (at9 : Nat) (pl : Nat) (va : Int32) (hs : Int64) (v : Nat) (o : Nat) (hl9 : v < 16) (hq : o < 2) (hTu : hTq S) : Met l yX5_ownTilt (ws_ yX5_ownTilt cX5_ownTilt 5 (some .int)) ({ frames := 1, cells := 0, slots := 0, locals := 22 }) (va_Pc [.ref (g 0), .int (nI v), .int (nI o)] (zRO D y [((g 0), .inr (5, [.int th, .ref (g 1), .int (nI sv), .ref (g 2), .ref (g 3), .int (nI ln), .int (nI at9), .int (nI pl), .int va, .long hs])), ((g 1), .inl (y 0, 4023, .inl S))])) (va_Qi (fun (r : Int32) (_ : Unit) => r = qOwn S v o) (fun _ _ => True) (fun _ => False)) 0 0 (fun _ => False) := by
  refine Met.ofW (cc := cX5_ownTilt) (maxL := 5) (ret := (some .int)) (by decide) rfl ?_
  intro p e s m args below meth c s₁ B hml hpre9
  obtain ⟨rfl, hP, hKN⟩ := hpre9
  have hK := hKN.1
  have hx := B.exec
  have hb := B.bytes
  have hr := B.returns
  have hts := atoms_spec (ws := (ws_ yX5_ownTilt cX5_ownTilt 5 (some .int))) B.pre
  have htg : ∀ w ∈ gT, w.before _ s = true := fun w h => hts w (List.mem_cons_of_mem _ h)
  have hown : s.vm.findClass RX5 = some m.cls := findClass_of_methodNamed B.named
  have hlocks := B.notSynchronized
  have hS : va_S (fun _ => False) s.heap s.heap [] := va_S.rf
  have hP : va_P D vwCl [((g 0), .inr (5, [.int th, .ref (g 1), .int (nI sv), .ref (g 2), .ref (g 3), .int (nI ln), .int (nI at9), .int (nI pl), .int va, .long hs])), ((g 1), .inl (y 0, 4023, .inl S))] s.heap := hP
  have hl := lv_entry ([.ref (g 0), .int (nI v), .int (nI o)]) (n := 5) (Nat.le_of_ble_eq_true rfl)
  rw [lg_entry_eq]
  generalize (lg_sl ([.ref (g 0), .int (nI v), .int (nI o)]) ++ List.replicate (5 - (lg_sl ([.ref (g 0), .int (nI v), .int (nI o)])).length) Slot.unset).toArray = ls at hl ⊢
  have hl : lv_has ls 5 [(0, .ref (g 0)), (1, .int (nI v)), (2, .int (nI o))] := hl
  refine lv_aload_n hx hb dX5_ownTilt_0 rfl (lv_at hl 0 rfl) ?_
  refine lv_iload_n hx hb dX5_ownTilt_1 rfl (lv_at hl 1 rfl) ?_
  refine zr_calli (va_runV (As := [.int (nI v)]) (rest := []) ⟨hx, hb, hml, hown, hts⟩ (mX5_turnOf l D y g S th sv ln at9 pl va hs v (by first | assumption | rfl | omega | decide)) (cwV 1 hts (zgV tw_376 tw_377 tw_378 tw_369 tw_374) rfl rfl rfl (by decide +kernel) ⟨Nat.le_of_ble_eq_true rfl, Nat.le_of_ble_eq_true rfl⟩) (zRO_preV hKN hP (ci := 5) (q0 := 0) rfl rfl [0, 1] rfl) rfl rfl hl.1 rfl (lv_room (Nat.le_of_ble_eq_true rfl)) dX5_ownTilt_2 ⟨Nat.zero_le _, Nat.zero_le _⟩) hS (fun r_1 H locs hw_2 hT hS => ?_)
  replace hP := hT _ _ hP
  obtain rfl : r_1 = S (11 + 3 * v) := hw_2
  obtain ⟨htt, ht4⟩ := hTu v hl9
  refine zz_top (y := nI (qTq S v)) (htt) ?_
  refine lv_iload_n hx hb dX5_ownTilt_5 rfl (lv_at hl 2 rfl) ?_
  refine lv_iadd hx hb dX5_ownTilt_6 ?_
  refine zz_top (y := nI ((qTq S v) + o)) (nI_add (qTq S v) o) ?_
  refine lv_istore_n (lv' := [(3, .int (nI ((qTq S v) + o))), (0, .ref (g 0)), (1, .int (nI v)), (2, .int (nI o))]) hx hb dX5_ownTilt_7 rfl hl (by decide) rfl (fun ls hl => ?_)
  refine lv_aload_n hx hb dX5_ownTilt_8 rfl (lv_at hl 1 rfl) ?_
  refine lv_iload_n hx hb dX5_ownTilt_9 rfl (lv_at hl 2 rfl) ?_
  refine lv_iload_n hx hb dX5_ownTilt_10 rfl (lv_at hl 0 rfl) ?_
  refine lv_iconst (v := 2) hx hb dX5_ownTilt_11 (by decide) ?_
  refine lv_irem hx hb dX5_ownTilt_12 (by decide) ?_
  refine zz_top (y := nI (((qTq S v) + o) % 2)) (pk_rem (by omega) (by decide) (by decide)) ?_
  refine zr_calli (va_runV (As := [.int (nI v), .int (nI (((qTq S v) + o) % 2))]) (rest := []) ⟨hx, hb, hml, hown, hts⟩ (mX5_tilt l D y g S th sv ln at9 pl va hs v (((qTq S v) + o) % 2) (by first | assumption | rfl | omega | decide) (by first | assumption | rfl | omega | decide)) (cwV 2 hts (zgV tw_379 tw_380 tw_381 tw_369 tw_373) rfl rfl rfl (by decide +kernel) ⟨Nat.le_of_ble_eq_true rfl, Nat.le_of_ble_eq_true rfl⟩) (zRO_preV hKN hP (ci := 5) (q0 := 0) rfl rfl [0, 1] rfl) rfl rfl hl.1 rfl (lv_room (Nat.le_of_ble_eq_true rfl)) dX5_ownTilt_13 ⟨Nat.zero_le _, Nat.zero_le _⟩) hS (fun r_2 H locs hw_13 hT hS => ?_)
  replace hP := hT _ _ hP
  obtain rfl : r_2 = S (9 + 3 * v + (((qTq S v) + o) % 2)) := hw_13
  refine lv_istore (lv' := [(4, .int (S (9 + 3 * v + (((qTq S v) + o) % 2)))), (3, .int (nI ((qTq S v) + o))), (0, .ref (g 0)), (1, .int (nI v)), (2, .int (nI o))]) hx hb dX5_ownTilt_16 hl (by decide) rfl (fun ls hl => ?_)
  refine lv_iload_n hx hb dX5_ownTilt_18 rfl (lv_at hl 1 rfl) ?_
  refine lv_iconst (v := 4) hx hb dX5_ownTilt_19 (by decide) ?_
  refine lv_irem hx hb dX5_ownTilt_20 (by decide) ?_
  refine zz_top (y := nI (((qTq S v) + o) % 4)) (pk_rem (by omega) (by decide) (by decide)) ?_
  refine lv_iconst (v := 2) hx hb dX5_ownTilt_21 (by decide) ?_
  refine lv_icmp_ge (tgt := 30) hx hb dX5_ownTilt_22 (by decide) (fun c_22 => ?_) (fun c_22 => ?_)
  · replace c_22 : 2 ≤ (((qTq S v) + o) % 4) := (nI_leI (a := 2) (b := (((qTq S v) + o) % 4)) (by omega) (by omega)).mp c_22
    refine lv_iload hx hb dX5_ownTilt_30 (lv_at hl 0 rfl) ?_
    refine lv_ineg hx hb dX5_ownTilt_32 ?_
    exact W.iret (v := (-(S (9 + 3 * v + (((qTq S v) + o) % 2))))) hx hb hr (fun t ht hW => ⟨⟨-(S (9 + 3 * v + (((qTq S v) + o) % 2))), (), rfl, zOwn_hi htt ht4 hq (by omega), trivial⟩, hS.F ht⟩) hS.2.2 dX5_ownTilt_33
  · replace c_22 : ¬ 2 ≤ (((qTq S v) + o) % 4) := fun h => c_22 ((nI_leI (a := 2) (b := (((qTq S v) + o) % 4)) (by omega) (by omega)).mpr h)
    refine lv_iload hx hb dX5_ownTilt_25 (lv_at hl 0 rfl) ?_
    refine lv_goto (tgt := 33) hx hb dX5_ownTilt_27 (by decide) ?_
    exact W.iret (v := (S (9 + 3 * v + (((qTq S v) + o) % 2)))) hx hb hr (fun t ht hW => ⟨⟨S (9 + 3 * v + (((qTq S v) + o) % 2)), (), rfl, zOwn_lo htt ht4 hq (by omega), trivial⟩, hS.F ht⟩) hS.2.2 dX5_ownTilt_33

set_option maxHeartbeats 4000000 in
set_option maxRecDepth 100000 in
theorem mX5_wouldRead (l : Launch) (D : va_G) (y : Nat → ClassId) (g : Nat → Nat) (S : (Nat → Int32)) (th : Int32) (sv : Nat) (ln : Nat) (at9 : Nat) (pl : Nat) (va : Int32) (hs : Int64) (v : Nat) (o : Nat) (f : Nat) (hl9 : v < 16) (hq : o < 2) (hf : f < 2) (hTu : hTq S) : Met l yX5_wouldRead (ws_ yX5_wouldRead cX5_wouldRead 4 (some .int)) ({ frames := 2, cells := 0, slots := 0, locals := 46 }) (va_Pc [.ref (g 0), .int (nI v), .int (nI o), .int (nI f)] (zRO D y [((g 0), .inr (5, [.int th, .ref (g 1), .int (nI sv), .ref (g 2), .ref (g 3), .int (nI ln), .int (nI at9), .int (nI pl), .int va, .long hs])), ((g 1), .inl (y 0, 4023, .inl S))])) (va_Qi (fun (r : Int32) (_ : Unit) => r = qPr S v o f) (fun _ _ => True) (fun _ => False)) 0 0 (fun _ => False) := by
  refine Met.ofW (cc := cX5_wouldRead) (maxL := 4) (ret := (some .int)) (by decide) rfl ?_
  intro p e s m args below meth c s₁ B hml hpre9
  obtain ⟨rfl, hP, hKN⟩ := hpre9
  have hK := hKN.1
  have hx := B.exec
  have hb := B.bytes
  have hr := B.returns
  have hts := atoms_spec (ws := (ws_ yX5_wouldRead cX5_wouldRead 4 (some .int))) B.pre
  have htg : ∀ w ∈ gT, w.before _ s = true := fun w h => hts w (List.mem_cons_of_mem _ h)
  have hown : s.vm.findClass RX5 = some m.cls := findClass_of_methodNamed B.named
  have hlocks := B.notSynchronized
  have hS : va_S (fun _ => False) s.heap s.heap [] := va_S.rf
  have hP : va_P D vwCl [((g 0), .inr (5, [.int th, .ref (g 1), .int (nI sv), .ref (g 2), .ref (g 3), .int (nI ln), .int (nI at9), .int (nI pl), .int va, .long hs])), ((g 1), .inl (y 0, 4023, .inl S))] s.heap := hP
  have hl := lv_entry ([.ref (g 0), .int (nI v), .int (nI o), .int (nI f)]) (n := 4) (Nat.le_of_ble_eq_true rfl)
  rw [lg_entry_eq]
  generalize (lg_sl ([.ref (g 0), .int (nI v), .int (nI o), .int (nI f)]) ++ List.replicate (4 - (lg_sl ([.ref (g 0), .int (nI v), .int (nI o), .int (nI f)])).length) Slot.unset).toArray = ls at hl ⊢
  have hl : lv_has ls 4 [(0, .ref (g 0)), (1, .int (nI v)), (2, .int (nI o)), (3, .int (nI f))] := hl
  refine lv_aload_n hx hb dX5_wouldRead_0 rfl (lv_at hl 0 rfl) ?_
  refine va_get (D := D) (ci := 5) (v := .ref (g 1)) (C := RX5) (T := TX5) (N := 10) hx hb htg iX5 hown hK hP 0 rfl rfl 1 (by decide) (htg _ tw_359) (fun _ h9 => h9) rfl dX5_wouldRead_1 ?_
  refine lv_iconst (v := 2) hx hb dX5_wouldRead_4 (by decide) ?_
  refine lv_iload_n hx hb dX5_wouldRead_5 rfl (lv_at hl 2 rfl) ?_
  refine lv_iadd hx hb dX5_wouldRead_6 ?_
  refine zz_top (y := nI (2 + o)) (nI_add 2 o) ?_
  refine va_iald hx hb hK hP 1 0 rfl rfl (vp_in_nI (by omega) (by decide)) dX5_wouldRead_7 ?_
  refine zz_top (y := S (2 + o)) (congrArg S (nI_clamp (by omega))) ?_
  refine lv_iload_n hx hb dX5_wouldRead_8 rfl (lv_at hl 3 rfl) ?_
  refine lv_if_ne (tgt := 21) hx hb dX5_wouldRead_9 (by decide) (fun c_9 => ?_) (fun c_9 => ?_)
  · replace c_9 : ¬ f = 0 := fun h => c_9 ((nI_eq (a := f) (b := 0) (by omega) (by omega)).mpr h)
    refine lv_aload_n hx hb dX5_wouldRead_21 rfl (lv_at hl 0 rfl) ?_
    refine lv_iload_n hx hb dX5_wouldRead_22 rfl (lv_at hl 1 rfl) ?_
    refine lv_iload_n hx hb dX5_wouldRead_23 rfl (lv_at hl 2 rfl) ?_
    refine zr_calli (va_runV (As := [.int (nI v), .int (nI o)]) (rest := [.int (S (2 + o))]) ⟨hx, hb, hml, hown, hts⟩ (mX5_ownTilt l D y g S th sv ln at9 pl va hs v o (by first | assumption | rfl | omega | decide) (by first | assumption | rfl | omega | decide) (by first | assumption | rfl | omega | decide)) (cwV 2 hts (zgV tw_383 tw_384 tw_385 tw_369 tw_375) rfl rfl rfl (by decide +kernel) ⟨Nat.le_of_ble_eq_true rfl, Nat.le_of_ble_eq_true rfl⟩) (zRO_preV hKN hP (ci := 5) (q0 := 0) rfl rfl [0, 1] rfl) rfl rfl hl.1 rfl (lv_room (Nat.le_of_ble_eq_true rfl)) dX5_wouldRead_24 ⟨Nat.zero_le _, Nat.zero_le _⟩) hS (fun r_1 H locs hw_24 hT hS => ?_)
    replace hP := hT _ _ hP
    obtain rfl : r_1 = qOwn S v o := hw_24
    refine lv_ineg hx hb dX5_wouldRead_27 ?_
    refine lv_iadd hx hb dX5_wouldRead_28 ?_
    exact W.iret (v := ((S (2 + o)) + (-(qOwn S v o)))) hx hb hr (fun t ht hW => ⟨⟨(S (2 + o)) + (-(qOwn S v o)), (), rfl, by rw [qPr, if_neg c_9, Int32.sub_eq_add_neg], trivial⟩, hS.F ht⟩) hS.2.2 dX5_wouldRead_29
  · replace c_9 : f = 0 := (nI_eq (a := f) (b := 0) (by omega) (by omega)).mp c_9
    refine lv_aload_n hx hb dX5_wouldRead_12 rfl (lv_at hl 0 rfl) ?_
    refine lv_iload_n hx hb dX5_wouldRead_13 rfl (lv_at hl 1 rfl) ?_
    refine lv_iload_n hx hb dX5_wouldRead_14 rfl (lv_at hl 2 rfl) ?_
    refine zr_calli (va_runV (As := [.int (nI v), .int (nI o)]) (rest := [.int (S (2 + o))]) ⟨hx, hb, hml, hown, hts⟩ (mX5_ownTilt l D y g S th sv ln at9 pl va hs v o (by first | assumption | rfl | omega | decide) (by first | assumption | rfl | omega | decide) (by first | assumption | rfl | omega | decide)) (cwV 2 hts (zgV tw_383 tw_384 tw_385 tw_369 tw_375) rfl rfl rfl (by decide +kernel) ⟨Nat.le_of_ble_eq_true rfl, Nat.le_of_ble_eq_true rfl⟩) (zRO_preV hKN hP (ci := 5) (q0 := 0) rfl rfl [0, 1] rfl) rfl rfl hl.1 rfl (lv_room (Nat.le_of_ble_eq_true rfl)) dX5_wouldRead_15 ⟨Nat.zero_le _, Nat.zero_le _⟩) hS (fun r_2 H locs hw_15 hT hS => ?_)
    replace hP := hT _ _ hP
    obtain rfl : r_2 = qOwn S v o := hw_15
    refine lv_goto (tgt := 28) hx hb dX5_wouldRead_18 (by decide) ?_
    refine lv_iadd hx hb dX5_wouldRead_28 ?_
    exact W.iret (v := ((S (2 + o)) + (qOwn S v o))) hx hb hr (fun t ht hW => ⟨⟨(S (2 + o)) + (qOwn S v o), (), rfl, by rw [qPr, if_pos c_9], trivial⟩, hS.F ht⟩) hS.2.2 dX5_wouldRead_29

set_option maxHeartbeats 4000000 in
set_option maxRecDepth 100000 in
theorem mX5_read (l : Launch) (D : va_G) (y : Nat → ClassId) (g : Nat → Nat) (S : (Nat → Int32)) (th : Int32) (sv : Nat) (ln : Nat) (at9 : Nat) (pl : Nat) (va : Int32) (hs : Int64) (k : Nat) (v : Nat) (o : Nat) (f : Nat) (hk : k < 6) (hl9 : v < 16) (hq : o < 2) (hf : f < 2) : Met l yX5_read (ws_ yX5_read cX5_read 5 (some .int)) ({ frames := 1, cells := 0, slots := 0, locals := 22 }) (va_Pc [.ref (g 0), .int (nI k), .int (nI v), .int (nI o), .int (nI f)] (zRO D y [((g 0), .inr (5, [.int th, .ref (g 1), .int (nI sv), .ref (g 2), .ref (g 3), .int (nI ln), .int (nI at9), .int (nI pl), .int va, .long hs])), ((g 1), .inl (y 0, 4023, .inl S))])) (va_Qi (fun (r : Int32) (_ : Unit) => r = qRd S k v o f) (fun _ _ => True) (fun _ => False)) 0 0 (fun _ => False) := by
  refine Met.ofW (cc := cX5_read) (maxL := 5) (ret := (some .int)) (by decide) rfl ?_
  intro p e s m args below meth c s₁ B hml hpre9
  obtain ⟨rfl, hP, hKN⟩ := hpre9
  have hK := hKN.1
  have hx := B.exec
  have hb := B.bytes
  have hr := B.returns
  have hts := atoms_spec (ws := (ws_ yX5_read cX5_read 5 (some .int))) B.pre
  have htg : ∀ w ∈ gT, w.before _ s = true := fun w h => hts w (List.mem_cons_of_mem _ h)
  have hown : s.vm.findClass RX5 = some m.cls := findClass_of_methodNamed B.named
  have hlocks := B.notSynchronized
  have hS : va_S (fun _ => False) s.heap s.heap [] := va_S.rf
  have hP : va_P D vwCl [((g 0), .inr (5, [.int th, .ref (g 1), .int (nI sv), .ref (g 2), .ref (g 3), .int (nI ln), .int (nI at9), .int (nI pl), .int va, .long hs])), ((g 1), .inl (y 0, 4023, .inl S))] s.heap := hP
  have hl := lv_entry ([.ref (g 0), .int (nI k), .int (nI v), .int (nI o), .int (nI f)]) (n := 5) (Nat.le_of_ble_eq_true rfl)
  rw [lg_entry_eq]
  generalize (lg_sl ([.ref (g 0), .int (nI k), .int (nI v), .int (nI o), .int (nI f)]) ++ List.replicate (5 - (lg_sl ([.ref (g 0), .int (nI k), .int (nI v), .int (nI o), .int (nI f)])).length) Slot.unset).toArray = ls at hl ⊢
  have hl : lv_has ls 5 [(0, .ref (g 0)), (1, .int (nI k)), (2, .int (nI v)), (3, .int (nI o)), (4, .int (nI f))] := hl
  refine lv_aload_n hx hb dX5_read_0 rfl (lv_at hl 0 rfl) ?_
  refine va_get (D := D) (ci := 5) (v := .ref (g 1)) (C := RX5) (T := TX5) (N := 10) hx hb htg iX5 hown hK hP 0 rfl rfl 1 (by decide) (htg _ tw_359) (fun _ h9 => h9) rfl dX5_read_1 ?_
  refine lv_bipush (v := 57) hx hb dX5_read_4 (by decide) ?_
  refine lv_bipush (v := 65) hx hb dX5_read_6 (by decide) ?_
  refine lv_iload_n hx hb dX5_read_8 rfl (lv_at hl 1 rfl) ?_
  refine lv_imul hx hb dX5_read_9 ?_
  refine zz_top (y := nI (65 * k)) (pk_mul 65 k) ?_
  refine lv_iadd hx hb dX5_read_10 ?_
  refine zz_top (y := nI (57 + (65 * k))) (nI_add 57 (65 * k)) ?_
  refine lv_iload_n hx hb dX5_read_11 rfl (lv_at hl 2 rfl) ?_
  refine lv_iload_n hx hb dX5_read_12 rfl (lv_at hl 3 rfl) ?_
  refine lv_iload hx hb dX5_read_13 (lv_at hl 4 rfl) ?_
  refine zr_calli (va_runS (As := [.int (nI v), .int (nI o), .int (nI f)]) (rest := [.int (nI (57 + (65 * k))), .ref (g 1)]) ⟨hx, hb, hml, hown, hts⟩ (mX5_placeOf l v o f) (va_cwS 3 hts (zgS tw_388 tw_389 tw_369 tw_386) rfl rfl rfl (by decide +kernel) ⟨Nat.le_of_ble_eq_true rfl, Nat.le_of_ble_eq_true rfl⟩) zP_pre rfl rfl hl.1 rfl (lv_room (Nat.le_of_ble_eq_true rfl)) dX5_read_15 ⟨Nat.zero_le _, Nat.zero_le _⟩) hS (fun r_1 H locs hw_15 hT hS => ?_)
  replace hP := hT _ _ hP
  obtain rfl : r_1 = nI (1 + 4 * v + 2 * o + f) := hw_15
  refine lv_iadd hx hb dX5_read_18 ?_
  refine zz_top (y := nI ((57 + (65 * k)) + (1 + 4 * v + 2 * o + f))) (nI_add (57 + (65 * k)) (1 + 4 * v + 2 * o + f)) ?_
  refine va_iald hx hb hK hP 1 0 rfl rfl (vp_in_nI (by omega) (by decide)) dX5_read_19 ?_
  refine zz_top (y := S ((57 + (65 * k)) + (1 + 4 * v + 2 * o + f))) (congrArg S (nI_clamp (by omega))) ?_
  refine zz_top (y := qRd S k v o f) (congrArg S (by omega)) ?_
  exact W.iret (v := (qRd S k v o f)) hx hb hr (fun t ht hW => ⟨⟨qRd S k v o f, (), rfl, by first | rfl | trivial | simp_all, trivial⟩, hS.F ht⟩) hS.2.2 dX5_read_20

set_option maxHeartbeats 4000000 in
set_option maxRecDepth 100000 in
theorem mX5_check (l : Launch) (D : va_G) (y : Nat → ClassId) (g : Nat → Nat) (S : (Nat → Int32)) (th : Int32) (sv : Nat) (ln : Nat) (at9 : Nat) (pl : Nat) (va : Int32) (hs : Int64) (k : Nat) (v : Nat) (o : Nat) (hk : k < 6) (hl9 : v < 16) (hq : o < 2) : Met l yX5_check (ws_ yX5_check cX5_check 4 (some .int)) ({ frames := 2, cells := 0, slots := 0, locals := 46 }) (va_Pc [.ref (g 0), .int (nI k), .int (nI v), .int (nI o)] (zRO D y [((g 0), .inr (5, [.int th, .ref (g 1), .int (nI sv), .ref (g 2), .ref (g 3), .int (nI ln), .int (nI at9), .int (nI pl), .int va, .long hs])), ((g 1), .inl (y 0, 4023, .inl S))])) (va_Qi (fun (r : Int32) (_ : Unit) => r = qCk S k v o) (fun _ _ => True) (fun _ => False)) 0 0 (fun _ => False) := by
  refine Met.ofW (cc := cX5_check) (maxL := 4) (ret := (some .int)) (by decide) rfl ?_
  intro p e s m args below meth c s₁ B hml hpre9
  obtain ⟨rfl, hP, hKN⟩ := hpre9
  have hK := hKN.1
  have hx := B.exec
  have hb := B.bytes
  have hr := B.returns
  have hts := atoms_spec (ws := (ws_ yX5_check cX5_check 4 (some .int))) B.pre
  have htg : ∀ w ∈ gT, w.before _ s = true := fun w h => hts w (List.mem_cons_of_mem _ h)
  have hown : s.vm.findClass RX5 = some m.cls := findClass_of_methodNamed B.named
  have hlocks := B.notSynchronized
  have hS : va_S (fun _ => False) s.heap s.heap [] := va_S.rf
  have hP : va_P D vwCl [((g 0), .inr (5, [.int th, .ref (g 1), .int (nI sv), .ref (g 2), .ref (g 3), .int (nI ln), .int (nI at9), .int (nI pl), .int va, .long hs])), ((g 1), .inl (y 0, 4023, .inl S))] s.heap := hP
  have hl := lv_entry ([.ref (g 0), .int (nI k), .int (nI v), .int (nI o)]) (n := 4) (Nat.le_of_ble_eq_true rfl)
  rw [lg_entry_eq]
  generalize (lg_sl ([.ref (g 0), .int (nI k), .int (nI v), .int (nI o)]) ++ List.replicate (4 - (lg_sl ([.ref (g 0), .int (nI k), .int (nI v), .int (nI o)])).length) Slot.unset).toArray = ls at hl ⊢
  have hl : lv_has ls 4 [(0, .ref (g 0)), (1, .int (nI k)), (2, .int (nI v)), (3, .int (nI o))] := hl
  refine lv_aload_n hx hb dX5_check_0 rfl (lv_at hl 0 rfl) ?_
  refine lv_iload_n hx hb dX5_check_1 rfl (lv_at hl 1 rfl) ?_
  refine lv_iload_n hx hb dX5_check_2 rfl (lv_at hl 2 rfl) ?_
  refine lv_iload_n hx hb dX5_check_3 rfl (lv_at hl 3 rfl) ?_
  refine lv_iconst (v := 0) hx hb dX5_check_4 (by decide) ?_
  refine zr_calli (va_runV (As := [.int (nI k), .int (nI v), .int (nI o), .int 0]) (rest := []) ⟨hx, hb, hml, hown, hts⟩ (mX5_read l D y g S th sv ln at9 pl va hs k v o 0 (by first | assumption | rfl | omega | decide) (by first | assumption | rfl | omega | decide) (by first | assumption | rfl | omega | decide) (by first | assumption | rfl | omega | decide)) (cwV 4 hts (zgV tw_391 tw_392 tw_393 tw_369 tw_387) rfl rfl rfl (by decide +kernel) ⟨Nat.le_of_ble_eq_true rfl, Nat.le_of_ble_eq_true rfl⟩) (zRO_preV hKN hP (ci := 5) (q0 := 0) rfl rfl [0, 1] rfl) rfl rfl hl.1 rfl (lv_room (Nat.le_of_ble_eq_true rfl)) dX5_check_5 ⟨Nat.zero_le _, Nat.zero_le _⟩) hS (fun r_1 H locs hw_5 hT hS => ?_)
  replace hP := hT _ _ hP
  obtain rfl : r_1 = qRd S k v o 0 := hw_5
  refine lv_aload_n hx hb dX5_check_8 rfl (lv_at hl 0 rfl) ?_
  refine lv_iload_n hx hb dX5_check_9 rfl (lv_at hl 1 rfl) ?_
  refine lv_iload_n hx hb dX5_check_10 rfl (lv_at hl 2 rfl) ?_
  refine lv_iload_n hx hb dX5_check_11 rfl (lv_at hl 3 rfl) ?_
  refine lv_iconst (v := 1) hx hb dX5_check_12 (by decide) ?_
  refine zr_calli (va_runV (As := [.int (nI k), .int (nI v), .int (nI o), .int 1]) (rest := [.int (qRd S k v o 0)]) ⟨hx, hb, hml, hown, hts⟩ (mX5_read l D y g S th sv ln at9 pl va hs k v o 1 (by first | assumption | rfl | omega | decide) (by first | assumption | rfl | omega | decide) (by first | assumption | rfl | omega | decide) (by first | assumption | rfl | omega | decide)) (cwV 4 hts (zgV tw_391 tw_392 tw_393 tw_369 tw_387) rfl rfl rfl (by decide +kernel) ⟨Nat.le_of_ble_eq_true rfl, Nat.le_of_ble_eq_true rfl⟩) (zRO_preV hKN hP (ci := 5) (q0 := 0) rfl rfl [0, 1] rfl) rfl rfl hl.1 rfl (lv_room (Nat.le_of_ble_eq_true rfl)) dX5_check_13 ⟨Nat.zero_le _, Nat.zero_le _⟩) hS (fun r_2 H locs hw_13 hT hS => ?_)
  replace hP := hT _ _ hP
  obtain rfl : r_2 = qRd S k v o 1 := hw_13
  refine lv_iadd hx hb dX5_check_16 ?_
  exact W.iret (v := ((qRd S k v o 0) + (qRd S k v o 1))) hx hb hr (fun t ht hW => ⟨⟨(qRd S k v o 0) + (qRd S k v o 1), (), rfl, by first | rfl | trivial | simp_all, trivial⟩, hS.F ht⟩) hS.2.2 dX5_check_17

set_option maxHeartbeats 4000000 in
set_option maxRecDepth 100000 in
theorem mX5_common (l : Launch) (D : va_G) (y : Nat → ClassId) (g : Nat → Nat) (S : (Nat → Int32)) (th : Int32) (sv : Nat) (ln : Nat) (at9 : Nat) (pl : Nat) (va : Int32) (hs : Int64) (k : Nat) (o : Nat) (hk : k < 6) (hq : o < 2) : Met l yX5_common (ws_ yX5_common cX5_common 9 (some .int)) ({ frames := 3, cells := 0, slots := 0, locals := 69 }) (va_Pc [.ref (g 0), .int (nI k), .int (nI o)] (zRO D y [((g 0), .inr (5, [.int th, .ref (g 1), .int (nI sv), .ref (g 2), .ref (g 3), .int (nI ln), .int (nI at9), .int (nI pl), .int va, .long hs])), ((g 1), .inl (y 0, 4023, .inl S))])) (va_Qi (fun (r : Int32) (_ : Unit) => r = qCm S k o) (fun _ _ => True) (fun _ => False)) 0 0 (fun _ => False) := by
  refine Met.ofW (cc := cX5_common) (maxL := 9) (ret := (some .int)) (by decide) rfl ?_
  intro p e s m args below meth c s₁ B hml hpre9
  obtain ⟨rfl, hP, hKN⟩ := hpre9
  have hK := hKN.1
  have hx := B.exec
  have hb := B.bytes
  have hr := B.returns
  have hts := atoms_spec (ws := (ws_ yX5_common cX5_common 9 (some .int))) B.pre
  have htg : ∀ w ∈ gT, w.before _ s = true := fun w h => hts w (List.mem_cons_of_mem _ h)
  have hown : s.vm.findClass RX5 = some m.cls := findClass_of_methodNamed B.named
  have hlocks := B.notSynchronized
  have hS : va_S (fun _ => False) s.heap s.heap [] := va_S.rf
  have hP : va_P D vwCl [((g 0), .inr (5, [.int th, .ref (g 1), .int (nI sv), .ref (g 2), .ref (g 3), .int (nI ln), .int (nI at9), .int (nI pl), .int va, .long hs])), ((g 1), .inl (y 0, 4023, .inl S))] s.heap := hP
  have hl := lv_entry ([.ref (g 0), .int (nI k), .int (nI o)]) (n := 9) (Nat.le_of_ble_eq_true rfl)
  rw [lg_entry_eq]
  generalize (lg_sl ([.ref (g 0), .int (nI k), .int (nI o)]) ++ List.replicate (9 - (lg_sl ([.ref (g 0), .int (nI k), .int (nI o)])).length) Slot.unset).toArray = ls at hl ⊢
  have hl : lv_has ls 9 [(0, .ref (g 0)), (1, .int (nI k)), (2, .int (nI o))] := hl
  refine lv_iconst (v := 0) hx hb dX5_common_0 (by decide) ?_
  refine lv_istore_n (lv' := [(3, .int 0), (0, .ref (g 0)), (1, .int (nI k)), (2, .int (nI o))]) hx hb dX5_common_1 rfl hl (by decide) rfl (fun ls hl => ?_)
  refine lv_iconst (v := 0) hx hb dX5_common_2 (by decide) ?_
  refine lv_istore (lv' := [(4, .int 0), (3, .int 0), (0, .ref (g 0)), (1, .int (nI k)), (2, .int (nI o))]) hx hb dX5_common_3 hl (by decide) rfl (fun ls hl => ?_)
  refine zloop (fun i : Nat => 16 - i) (fun i H locs ls => i ≤ 16 ∧ va_P D vwCl [((g 0), .inr (5, [.int th, .ref (g 1), .int (nI sv), .ref (g 2), .ref (g 3), .int (nI ln), .int (nI at9), .int (nI pl), .int va, .long hs])), ((g 1), .inl (y 0, 4023, .inl S))] H ∧ va_S (fun _ => False) s.heap H locs ∧ lv_has ls 9 [(0, .ref (g 0)), (1, .int (nI k)), (2, .int (nI o)), (3, .int (qCmL S k o i)), (4, .int (nI i))]) 5 (fun _ => 0) (fun _ => 0) ?_ (0) ⟨by omega, hP, hS, lv_sub hl [2, 3, 4, 1, 0] rfl⟩
  clear hl hS hP
  rintro i H locs ls ⟨hi, hP, hS, hl⟩ ih5
  refine lv_iload hx hb dX5_common_5 (lv_at hl 4 rfl) ?_
  refine lv_bipush (v := 16) hx hb dX5_common_7 (by decide) ?_
  refine lv_icmp_ge (tgt := 117) hx hb dX5_common_9 (by decide) (fun c_9 => ?_) (fun c_9 => ?_)
  · replace c_9 : 16 ≤ i := (nI_leI (a := 16) (b := i) (by omega) (by omega)).mp c_9
    have e8 : i = 16 := by omega
    refine lv_iload_n hx hb dX5_common_117 rfl (lv_at hl 3 rfl) ?_
    exact W.iret (v := (qCmL S k o i)) hx hb hr (fun t ht hW => ⟨⟨qCmL S k o i, (), rfl, congrArg (qCmL S k o) e8, trivial⟩, hS.F ht⟩) hS.2.2 dX5_common_118
  · replace c_9 : ¬ 16 ≤ i := fun h => c_9 ((nI_leI (a := 16) (b := i) (by omega) (by omega)).mpr h)
    refine lv_aload_n hx hb dX5_common_12 rfl (lv_at hl 0 rfl) ?_
    refine lv_iload_n hx hb dX5_common_13 rfl (lv_at hl 1 rfl) ?_
    refine lv_iload hx hb dX5_common_14 (lv_at hl 4 rfl) ?_
    refine lv_iload_n hx hb dX5_common_16 rfl (lv_at hl 2 rfl) ?_
    refine zr_calli (va_runV (As := [.int (nI k), .int (nI i), .int (nI o)]) (rest := []) ⟨hx, hb, hml, hown, hts⟩ (mX5_check l D y g S th sv ln at9 pl va hs k i o (by first | assumption | rfl | omega | decide) (by first | assumption | rfl | omega | decide) (by first | assumption | rfl | omega | decide)) (cwV 3 hts (zgV tw_395 tw_396 tw_397 tw_369 tw_390) rfl rfl rfl (by decide +kernel) ⟨Nat.le_of_ble_eq_true rfl, Nat.le_of_ble_eq_true rfl⟩) (zRO_preV hKN hP (ci := 5) (q0 := 0) rfl rfl [0, 1] rfl) rfl rfl hl.1 rfl (lv_room (Nat.le_of_ble_eq_true rfl)) dX5_common_17 ⟨Nat.zero_le _, Nat.zero_le _⟩) hS (fun r_1 H locs hw_17 hT hS => ?_)
    replace hP := hT _ _ hP
    obtain rfl : r_1 = qCk S k i o := hw_17
    refine lv_istore (lv' := [(5, .int (qCk S k i o)), (0, .ref (g 0)), (1, .int (nI k)), (2, .int (nI o)), (3, .int (qCmL S k o i)), (4, .int (nI i))]) hx hb dX5_common_20 hl (by decide) rfl (fun ls hl => ?_)
    refine lv_iconst (v := 0) hx hb dX5_common_22 (by decide) ?_
    refine lv_istore (lv' := [(6, .int 0), (5, .int (qCk S k i o)), (0, .ref (g 0)), (1, .int (nI k)), (2, .int (nI o)), (3, .int (qCmL S k o i)), (4, .int (nI i))]) hx hb dX5_common_23 hl (by decide) rfl (fun ls hl => ?_)
    refine lv_iconst (v := 0) hx hb dX5_common_25 (by decide) ?_
    refine lv_istore (lv' := [(7, .int 0), (6, .int 0), (5, .int (qCk S k i o)), (0, .ref (g 0)), (1, .int (nI k)), (2, .int (nI o)), (3, .int (qCmL S k o i)), (4, .int (nI i))]) hx hb dX5_common_26 hl (by decide) rfl (fun ls hl => ?_)
    refine lv_iconst (v := 0) hx hb dX5_common_28 (by decide) ?_
    refine lv_istore (lv' := [(8, .int 0), (7, .int 0), (6, .int 0), (5, .int (qCk S k i o)), (0, .ref (g 0)), (1, .int (nI k)), (2, .int (nI o)), (3, .int (qCmL S k o i)), (4, .int (nI i))]) hx hb dX5_common_29 hl (by decide) rfl (fun ls hl => ?_)
    refine zloop (fun j : Nat => 16 - j) (fun j H locs ls => j ≤ 16 ∧ va_P D vwCl [((g 0), .inr (5, [.int th, .ref (g 1), .int (nI sv), .ref (g 2), .ref (g 3), .int (nI ln), .int (nI at9), .int (nI pl), .int va, .long hs])), ((g 1), .inl (y 0, 4023, .inl S))] H ∧ va_S (fun _ => False) s.heap H locs ∧ lv_has ls 9 [(0, .ref (g 0)), (1, .int (nI k)), (2, .int (nI o)), (3, .int (qCmL S k o i)), (4, .int (nI i)), (5, .int (qCk S k i o)), (6, .int (nI (qBel S k o (qCk S k i o) j))), (7, .int (nI (qNab S k o (qCk S k i o) j))), (8, .int (nI j))]) 31 (fun _ => 0) (fun _ => 0) ?_ (0) ⟨by omega, hP, hS, lv_sub hl [4, 5, 6, 7, 8, 3, 2, 1, 0] rfl⟩
    clear hl hS hP
    rintro j H locs ls ⟨hj, hP, hS, hl⟩ ih31
    refine lv_iload hx hb dX5_common_31 (lv_at hl 8 rfl) ?_
    refine lv_bipush (v := 16) hx hb dX5_common_33 (by decide) ?_
    refine lv_icmp_ge (tgt := 90) hx hb dX5_common_35 (by decide) (fun c_35 => ?_) (fun c_35 => ?_)
    · replace c_35 : 16 ≤ j := (nI_leI (a := 16) (b := j) (by omega) (by omega)).mp c_35
      have e8 : j = 16 := by omega
      have e6 := qBel_le S k o (qCk S k i o) j
      have e7 := qNab_le S k o (qCk S k i o) j
      refine lv_iload hx hb dX5_common_90 (lv_at hl 6 rfl) ?_
      refine lv_bipush (v := 8) hx hb dX5_common_92 (by decide) ?_
      refine lv_icmp_ge (tgt := 109) hx hb dX5_common_94 (by decide) (fun c_94 => ?_) (fun c_94 => ?_)
      · replace c_94 : 8 ≤ (qBel S k o (qCk S k i o) j) := (nI_leI (a := 8) (b := (qBel S k o (qCk S k i o) j)) (by omega) (by omega)).mp c_94
        refine lv_iload_n hx hb dX5_common_109 rfl (lv_at hl 3 rfl) ?_
        refine zz_top (y := qCmL S k o (i + 1)) (qCmL_n (by rw [← e8]; omega)) ?_
        refine lv_istore_n (lv' := [(3, .int (qCmL S k o (i + 1))), (0, .ref (g 0)), (1, .int (nI k)), (2, .int (nI o)), (4, .int (nI i)), (5, .int (qCk S k i o)), (6, .int (nI (qBel S k o (qCk S k i o) j))), (7, .int (nI (qNab S k o (qCk S k i o) j))), (8, .int (nI j))]) hx hb dX5_common_110 rfl hl (by decide) rfl (fun ls hl => ?_)
        refine lv_iinc (v := nI (i + 1)) (lv' := [(4, .int (nI (i + 1))), (3, .int (qCmL S k o (i + 1))), (0, .ref (g 0)), (1, .int (nI k)), (2, .int (nI o)), (5, .int (qCk S k i o)), (6, .int (nI (qBel S k o (qCk S k i o) j))), (7, .int (nI (qNab S k o (qCk S k i o) j))), (8, .int (nI j))]) hx hb dX5_common_111 hl (k := 4) rfl (nI_1 i) (by decide) rfl (fun ls hl => ?_)
        refine lv_goto (tgt := 5) hx hb dX5_common_114 (by decide) ?_
        exact ih5 (i + 1) _ _ _ (by omega) ⟨by omega, hP, hS, lv_sub hl [2, 3, 4, 1, 0] rfl⟩
      · replace c_94 : ¬ 8 ≤ (qBel S k o (qCk S k i o) j) := fun h => c_94 ((nI_leI (a := 8) (b := (qBel S k o (qCk S k i o) j)) (by omega) (by omega)).mpr h)
        refine lv_iload hx hb dX5_common_97 (lv_at hl 7 rfl) ?_
        refine lv_bipush (v := 8) hx hb dX5_common_99 (by decide) ?_
        refine lv_icmp_lt (tgt := 109) hx hb dX5_common_101 (by decide) (fun c_101 => ?_) (fun c_101 => ?_)
        · replace c_101 : (qNab S k o (qCk S k i o) j) < 8 := (nI_ltI (a := (qNab S k o (qCk S k i o) j)) (b := 8) (by omega) (by omega)).mp c_101
          refine lv_iload_n hx hb dX5_common_109 rfl (lv_at hl 3 rfl) ?_
          refine zz_top (y := qCmL S k o (i + 1)) (qCmL_n (by rw [← e8]; omega)) ?_
          refine lv_istore_n (lv' := [(3, .int (qCmL S k o (i + 1))), (0, .ref (g 0)), (1, .int (nI k)), (2, .int (nI o)), (4, .int (nI i)), (5, .int (qCk S k i o)), (6, .int (nI (qBel S k o (qCk S k i o) j))), (7, .int (nI (qNab S k o (qCk S k i o) j))), (8, .int (nI j))]) hx hb dX5_common_110 rfl hl (by decide) rfl (fun ls hl => ?_)
          refine lv_iinc (v := nI (i + 1)) (lv' := [(4, .int (nI (i + 1))), (3, .int (qCmL S k o (i + 1))), (0, .ref (g 0)), (1, .int (nI k)), (2, .int (nI o)), (5, .int (qCk S k i o)), (6, .int (nI (qBel S k o (qCk S k i o) j))), (7, .int (nI (qNab S k o (qCk S k i o) j))), (8, .int (nI j))]) hx hb dX5_common_111 hl (k := 4) rfl (nI_1 i) (by decide) rfl (fun ls hl => ?_)
          refine lv_goto (tgt := 5) hx hb dX5_common_114 (by decide) ?_
          exact ih5 (i + 1) _ _ _ (by omega) ⟨by omega, hP, hS, lv_sub hl [2, 3, 4, 1, 0] rfl⟩
        · replace c_101 : ¬ (qNab S k o (qCk S k i o) j) < 8 := fun h => c_101 ((nI_ltI (a := (qNab S k o (qCk S k i o) j)) (b := 8) (by omega) (by omega)).mpr h)
          refine lv_iload hx hb dX5_common_104 (lv_at hl 5 rfl) ?_
          refine lv_goto (tgt := 110) hx hb dX5_common_106 (by decide) ?_
          refine zz_top (y := qCmL S k o (i + 1)) (qCmL_y (by rw [← e8]; omega) (by rw [← e8]; omega)) ?_
          refine lv_istore_n (lv' := [(3, .int (qCmL S k o (i + 1))), (0, .ref (g 0)), (1, .int (nI k)), (2, .int (nI o)), (4, .int (nI i)), (5, .int (qCk S k i o)), (6, .int (nI (qBel S k o (qCk S k i o) j))), (7, .int (nI (qNab S k o (qCk S k i o) j))), (8, .int (nI j))]) hx hb dX5_common_110 rfl hl (by decide) rfl (fun ls hl => ?_)
          refine lv_iinc (v := nI (i + 1)) (lv' := [(4, .int (nI (i + 1))), (3, .int (qCmL S k o (i + 1))), (0, .ref (g 0)), (1, .int (nI k)), (2, .int (nI o)), (5, .int (qCk S k i o)), (6, .int (nI (qBel S k o (qCk S k i o) j))), (7, .int (nI (qNab S k o (qCk S k i o) j))), (8, .int (nI j))]) hx hb dX5_common_111 hl (k := 4) rfl (nI_1 i) (by decide) rfl (fun ls hl => ?_)
          refine lv_goto (tgt := 5) hx hb dX5_common_114 (by decide) ?_
          exact ih5 (i + 1) _ _ _ (by omega) ⟨by omega, hP, hS, lv_sub hl [2, 3, 4, 1, 0] rfl⟩
    · replace c_35 : ¬ 16 ≤ j := fun h => c_35 ((nI_leI (a := 16) (b := j) (by omega) (by omega)).mpr h)
      refine lv_iload hx hb dX5_common_38 (lv_at hl 6 rfl) ?_
      refine lv_aload_n hx hb dX5_common_40 rfl (lv_at hl 0 rfl) ?_
      refine lv_iload_n hx hb dX5_common_41 rfl (lv_at hl 1 rfl) ?_
      refine lv_iload hx hb dX5_common_42 (lv_at hl 8 rfl) ?_
      refine lv_iload_n hx hb dX5_common_44 rfl (lv_at hl 2 rfl) ?_
      refine zr_calli (va_runV (As := [.int (nI k), .int (nI j), .int (nI o)]) (rest := [.int (nI (qBel S k o (qCk S k i o) j))]) ⟨hx, hb, hml, hown, hts⟩ (mX5_check l D y g S th sv ln at9 pl va hs k j o (by first | assumption | rfl | omega | decide) (by first | assumption | rfl | omega | decide) (by first | assumption | rfl | omega | decide)) (cwV 3 hts (zgV tw_395 tw_396 tw_397 tw_369 tw_390) rfl rfl rfl (by decide +kernel) ⟨Nat.le_of_ble_eq_true rfl, Nat.le_of_ble_eq_true rfl⟩) (zRO_preV hKN hP (ci := 5) (q0 := 0) rfl rfl [0, 1] rfl) rfl rfl hl.1 rfl (lv_room (Nat.le_of_ble_eq_true rfl)) dX5_common_45 ⟨Nat.zero_le _, Nat.zero_le _⟩) hS (fun r_2 H locs hw_45 hT hS => ?_)
      replace hP := hT _ _ hP
      obtain rfl : r_2 = qCk S k j o := hw_45
      refine lv_iload hx hb dX5_common_48 (lv_at hl 5 rfl) ?_
      refine lv_icmp_ge (tgt := 57) hx hb dX5_common_50 (by decide) (fun c_50 => ?_) (fun c_50 => ?_)
      · refine lv_iconst (v := 0) hx hb dX5_common_57 (by decide) ?_
        refine lv_iadd hx hb dX5_common_58 ?_
        refine zz_top (y := nI ((qBel S k o (qCk S k i o) j) + 0)) (nI_add (qBel S k o (qCk S k i o) j) 0) ?_
        refine zz_top (y := nI (qBel S k o (qCk S k i o) (j + 1))) (congrArg nI (qBel_n (Int32.not_lt.mpr c_50))) ?_
        refine lv_istore (lv' := [(6, .int (nI (qBel S k o (qCk S k i o) (j + 1)))), (0, .ref (g 0)), (1, .int (nI k)), (2, .int (nI o)), (3, .int (qCmL S k o i)), (4, .int (nI i)), (5, .int (qCk S k i o)), (7, .int (nI (qNab S k o (qCk S k i o) j))), (8, .int (nI j))]) hx hb dX5_common_59 hl (by decide) rfl (fun ls hl => ?_)
        refine lv_iload hx hb dX5_common_61 (lv_at hl 7 rfl) ?_
        refine lv_aload_n hx hb dX5_common_63 rfl (lv_at hl 1 rfl) ?_
        refine lv_iload_n hx hb dX5_common_64 rfl (lv_at hl 2 rfl) ?_
        refine lv_iload hx hb dX5_common_65 (lv_at hl 8 rfl) ?_
        refine lv_iload_n hx hb dX5_common_67 rfl (lv_at hl 3 rfl) ?_
        refine zr_calli (va_runV (As := [.int (nI k), .int (nI j), .int (nI o)]) (rest := [.int (nI (qNab S k o (qCk S k i o) j))]) ⟨hx, hb, hml, hown, hts⟩ (mX5_check l D y g S th sv ln at9 pl va hs k j o (by first | assumption | rfl | omega | decide) (by first | assumption | rfl | omega | decide) (by first | assumption | rfl | omega | decide)) (cwV 3 hts (zgV tw_395 tw_396 tw_397 tw_369 tw_390) rfl rfl rfl (by decide +kernel) ⟨Nat.le_of_ble_eq_true rfl, Nat.le_of_ble_eq_true rfl⟩) (zRO_preV hKN hP (ci := 5) (q0 := 0) rfl rfl [0, 1] rfl) rfl rfl hl.1 rfl (lv_room (Nat.le_of_ble_eq_true rfl)) dX5_common_68 ⟨Nat.zero_le _, Nat.zero_le _⟩) hS (fun r_3 H locs hw_68 hT hS => ?_)
        replace hP := hT _ _ hP
        obtain rfl : r_3 = qCk S k j o := hw_68
        refine lv_iload hx hb dX5_common_71 (lv_at hl 6 rfl) ?_
        refine lv_icmp_gt (tgt := 80) hx hb dX5_common_73 (by decide) (fun c_73 => ?_) (fun c_73 => ?_)
        · refine lv_iconst (v := 0) hx hb dX5_common_80 (by decide) ?_
          refine lv_iadd hx hb dX5_common_81 ?_
          refine zz_top (y := nI ((qNab S k o (qCk S k i o) j) + 0)) (nI_add (qNab S k o (qCk S k i o) j) 0) ?_
          refine zz_top (y := nI (qNab S k o (qCk S k i o) (j + 1))) (congrArg nI (qNab_n (Int32.not_le.mpr c_73))) ?_
          refine lv_istore (lv' := [(7, .int (nI (qNab S k o (qCk S k i o) (j + 1)))), (6, .int (nI (qBel S k o (qCk S k i o) (j + 1)))), (0, .ref (g 0)), (1, .int (nI k)), (2, .int (nI o)), (3, .int (qCmL S k o i)), (4, .int (nI i)), (5, .int (qCk S k i o)), (8, .int (nI j))]) hx hb dX5_common_82 hl (by decide) rfl (fun ls hl => ?_)
          refine lv_iinc (v := nI (j + 1)) (lv' := [(8, .int (nI (j + 1))), (7, .int (nI (qNab S k o (qCk S k i o) (j + 1)))), (6, .int (nI (qBel S k o (qCk S k i o) (j + 1)))), (0, .ref (g 0)), (1, .int (nI k)), (2, .int (nI o)), (3, .int (qCmL S k o i)), (4, .int (nI i)), (5, .int (qCk S k i o))]) hx hb dX5_common_84 hl (k := 8) rfl (nI_1 j) (by decide) rfl (fun ls hl => ?_)
          refine lv_goto (tgt := 31) hx hb dX5_common_87 (by decide) ?_
          exact ih31 (j + 1) _ _ _ (by omega) ⟨by omega, hP, hS, lv_sub hl [3, 4, 5, 6, 7, 8, 2, 1, 0] rfl⟩
        · refine lv_iconst (v := 1) hx hb dX5_common_76 (by decide) ?_
          refine lv_goto (tgt := 81) hx hb dX5_common_77 (by decide) ?_
          refine lv_iadd hx hb dX5_common_81 ?_
          refine zz_top (y := nI ((qNab S k o (qCk S k i o) j) + 1)) (nI_add (qNab S k o (qCk S k i o) j) 1) ?_
          refine zz_top (y := nI (qNab S k o (qCk S k i o) (j + 1))) (congrArg nI (qNab_y (Int32.not_lt.mp c_73))) ?_
          refine lv_istore (lv' := [(7, .int (nI (qNab S k o (qCk S k i o) (j + 1)))), (6, .int (nI (qBel S k o (qCk S k i o) (j + 1)))), (0, .ref (g 0)), (1, .int (nI k)), (2, .int (nI o)), (3, .int (qCmL S k o i)), (4, .int (nI i)), (5, .int (qCk S k i o)), (8, .int (nI j))]) hx hb dX5_common_82 hl (by decide) rfl (fun ls hl => ?_)
          refine lv_iinc (v := nI (j + 1)) (lv' := [(8, .int (nI (j + 1))), (7, .int (nI (qNab S k o (qCk S k i o) (j + 1)))), (6, .int (nI (qBel S k o (qCk S k i o) (j + 1)))), (0, .ref (g 0)), (1, .int (nI k)), (2, .int (nI o)), (3, .int (qCmL S k o i)), (4, .int (nI i)), (5, .int (qCk S k i o))]) hx hb dX5_common_84 hl (k := 8) rfl (nI_1 j) (by decide) rfl (fun ls hl => ?_)
          refine lv_goto (tgt := 31) hx hb dX5_common_87 (by decide) ?_
          exact ih31 (j + 1) _ _ _ (by omega) ⟨by omega, hP, hS, lv_sub hl [3, 4, 5, 6, 7, 8, 2, 1, 0] rfl⟩
      · refine lv_iconst (v := 1) hx hb dX5_common_53 (by decide) ?_
        refine lv_goto (tgt := 58) hx hb dX5_common_54 (by decide) ?_
        refine lv_iadd hx hb dX5_common_58 ?_
        refine zz_top (y := nI ((qBel S k o (qCk S k i o) j) + 1)) (nI_add (qBel S k o (qCk S k i o) j) 1) ?_
        refine zz_top (y := nI (qBel S k o (qCk S k i o) (j + 1))) (congrArg nI (qBel_y (Int32.not_le.mp c_50))) ?_
        refine lv_istore (lv' := [(6, .int (nI (qBel S k o (qCk S k i o) (j + 1)))), (0, .ref (g 0)), (1, .int (nI k)), (2, .int (nI o)), (3, .int (qCmL S k o i)), (4, .int (nI i)), (5, .int (qCk S k i o)), (7, .int (nI (qNab S k o (qCk S k i o) j))), (8, .int (nI j))]) hx hb dX5_common_59 hl (by decide) rfl (fun ls hl => ?_)
        refine lv_iload hx hb dX5_common_61 (lv_at hl 7 rfl) ?_
        refine lv_aload_n hx hb dX5_common_63 rfl (lv_at hl 1 rfl) ?_
        refine lv_iload_n hx hb dX5_common_64 rfl (lv_at hl 2 rfl) ?_
        refine lv_iload hx hb dX5_common_65 (lv_at hl 8 rfl) ?_
        refine lv_iload_n hx hb dX5_common_67 rfl (lv_at hl 3 rfl) ?_
        refine zr_calli (va_runV (As := [.int (nI k), .int (nI j), .int (nI o)]) (rest := [.int (nI (qNab S k o (qCk S k i o) j))]) ⟨hx, hb, hml, hown, hts⟩ (mX5_check l D y g S th sv ln at9 pl va hs k j o (by first | assumption | rfl | omega | decide) (by first | assumption | rfl | omega | decide) (by first | assumption | rfl | omega | decide)) (cwV 3 hts (zgV tw_395 tw_396 tw_397 tw_369 tw_390) rfl rfl rfl (by decide +kernel) ⟨Nat.le_of_ble_eq_true rfl, Nat.le_of_ble_eq_true rfl⟩) (zRO_preV hKN hP (ci := 5) (q0 := 0) rfl rfl [0, 1] rfl) rfl rfl hl.1 rfl (lv_room (Nat.le_of_ble_eq_true rfl)) dX5_common_68 ⟨Nat.zero_le _, Nat.zero_le _⟩) hS (fun r_4 H locs hw_68 hT hS => ?_)
        replace hP := hT _ _ hP
        obtain rfl : r_4 = qCk S k j o := hw_68
        refine lv_iload hx hb dX5_common_71 (lv_at hl 6 rfl) ?_
        refine lv_icmp_gt (tgt := 80) hx hb dX5_common_73 (by decide) (fun c_73 => ?_) (fun c_73 => ?_)
        · refine lv_iconst (v := 0) hx hb dX5_common_80 (by decide) ?_
          refine lv_iadd hx hb dX5_common_81 ?_
          refine zz_top (y := nI ((qNab S k o (qCk S k i o) j) + 0)) (nI_add (qNab S k o (qCk S k i o) j) 0) ?_
          refine zz_top (y := nI (qNab S k o (qCk S k i o) (j + 1))) (congrArg nI (qNab_n (Int32.not_le.mpr c_73))) ?_
          refine lv_istore (lv' := [(7, .int (nI (qNab S k o (qCk S k i o) (j + 1)))), (6, .int (nI (qBel S k o (qCk S k i o) (j + 1)))), (0, .ref (g 0)), (1, .int (nI k)), (2, .int (nI o)), (3, .int (qCmL S k o i)), (4, .int (nI i)), (5, .int (qCk S k i o)), (8, .int (nI j))]) hx hb dX5_common_82 hl (by decide) rfl (fun ls hl => ?_)
          refine lv_iinc (v := nI (j + 1)) (lv' := [(8, .int (nI (j + 1))), (7, .int (nI (qNab S k o (qCk S k i o) (j + 1)))), (6, .int (nI (qBel S k o (qCk S k i o) (j + 1)))), (0, .ref (g 0)), (1, .int (nI k)), (2, .int (nI o)), (3, .int (qCmL S k o i)), (4, .int (nI i)), (5, .int (qCk S k i o))]) hx hb dX5_common_84 hl (k := 8) rfl (nI_1 j) (by decide) rfl (fun ls hl => ?_)
          refine lv_goto (tgt := 31) hx hb dX5_common_87 (by decide) ?_
          exact ih31 (j + 1) _ _ _ (by omega) ⟨by omega, hP, hS, lv_sub hl [3, 4, 5, 6, 7, 8, 2, 1, 0] rfl⟩
        · refine lv_iconst (v := 1) hx hb dX5_common_76 (by decide) ?_
          refine lv_goto (tgt := 81) hx hb dX5_common_77 (by decide) ?_
          refine lv_iadd hx hb dX5_common_81 ?_
          refine zz_top (y := nI ((qNab S k o (qCk S k i o) j) + 1)) (nI_add (qNab S k o (qCk S k i o) j) 1) ?_
          refine zz_top (y := nI (qNab S k o (qCk S k i o) (j + 1))) (congrArg nI (qNab_y (Int32.not_lt.mp c_73))) ?_
          refine lv_istore (lv' := [(7, .int (nI (qNab S k o (qCk S k i o) (j + 1)))), (6, .int (nI (qBel S k o (qCk S k i o) (j + 1)))), (0, .ref (g 0)), (1, .int (nI k)), (2, .int (nI o)), (3, .int (qCmL S k o i)), (4, .int (nI i)), (5, .int (qCk S k i o)), (8, .int (nI j))]) hx hb dX5_common_82 hl (by decide) rfl (fun ls hl => ?_)
          refine lv_iinc (v := nI (j + 1)) (lv' := [(8, .int (nI (j + 1))), (7, .int (nI (qNab S k o (qCk S k i o) (j + 1)))), (6, .int (nI (qBel S k o (qCk S k i o) (j + 1)))), (0, .ref (g 0)), (1, .int (nI k)), (2, .int (nI o)), (3, .int (qCmL S k o i)), (4, .int (nI i)), (5, .int (qCk S k i o))]) hx hb dX5_common_84 hl (k := 8) rfl (nI_1 j) (by decide) rfl (fun ls hl => ?_)
          refine lv_goto (tgt := 31) hx hb dX5_common_87 (by decide) ?_
          exact ih31 (j + 1) _ _ _ (by omega) ⟨by omega, hP, hS, lv_sub hl [3, 4, 5, 6, 7, 8, 2, 1, 0] rfl⟩

set_option maxHeartbeats 4000000 in
set_option maxRecDepth 100000 in
theorem mX5_isSuspicious (l : Launch) (D : va_G) (y : Nat → ClassId) (g : Nat → Nat) (S : (Nat → Int32)) (th : Int32) (sv : Nat) (ln : Nat) (at9 : Nat) (pl : Nat) (va : Int32) (hs : Int64) (k : Nat) (v : Nat) (o : Nat) (hk : k < 6) (hl9 : v < 16) (hq : o < 2) : Met l yX5_isSuspicious (ws_ yX5_isSuspicious cX5_isSuspicious 4 (some .boolean)) ({ frames := 4, cells := 0, slots := 0, locals := 97 }) (va_Pc [.ref (g 0), .int (nI k), .int (nI v), .int (nI o)] (zRO D y [((g 0), .inr (5, [.int th, .ref (g 1), .int (nI sv), .ref (g 2), .ref (g 3), .int (nI ln), .int (nI at9), .int (nI pl), .int va, .long hs])), ((g 1), .inl (y 0, 4023, .inl S))])) (va_Qi (fun (r : Int32) (_ : Unit) => r = (if S 6 < qOff S k v o then 1 else 0)) (fun _ _ => True) (fun _ => False)) 0 0 (fun _ => False) := by
  refine Met.ofW (cc := cX5_isSuspicious) (maxL := 4) (ret := (some .boolean)) (by decide) rfl ?_
  intro p e s m args below meth c s₁ B hml hpre9
  obtain ⟨rfl, hP, hKN⟩ := hpre9
  have hK := hKN.1
  have hx := B.exec
  have hb := B.bytes
  have hr := B.returns
  have hts := atoms_spec (ws := (ws_ yX5_isSuspicious cX5_isSuspicious 4 (some .boolean))) B.pre
  have htg : ∀ w ∈ gT, w.before _ s = true := fun w h => hts w (List.mem_cons_of_mem _ h)
  have hown : s.vm.findClass RX5 = some m.cls := findClass_of_methodNamed B.named
  have hlocks := B.notSynchronized
  have hS : va_S (fun _ => False) s.heap s.heap [] := va_S.rf
  have hP : va_P D vwCl [((g 0), .inr (5, [.int th, .ref (g 1), .int (nI sv), .ref (g 2), .ref (g 3), .int (nI ln), .int (nI at9), .int (nI pl), .int va, .long hs])), ((g 1), .inl (y 0, 4023, .inl S))] s.heap := hP
  have hl := lv_entry ([.ref (g 0), .int (nI k), .int (nI v), .int (nI o)]) (n := 4) (Nat.le_of_ble_eq_true rfl)
  rw [lg_entry_eq]
  generalize (lg_sl ([.ref (g 0), .int (nI k), .int (nI v), .int (nI o)]) ++ List.replicate (4 - (lg_sl ([.ref (g 0), .int (nI k), .int (nI v), .int (nI o)])).length) Slot.unset).toArray = ls at hl ⊢
  have hl : lv_has ls 4 [(0, .ref (g 0)), (1, .int (nI k)), (2, .int (nI v)), (3, .int (nI o))] := hl
  refine lv_aload_n hx hb dX5_isSuspicious_0 rfl (lv_at hl 0 rfl) ?_
  refine lv_iload_n hx hb dX5_isSuspicious_1 rfl (lv_at hl 1 rfl) ?_
  refine lv_iload_n hx hb dX5_isSuspicious_2 rfl (lv_at hl 2 rfl) ?_
  refine lv_iload_n hx hb dX5_isSuspicious_3 rfl (lv_at hl 3 rfl) ?_
  refine zr_calli (va_runV (As := [.int (nI k), .int (nI v), .int (nI o)]) (rest := []) ⟨hx, hb, hml, hown, hts⟩ (mX5_check l D y g S th sv ln at9 pl va hs k v o (by first | assumption | rfl | omega | decide) (by first | assumption | rfl | omega | decide) (by first | assumption | rfl | omega | decide)) (cwV 3 hts (zgV tw_395 tw_396 tw_397 tw_369 tw_390) rfl rfl rfl (by decide +kernel) ⟨Nat.le_of_ble_eq_true rfl, Nat.le_of_ble_eq_true rfl⟩) (zRO_preV hKN hP (ci := 5) (q0 := 0) rfl rfl [0, 1] rfl) rfl rfl hl.1 rfl (lv_room (Nat.le_of_ble_eq_true rfl)) dX5_isSuspicious_4 ⟨Nat.zero_le _, Nat.zero_le _⟩) hS (fun r_1 H locs hw_4 hT hS => ?_)
  replace hP := hT _ _ hP
  obtain rfl : r_1 = qCk S k v o := hw_4
  refine lv_aload_n hx hb dX5_isSuspicious_7 rfl (lv_at hl 0 rfl) ?_
  refine lv_iload_n hx hb dX5_isSuspicious_8 rfl (lv_at hl 1 rfl) ?_
  refine lv_iload_n hx hb dX5_isSuspicious_9 rfl (lv_at hl 3 rfl) ?_
  refine zr_calli (va_runV (As := [.int (nI k), .int (nI o)]) (rest := [.int (qCk S k v o)]) ⟨hx, hb, hml, hown, hts⟩ (mX5_common l D y g S th sv ln at9 pl va hs k o (by first | assumption | rfl | omega | decide) (by first | assumption | rfl | omega | decide)) (cwV 2 hts (zgV tw_399 tw_400 tw_401 tw_369 tw_394) rfl rfl rfl (by decide +kernel) ⟨Nat.le_of_ble_eq_true rfl, Nat.le_of_ble_eq_true rfl⟩) (zRO_preV hKN hP (ci := 5) (q0 := 0) rfl rfl [0, 1] rfl) rfl rfl hl.1 rfl (lv_room (Nat.le_of_ble_eq_true rfl)) dX5_isSuspicious_10 ⟨Nat.zero_le _, Nat.zero_le _⟩) hS (fun r_2 H locs hw_10 hT hS => ?_)
  replace hP := hT _ _ hP
  obtain rfl : r_2 = qCm S k o := hw_10
  refine lv_isub hx hb dX5_isSuspicious_13 ?_
  refine zr_calli (va_runS (As := [.int ((qCk S k v o) - (qCm S k o))]) (rest := []) ⟨hx, hb, hml, hown, hts⟩ (mX5_size l ((qCk S k v o) - (qCm S k o))) (va_cwS 1 hts (zgS tw_402 tw_403 tw_369 tw_372) rfl rfl rfl (by decide +kernel) ⟨Nat.le_of_ble_eq_true rfl, Nat.le_of_ble_eq_true rfl⟩) zP_pre rfl rfl hl.1 rfl (lv_room (Nat.le_of_ble_eq_true rfl)) dX5_isSuspicious_14 ⟨Nat.zero_le _, Nat.zero_le _⟩) hS (fun r_3 H locs hw_14 hT hS => ?_)
  replace hP := hT _ _ hP
  obtain rfl : r_3 = qAbs ((qCk S k v o) - (qCm S k o)) := hw_14
  refine zz_top (y := qOff S k v o) (rfl) ?_
  refine lv_aload_n hx hb dX5_isSuspicious_17 rfl (lv_at hl 0 rfl) ?_
  refine va_get (D := D) (ci := 5) (v := .ref (g 1)) (C := RX5) (T := TX5) (N := 10) hx hb htg iX5 hown hK hP 0 rfl rfl 1 (by decide) (htg _ tw_359) (fun _ h9 => h9) rfl dX5_isSuspicious_18 ?_
  refine lv_bipush (v := 6) hx hb dX5_isSuspicious_21 (by decide) ?_
  refine va_iald hx hb hK hP 1 0 rfl rfl (vp_in_nI (n := 6) (by decide) (by decide)) dX5_isSuspicious_23 ?_
  refine zz_top (y := S 6) (congrArg S (by decide)) ?_
  refine lv_icmp_le (tgt := 31) hx hb dX5_isSuspicious_24 (by decide) (fun c_24 => ?_) (fun c_24 => ?_)
  · refine lv_iconst (v := 0) hx hb dX5_isSuspicious_31 (by decide) ?_
    exact W.zret (v := 0) hx hb hr (by first | rfl | (split <;> rfl)) (fun t ht hW => ⟨⟨0, (), rfl, (if_neg (Int32.not_lt.mpr c_24)).symm, trivial⟩, hS.F ht⟩) hS.2.2 dX5_isSuspicious_32
  · refine lv_iconst (v := 1) hx hb dX5_isSuspicious_27 (by decide) ?_
    refine lv_goto (tgt := 32) hx hb dX5_isSuspicious_28 (by decide) ?_
    exact W.zret (v := 1) hx hb hr (by first | rfl | (split <;> rfl)) (fun t ht hW => ⟨⟨1, (), rfl, (if_pos (Int32.not_le.mp c_24)).symm, trivial⟩, hS.F ht⟩) hS.2.2 dX5_isSuspicious_32

set_option maxHeartbeats 4000000 in
set_option maxRecDepth 100000 in
theorem mX5_tiltRead (l : Launch) (D : va_G) (y : Nat → ClassId) (g : Nat → Nat) (S : (Nat → Int32)) (th : Int32) (sv : Nat) (ln : Nat) (at9 : Nat) (pl : Nat) (va : Int32) (hs : Int64) (k : Nat) (v : Nat) (o : Nat) (hk : k < 6) (hl9 : v < 16) (hq : o < 2) : Met l yX5_tiltRead (ws_ yX5_tiltRead cX5_tiltRead 11 (some .int)) ({ frames := 5, cells := 0, slots := 0, locals := 120 }) (va_Pc [.ref (g 0), .int (nI k), .int (nI v), .int (nI o)] (zRO D y [((g 0), .inr (5, [.int th, .ref (g 1), .int (nI sv), .ref (g 2), .ref (g 3), .int (nI ln), .int (nI at9), .int (nI pl), .int va, .long hs])), ((g 1), .inl (y 0, 4023, .inl S))])) (va_Qi (fun (r : Int32) (_ : Unit) => r = qTr S k v o) (fun _ _ => True) (fun _ => False)) 0 0 (fun _ => False) := by
  refine Met.ofW (cc := cX5_tiltRead) (maxL := 11) (ret := (some .int)) (by decide) rfl ?_
  intro p e s m args below meth c s₁ B hml hpre9
  obtain ⟨rfl, hP, hKN⟩ := hpre9
  have hK := hKN.1
  have hx := B.exec
  have hb := B.bytes
  have hr := B.returns
  have hts := atoms_spec (ws := (ws_ yX5_tiltRead cX5_tiltRead 11 (some .int))) B.pre
  have htg : ∀ w ∈ gT, w.before _ s = true := fun w h => hts w (List.mem_cons_of_mem _ h)
  have hown : s.vm.findClass RX5 = some m.cls := findClass_of_methodNamed B.named
  have hlocks := B.notSynchronized
  have hS : va_S (fun _ => False) s.heap s.heap [] := va_S.rf
  have hP : va_P D vwCl [((g 0), .inr (5, [.int th, .ref (g 1), .int (nI sv), .ref (g 2), .ref (g 3), .int (nI ln), .int (nI at9), .int (nI pl), .int va, .long hs])), ((g 1), .inl (y 0, 4023, .inl S))] s.heap := hP
  have hl := lv_entry ([.ref (g 0), .int (nI k), .int (nI v), .int (nI o)]) (n := 11) (Nat.le_of_ble_eq_true rfl)
  rw [lg_entry_eq]
  generalize (lg_sl ([.ref (g 0), .int (nI k), .int (nI v), .int (nI o)]) ++ List.replicate (11 - (lg_sl ([.ref (g 0), .int (nI k), .int (nI v), .int (nI o)])).length) Slot.unset).toArray = ls at hl ⊢
  have hl : lv_has ls 11 [(0, .ref (g 0)), (1, .int (nI k)), (2, .int (nI v)), (3, .int (nI o))] := hl
  refine lv_iconst (v := 0) hx hb dX5_tiltRead_0 (by decide) ?_
  refine lv_istore (lv' := [(4, .int 0), (0, .ref (g 0)), (1, .int (nI k)), (2, .int (nI v)), (3, .int (nI o))]) hx hb dX5_tiltRead_1 hl (by decide) rfl (fun ls hl => ?_)
  refine lv_iconst (v := 0) hx hb dX5_tiltRead_3 (by decide) ?_
  refine lv_istore (lv' := [(5, .int 0), (4, .int 0), (0, .ref (g 0)), (1, .int (nI k)), (2, .int (nI v)), (3, .int (nI o))]) hx hb dX5_tiltRead_4 hl (by decide) rfl (fun ls hl => ?_)
  refine zloop (fun j : Nat => 7 - j) (fun j H locs ls => j ≤ k + 1 ∧ va_P D vwCl [((g 0), .inr (5, [.int th, .ref (g 1), .int (nI sv), .ref (g 2), .ref (g 3), .int (nI ln), .int (nI at9), .int (nI pl), .int va, .long hs])), ((g 1), .inl (y 0, 4023, .inl S))] H ∧ va_S (fun _ => False) s.heap H locs ∧ lv_has ls 11 [(0, .ref (g 0)), (1, .int (nI k)), (2, .int (nI v)), (3, .int (nI o)), (4, .int (qTs S v o j)), (5, .int (nI j))]) 6 (fun _ => 0) (fun _ => 0) ?_ (0) ⟨by omega, hP, hS, lv_sub hl [2, 3, 4, 5, 1, 0] rfl⟩
  clear hl hS hP
  rintro j H locs ls ⟨hj, hP, hS, hl⟩ ih6
  refine lv_iload hx hb dX5_tiltRead_6 (lv_at hl 5 rfl) ?_
  refine lv_iload_n hx hb dX5_tiltRead_8 rfl (lv_at hl 1 rfl) ?_
  refine lv_icmp_gt (tgt := 143) hx hb dX5_tiltRead_9 (by decide) (fun c_9 => ?_) (fun c_9 => ?_)
  · replace c_9 : k < j := (nI_ltI (a := k) (b := j) (by omega) (by omega)).mp c_9
    have e8 : j = k + 1 := by omega
    refine lv_iload hx hb dX5_tiltRead_143 (lv_at hl 4 rfl) ?_
    exact W.iret (v := (qTs S v o j)) hx hb hr (fun t ht hW => ⟨⟨qTs S v o j, (), rfl, congrArg (qTs S v o) e8, trivial⟩, hS.F ht⟩) hS.2.2 dX5_tiltRead_145
  · replace c_9 : ¬ k < j := fun h => c_9 ((nI_ltI (a := k) (b := j) (by omega) (by omega)).mpr h)
    refine lv_aload_n hx hb dX5_tiltRead_12 rfl (lv_at hl 0 rfl) ?_
    refine lv_iload hx hb dX5_tiltRead_13 (lv_at hl 5 rfl) ?_
    refine lv_iload_n hx hb dX5_tiltRead_15 rfl (lv_at hl 2 rfl) ?_
    refine lv_iload_n hx hb dX5_tiltRead_16 rfl (lv_at hl 3 rfl) ?_
    refine lv_iconst (v := 0) hx hb dX5_tiltRead_17 (by decide) ?_
    refine zr_calli (va_runV (As := [.int (nI j), .int (nI v), .int (nI o), .int 0]) (rest := []) ⟨hx, hb, hml, hown, hts⟩ (mX5_read l D y g S th sv ln at9 pl va hs j v o 0 (by first | assumption | rfl | omega | decide) (by first | assumption | rfl | omega | decide) (by first | assumption | rfl | omega | decide) (by first | assumption | rfl | omega | decide)) (cwV 4 hts (zgV tw_391 tw_392 tw_393 tw_369 tw_387) rfl rfl rfl (by decide +kernel) ⟨Nat.le_of_ble_eq_true rfl, Nat.le_of_ble_eq_true rfl⟩) (zRO_preV hKN hP (ci := 5) (q0 := 0) rfl rfl [0, 1] rfl) rfl rfl hl.1 rfl (lv_room (Nat.le_of_ble_eq_true rfl)) dX5_tiltRead_18 ⟨Nat.zero_le _, Nat.zero_le _⟩) hS (fun r_1 H locs hw_18 hT hS => ?_)
    replace hP := hT _ _ hP
    obtain rfl : r_1 = qRd S j v o 0 := hw_18
    refine lv_istore (lv' := [(6, .int (qRd S j v o 0)), (0, .ref (g 0)), (1, .int (nI k)), (2, .int (nI v)), (3, .int (nI o)), (4, .int (qTs S v o j)), (5, .int (nI j))]) hx hb dX5_tiltRead_21 hl (by decide) rfl (fun ls hl => ?_)
    refine lv_aload_n hx hb dX5_tiltRead_23 rfl (lv_at hl 1 rfl) ?_
    refine lv_iload hx hb dX5_tiltRead_24 (lv_at hl 6 rfl) ?_
    refine lv_iload_n hx hb dX5_tiltRead_26 rfl (lv_at hl 3 rfl) ?_
    refine lv_iload_n hx hb dX5_tiltRead_27 rfl (lv_at hl 4 rfl) ?_
    refine lv_iconst (v := 1) hx hb dX5_tiltRead_28 (by decide) ?_
    refine zr_calli (va_runV (As := [.int (nI j), .int (nI v), .int (nI o), .int 1]) (rest := []) ⟨hx, hb, hml, hown, hts⟩ (mX5_read l D y g S th sv ln at9 pl va hs j v o 1 (by first | assumption | rfl | omega | decide) (by first | assumption | rfl | omega | decide) (by first | assumption | rfl | omega | decide) (by first | assumption | rfl | omega | decide)) (cwV 4 hts (zgV tw_391 tw_392 tw_393 tw_369 tw_387) rfl rfl rfl (by decide +kernel) ⟨Nat.le_of_ble_eq_true rfl, Nat.le_of_ble_eq_true rfl⟩) (zRO_preV hKN hP (ci := 5) (q0 := 0) rfl rfl [0, 1] rfl) rfl rfl hl.1 rfl (lv_room (Nat.le_of_ble_eq_true rfl)) dX5_tiltRead_29 ⟨Nat.zero_le _, Nat.zero_le _⟩) hS (fun r_2 H locs hw_29 hT hS => ?_)
    replace hP := hT _ _ hP
    obtain rfl : r_2 = qRd S j v o 1 := hw_29
    refine lv_istore (lv' := [(7, .int (qRd S j v o 1)), (6, .int (qRd S j v o 0)), (0, .ref (g 0)), (1, .int (nI k)), (2, .int (nI v)), (3, .int (nI o)), (4, .int (qTs S v o j)), (5, .int (nI j))]) hx hb dX5_tiltRead_32 hl (by decide) rfl (fun ls hl => ?_)
    refine lv_iload hx hb dX5_tiltRead_34 (lv_at hl 6 rfl) ?_
    refine lv_istore (lv' := [(8, .int (qTs S v o j)), (7, .int (qRd S j v o 1)), (6, .int (qRd S j v o 0)), (0, .ref (g 0)), (1, .int (nI k)), (2, .int (nI v)), (3, .int (nI o)), (4, .int (qTs S v o j)), (5, .int (nI j))]) hx hb dX5_tiltRead_36 hl (by decide) rfl (fun ls hl => ?_)
    refine lv_iload hx hb dX5_tiltRead_38 (lv_at hl 2 rfl) ?_
    refine lv_iload hx hb dX5_tiltRead_40 (lv_at hl 1 rfl) ?_
    refine lv_isub hx hb dX5_tiltRead_42 ?_
    refine lv_iconst (v := 2) hx hb dX5_tiltRead_43 (by decide) ?_
    refine lv_idiv hx hb dX5_tiltRead_44 (by decide) ?_
    refine lv_istore (lv' := [(4, .int (((qRd S j v o 0) - (qRd S j v o 1)) / 2)), (8, .int (qTs S v o j)), (7, .int (qRd S j v o 1)), (6, .int (qRd S j v o 0)), (0, .ref (g 0)), (1, .int (nI k)), (2, .int (nI v)), (3, .int (nI o)), (5, .int (nI j))]) hx hb dX5_tiltRead_45 hl (by decide) rfl (fun ls hl => ?_)
    refine lv_aload_n hx hb dX5_tiltRead_47 rfl (lv_at hl 4 rfl) ?_
    refine va_get (D := D) (ci := 5) (v := .ref (g 1)) (C := RX5) (T := TX5) (N := 10) hx hb htg iX5 hown hK hP 0 rfl rfl 1 (by decide) (htg _ tw_359) (fun _ h9 => h9) rfl dX5_tiltRead_48 ?_
    refine lv_bipush (v := 7) hx hb dX5_tiltRead_51 (by decide) ?_
    refine va_iald hx hb hK hP 1 0 rfl rfl (vp_in_nI (n := 7) (by decide) (by decide)) dX5_tiltRead_53 ?_
    refine zz_top (y := S 7) (congrArg S (by decide)) ?_
    refine lv_iconst (v := 1) hx hb dX5_tiltRead_54 (by decide) ?_
    refine lv_icmp_ne (tgt := 137) hx hb dX5_tiltRead_55 (by decide) (fun c_55 => ?_) (fun c_55 => ?_)
    · have hl : lv_has ls 11 [(4, .int (qTs S v o (j + 1))), (8, .int (qTs S v o j)), (7, .int (qRd S j v o 1)), (6, .int (qRd S j v o 0)), (0, .ref (g 0)), (1, .int (nI k)), (2, .int (nI v)), (3, .int (nI o)), (5, .int (nI j))] := by rw [show (qTs S v o (j + 1) : Int32) = ((qRd S j v o 0) - (qRd S j v o 1)) / 2 from (by show _ = qFresh S j v o (qTs S v o j); unfold qFresh; rw [if_neg (fun h => c_55 h.1)] : (((qRd S j v o 0) - (qRd S j v o 1)) / 2 : Int32) = qTs S v o (j + 1)).symm]; exact hl
      refine lv_iinc (v := nI (j + 1)) (lv' := [(5, .int (nI (j + 1))), (4, .int (qTs S v o (j + 1))), (8, .int (qTs S v o j)), (7, .int (qRd S j v o 1)), (6, .int (qRd S j v o 0)), (0, .ref (g 0)), (1, .int (nI k)), (2, .int (nI v)), (3, .int (nI o))]) hx hb dX5_tiltRead_137 hl (k := 8) rfl (nI_1 j) (by decide) rfl (fun ls hl => ?_)
      refine lv_goto (tgt := 6) hx hb dX5_tiltRead_140 (by decide) ?_
      exact ih6 (j + 1) _ _ _ (by omega) ⟨by omega, hP, hS, lv_sub hl [5, 6, 7, 8, 1, 0] rfl⟩
    · refine lv_aload_n hx hb dX5_tiltRead_58 rfl (lv_at hl 4 rfl) ?_
      refine lv_iload hx hb dX5_tiltRead_59 (lv_at hl 8 rfl) ?_
      refine lv_iload_n hx hb dX5_tiltRead_61 rfl (lv_at hl 6 rfl) ?_
      refine lv_iload_n hx hb dX5_tiltRead_62 rfl (lv_at hl 7 rfl) ?_
      refine zr_calli (va_runV (As := [.int (nI j), .int (nI v), .int (nI o)]) (rest := []) ⟨hx, hb, hml, hown, hts⟩ (mX5_isSuspicious l D y g S th sv ln at9 pl va hs j v o (by first | assumption | rfl | omega | decide) (by first | assumption | rfl | omega | decide) (by first | assumption | rfl | omega | decide)) (cwV 3 hts (zgV tw_405 tw_406 tw_407 tw_369 tw_398) rfl rfl rfl (by decide +kernel) ⟨Nat.le_of_ble_eq_true rfl, Nat.le_of_ble_eq_true rfl⟩) (zRO_preV hKN hP (ci := 5) (q0 := 0) rfl rfl [0, 1] rfl) rfl rfl hl.1 rfl (lv_room (Nat.le_of_ble_eq_true rfl)) dX5_tiltRead_63 ⟨Nat.zero_le _, Nat.zero_le _⟩) hS (fun r_3 H locs hw_63 hT hS => ?_)
      replace hP := hT _ _ hP
      obtain rfl : r_3 = (if S 6 < qOff S j v o then (1 : Int32) else 0) := hw_63
      refine lv_if_eq (tgt := 137) hx hb dX5_tiltRead_66 (by decide) (fun c_66 => ?_) (fun c_66 => ?_)
      · replace c_66 := zb0.mp c_66
        have hl : lv_has ls 11 [(4, .int (qTs S v o (j + 1))), (8, .int (qTs S v o j)), (7, .int (qRd S j v o 1)), (6, .int (qRd S j v o 0)), (0, .ref (g 0)), (1, .int (nI k)), (2, .int (nI v)), (3, .int (nI o)), (5, .int (nI j))] := by rw [show (qTs S v o (j + 1) : Int32) = ((qRd S j v o 0) - (qRd S j v o 1)) / 2 from (by show _ = qFresh S j v o (qTs S v o j); unfold qFresh; rw [if_neg (fun h => c_66 h.2)] : (((qRd S j v o 0) - (qRd S j v o 1)) / 2 : Int32) = qTs S v o (j + 1)).symm]; exact hl
        refine lv_iinc (v := nI (j + 1)) (lv' := [(5, .int (nI (j + 1))), (4, .int (qTs S v o (j + 1))), (8, .int (qTs S v o j)), (7, .int (qRd S j v o 1)), (6, .int (qRd S j v o 0)), (0, .ref (g 0)), (1, .int (nI k)), (2, .int (nI v)), (3, .int (nI o))]) hx hb dX5_tiltRead_137 hl (k := 8) rfl (nI_1 j) (by decide) rfl (fun ls hl => ?_)
        refine lv_goto (tgt := 6) hx hb dX5_tiltRead_140 (by decide) ?_
        exact ih6 (j + 1) _ _ _ (by omega) ⟨by omega, hP, hS, lv_sub hl [5, 6, 7, 8, 1, 0] rfl⟩
      · replace c_66 := zb1.mp c_66
        refine lv_aload_n hx hb dX5_tiltRead_69 rfl (lv_at hl 4 rfl) ?_
        refine lv_iload hx hb dX5_tiltRead_70 (lv_at hl 8 rfl) ?_
        refine lv_iload_n hx hb dX5_tiltRead_72 rfl (lv_at hl 7 rfl) ?_
        refine zr_calli (va_runV (As := [.int (nI j), .int (nI o)]) (rest := []) ⟨hx, hb, hml, hown, hts⟩ (mX5_common l D y g S th sv ln at9 pl va hs j o (by first | assumption | rfl | omega | decide) (by first | assumption | rfl | omega | decide)) (cwV 2 hts (zgV tw_399 tw_400 tw_401 tw_369 tw_394) rfl rfl rfl (by decide +kernel) ⟨Nat.le_of_ble_eq_true rfl, Nat.le_of_ble_eq_true rfl⟩) (zRO_preV hKN hP (ci := 5) (q0 := 0) rfl rfl [0, 1] rfl) rfl rfl hl.1 rfl (lv_room (Nat.le_of_ble_eq_true rfl)) dX5_tiltRead_73 ⟨Nat.zero_le _, Nat.zero_le _⟩) hS (fun r_4 H locs hw_73 hT hS => ?_)
        replace hP := hT _ _ hP
        obtain rfl : r_4 = qCm S j o := hw_73
        refine lv_iconst (v := 2) hx hb dX5_tiltRead_76 (by decide) ?_
        refine lv_idiv hx hb dX5_tiltRead_77 (by decide) ?_
        refine lv_istore (lv' := [(9, .int ((qCm S j o) / 2)), (4, .int (((qRd S j v o 0) - (qRd S j v o 1)) / 2)), (8, .int (qTs S v o j)), (7, .int (qRd S j v o 1)), (6, .int (qRd S j v o 0)), (0, .ref (g 0)), (1, .int (nI k)), (2, .int (nI v)), (3, .int (nI o)), (5, .int (nI j))]) hx hb dX5_tiltRead_78 hl (by decide) rfl (fun ls hl => ?_)
        refine lv_iload hx hb dX5_tiltRead_80 (lv_at hl 9 rfl) ?_
        refine lv_if_le (tgt := 114) hx hb dX5_tiltRead_82 (by decide) (fun c_82 => ?_) (fun c_82 => ?_)
        · replace c_82 : j ≤ 0 := (nI_leI (a := j) (b := 0) (by omega) (by omega)).mp c_82
          refine lv_iconst (v := 0) hx hb dX5_tiltRead_114 (by decide) ?_
          refine lv_istore (lv' := [(10, .int 0), (9, .int ((qCm S j o) / 2)), (4, .int (((qRd S j v o 0) - (qRd S j v o 1)) / 2)), (8, .int (qTs S v o j)), (7, .int (qRd S j v o 1)), (6, .int (qRd S j v o 0)), (0, .ref (g 0)), (1, .int (nI k)), (2, .int (nI v)), (3, .int (nI o)), (5, .int (nI j))]) hx hb dX5_tiltRead_115 hl (by decide) rfl (fun ls hl => ?_)
          refine lv_iload hx hb dX5_tiltRead_117 (lv_at hl 0 rfl) ?_
          refine lv_if_eq (tgt := 130) hx hb dX5_tiltRead_119 (by decide) (fun _ => ?_) (fun c_119 => absurd (by decide) c_119)
          refine lv_iload hx hb dX5_tiltRead_130 (lv_at hl 5 rfl) ?_
          refine lv_iload hx hb dX5_tiltRead_132 (lv_at hl 1 rfl) ?_
          refine lv_isub hx hb dX5_tiltRead_134 ?_
          refine lv_istore (lv' := [(4, .int ((qRd S j v o 0) - ((qCm S j o) / 2))), (10, .int 0), (9, .int ((qCm S j o) / 2)), (8, .int (qTs S v o j)), (7, .int (qRd S j v o 1)), (6, .int (qRd S j v o 0)), (0, .ref (g 0)), (1, .int (nI k)), (2, .int (nI v)), (3, .int (nI o)), (5, .int (nI j))]) hx hb dX5_tiltRead_135 hl (by decide) rfl (fun ls hl => ?_)
          have hl : lv_has ls 11 [(4, .int (qTs S v o (j + 1))), (10, .int 0), (9, .int ((qCm S j o) / 2)), (8, .int (qTs S v o j)), (7, .int (qRd S j v o 1)), (6, .int (qRd S j v o 0)), (0, .ref (g 0)), (1, .int (nI k)), (2, .int (nI v)), (3, .int (nI o)), (5, .int (nI j))] := by rw [show (qTs S v o (j + 1) : Int32) = (qRd S j v o 0) - ((qCm S j o) / 2) from (by show _ = qFresh S j v o (qTs S v o j); unfold qFresh; rw [if_pos ⟨c_55, c_66⟩, if_neg (fun h => absurd h.1 (by omega))] : ((qRd S j v o 0) - ((qCm S j o) / 2) : Int32) = qTs S v o (j + 1)).symm]; exact hl
          refine lv_iinc (v := nI (j + 1)) (lv' := [(5, .int (nI (j + 1))), (4, .int (qTs S v o (j + 1))), (10, .int 0), (9, .int ((qCm S j o) / 2)), (8, .int (qTs S v o j)), (7, .int (qRd S j v o 1)), (6, .int (qRd S j v o 0)), (0, .ref (g 0)), (1, .int (nI k)), (2, .int (nI v)), (3, .int (nI o))]) hx hb dX5_tiltRead_137 hl (k := 10) rfl (nI_1 j) (by decide) rfl (fun ls hl => ?_)
          refine lv_goto (tgt := 6) hx hb dX5_tiltRead_140 (by decide) ?_
          exact ih6 (j + 1) _ _ _ (by omega) ⟨by omega, hP, hS, lv_sub hl [7, 8, 9, 10, 1, 0] rfl⟩
        · replace c_82 : ¬ j ≤ 0 := fun h => c_82 ((nI_leI (a := j) (b := 0) (by omega) (by omega)).mpr h)
          refine lv_iload hx hb dX5_tiltRead_85 (lv_at hl 0 rfl) ?_
          refine lv_iload hx hb dX5_tiltRead_87 (lv_at hl 3 rfl) ?_
          refine lv_isub hx hb dX5_tiltRead_89 ?_
          refine lv_iload hx hb dX5_tiltRead_90 (lv_at hl 2 rfl) ?_
          refine lv_isub hx hb dX5_tiltRead_92 ?_
          refine zr_calli (va_runS (As := [.int ((((qCm S j o) / 2) - (qRd S j v o 1)) - (qTs S v o j))]) (rest := []) ⟨hx, hb, hml, hown, hts⟩ (mX5_size l ((((qCm S j o) / 2) - (qRd S j v o 1)) - (qTs S v o j))) (va_cwS 1 hts (zgS tw_402 tw_403 tw_369 tw_372) rfl rfl rfl (by decide +kernel) ⟨Nat.le_of_ble_eq_true rfl, Nat.le_of_ble_eq_true rfl⟩) zP_pre rfl rfl hl.1 rfl (lv_room (Nat.le_of_ble_eq_true rfl)) dX5_tiltRead_93 ⟨Nat.zero_le _, Nat.zero_le _⟩) hS (fun r_5 H locs hw_93 hT hS => ?_)
          replace hP := hT _ _ hP
          obtain rfl : r_5 = qAbs ((((qCm S j o) / 2) - (qRd S j v o 1)) - (qTs S v o j)) := hw_93
          refine lv_iload hx hb dX5_tiltRead_96 (lv_at hl 4 rfl) ?_
          refine lv_iload hx hb dX5_tiltRead_98 (lv_at hl 0 rfl) ?_
          refine lv_isub hx hb dX5_tiltRead_100 ?_
          refine lv_iload hx hb dX5_tiltRead_101 (lv_at hl 2 rfl) ?_
          refine lv_isub hx hb dX5_tiltRead_103 ?_
          refine zr_calli (va_runS (As := [.int (((qRd S j v o 0) - ((qCm S j o) / 2)) - (qTs S v o j))]) (rest := [.int (qAbs ((((qCm S j o) / 2) - (qRd S j v o 1)) - (qTs S v o j)))]) ⟨hx, hb, hml, hown, hts⟩ (mX5_size l (((qRd S j v o 0) - ((qCm S j o) / 2)) - (qTs S v o j))) (va_cwS 1 hts (zgS tw_402 tw_403 tw_369 tw_372) rfl rfl rfl (by decide +kernel) ⟨Nat.le_of_ble_eq_true rfl, Nat.le_of_ble_eq_true rfl⟩) zP_pre rfl rfl hl.1 rfl (lv_room (Nat.le_of_ble_eq_true rfl)) dX5_tiltRead_104 ⟨Nat.zero_le _, Nat.zero_le _⟩) hS (fun r_6 H locs hw_104 hT hS => ?_)
          replace hP := hT _ _ hP
          obtain rfl : r_6 = qAbs (((qRd S j v o 0) - ((qCm S j o) / 2)) - (qTs S v o j)) := hw_104
          refine lv_icmp_ge (tgt := 114) hx hb dX5_tiltRead_107 (by decide) (fun c_107 => ?_) (fun c_107 => ?_)
          · refine lv_iconst (v := 0) hx hb dX5_tiltRead_114 (by decide) ?_
            refine lv_istore (lv' := [(10, .int 0), (9, .int ((qCm S j o) / 2)), (4, .int (((qRd S j v o 0) - (qRd S j v o 1)) / 2)), (8, .int (qTs S v o j)), (7, .int (qRd S j v o 1)), (6, .int (qRd S j v o 0)), (0, .ref (g 0)), (1, .int (nI k)), (2, .int (nI v)), (3, .int (nI o)), (5, .int (nI j))]) hx hb dX5_tiltRead_115 hl (by decide) rfl (fun ls hl => ?_)
            refine lv_iload hx hb dX5_tiltRead_117 (lv_at hl 0 rfl) ?_
            refine lv_if_eq (tgt := 130) hx hb dX5_tiltRead_119 (by decide) (fun _ => ?_) (fun c_119 => absurd (by decide) c_119)
            refine lv_iload hx hb dX5_tiltRead_130 (lv_at hl 5 rfl) ?_
            refine lv_iload hx hb dX5_tiltRead_132 (lv_at hl 1 rfl) ?_
            refine lv_isub hx hb dX5_tiltRead_134 ?_
            refine lv_istore (lv' := [(4, .int ((qRd S j v o 0) - ((qCm S j o) / 2))), (10, .int 0), (9, .int ((qCm S j o) / 2)), (8, .int (qTs S v o j)), (7, .int (qRd S j v o 1)), (6, .int (qRd S j v o 0)), (0, .ref (g 0)), (1, .int (nI k)), (2, .int (nI v)), (3, .int (nI o)), (5, .int (nI j))]) hx hb dX5_tiltRead_135 hl (by decide) rfl (fun ls hl => ?_)
            have hl : lv_has ls 11 [(4, .int (qTs S v o (j + 1))), (10, .int 0), (9, .int ((qCm S j o) / 2)), (8, .int (qTs S v o j)), (7, .int (qRd S j v o 1)), (6, .int (qRd S j v o 0)), (0, .ref (g 0)), (1, .int (nI k)), (2, .int (nI v)), (3, .int (nI o)), (5, .int (nI j))] := by rw [show (qTs S v o (j + 1) : Int32) = (qRd S j v o 0) - ((qCm S j o) / 2) from (by show _ = qFresh S j v o (qTs S v o j); unfold qFresh; rw [if_pos ⟨c_55, c_66⟩, if_neg (fun h => absurd h.2 (Int32.not_lt.mpr c_107))] : ((qRd S j v o 0) - ((qCm S j o) / 2) : Int32) = qTs S v o (j + 1)).symm]; exact hl
            refine lv_iinc (v := nI (j + 1)) (lv' := [(5, .int (nI (j + 1))), (4, .int (qTs S v o (j + 1))), (10, .int 0), (9, .int ((qCm S j o) / 2)), (8, .int (qTs S v o j)), (7, .int (qRd S j v o 1)), (6, .int (qRd S j v o 0)), (0, .ref (g 0)), (1, .int (nI k)), (2, .int (nI v)), (3, .int (nI o))]) hx hb dX5_tiltRead_137 hl (k := 10) rfl (nI_1 j) (by decide) rfl (fun ls hl => ?_)
            refine lv_goto (tgt := 6) hx hb dX5_tiltRead_140 (by decide) ?_
            exact ih6 (j + 1) _ _ _ (by omega) ⟨by omega, hP, hS, lv_sub hl [7, 8, 9, 10, 1, 0] rfl⟩
          · refine lv_iconst (v := 1) hx hb dX5_tiltRead_110 (by decide) ?_
            refine lv_goto (tgt := 115) hx hb dX5_tiltRead_111 (by decide) ?_
            refine lv_istore (lv' := [(10, .int 1), (9, .int ((qCm S j o) / 2)), (4, .int (((qRd S j v o 0) - (qRd S j v o 1)) / 2)), (8, .int (qTs S v o j)), (7, .int (qRd S j v o 1)), (6, .int (qRd S j v o 0)), (0, .ref (g 0)), (1, .int (nI k)), (2, .int (nI v)), (3, .int (nI o)), (5, .int (nI j))]) hx hb dX5_tiltRead_115 hl (by decide) rfl (fun ls hl => ?_)
            refine lv_iload hx hb dX5_tiltRead_117 (lv_at hl 0 rfl) ?_
            refine lv_if_eq (tgt := 130) hx hb dX5_tiltRead_119 (by decide) (fun c_119 => absurd c_119 (by decide)) (fun _ => ?_)
            refine lv_iload hx hb dX5_tiltRead_122 (lv_at hl 1 rfl) ?_
            refine lv_iload hx hb dX5_tiltRead_124 (lv_at hl 4 rfl) ?_
            refine lv_isub hx hb dX5_tiltRead_126 ?_
            refine lv_goto (tgt := 135) hx hb dX5_tiltRead_127 (by decide) ?_
            refine lv_istore (lv' := [(4, .int (((qCm S j o) / 2) - (qRd S j v o 1))), (10, .int 1), (9, .int ((qCm S j o) / 2)), (8, .int (qTs S v o j)), (7, .int (qRd S j v o 1)), (6, .int (qRd S j v o 0)), (0, .ref (g 0)), (1, .int (nI k)), (2, .int (nI v)), (3, .int (nI o)), (5, .int (nI j))]) hx hb dX5_tiltRead_135 hl (by decide) rfl (fun ls hl => ?_)
            have hl : lv_has ls 11 [(4, .int (qTs S v o (j + 1))), (10, .int 1), (9, .int ((qCm S j o) / 2)), (8, .int (qTs S v o j)), (7, .int (qRd S j v o 1)), (6, .int (qRd S j v o 0)), (0, .ref (g 0)), (1, .int (nI k)), (2, .int (nI v)), (3, .int (nI o)), (5, .int (nI j))] := by rw [show (qTs S v o (j + 1) : Int32) = ((qCm S j o) / 2) - (qRd S j v o 1) from (by show _ = qFresh S j v o (qTs S v o j); unfold qFresh; rw [if_pos ⟨c_55, c_66⟩, if_pos ⟨by omega, Int32.not_le.mp c_107⟩] : (((qCm S j o) / 2) - (qRd S j v o 1) : Int32) = qTs S v o (j + 1)).symm]; exact hl
            refine lv_iinc (v := nI (j + 1)) (lv' := [(5, .int (nI (j + 1))), (4, .int (qTs S v o (j + 1))), (10, .int 1), (9, .int ((qCm S j o) / 2)), (8, .int (qTs S v o j)), (7, .int (qRd S j v o 1)), (6, .int (qRd S j v o 0)), (0, .ref (g 0)), (1, .int (nI k)), (2, .int (nI v)), (3, .int (nI o))]) hx hb dX5_tiltRead_137 hl (k := 10) rfl (nI_1 j) (by decide) rfl (fun ls hl => ?_)
            refine lv_goto (tgt := 6) hx hb dX5_tiltRead_140 (by decide) ?_
            exact ih6 (j + 1) _ _ _ (by omega) ⟨by omega, hP, hS, lv_sub hl [7, 8, 9, 10, 1, 0] rfl⟩

set_option maxHeartbeats 4000000 in
set_option maxRecDepth 100000 in
theorem mX5_tiltTold (l : Launch) (D : va_G) (y : Nat → ClassId) (g : Nat → Nat) (S : (Nat → Int32)) (th : Int32) (sv : Nat) (ln : Nat) (at9 : Nat) (pl : Nat) (va : Int32) (hs : Int64) (k : Nat) (v : Nat) (o : Nat) (hk : k < 6) (hl9 : v < 16) (hq : o < 2) (hTu : hTq S) : Met l yX5_tiltTold (ws_ yX5_tiltTold cX5_tiltTold 6 (some .int)) ({ frames := 6, cells := 0, slots := 0, locals := 150 }) (va_Pc [.ref (g 0), .int (nI k), .int (nI v), .int (nI o)] (zRO D y [((g 0), .inr (5, [.int th, .ref (g 1), .int (nI sv), .ref (g 2), .ref (g 3), .int (nI ln), .int (nI at9), .int (nI pl), .int va, .long hs])), ((g 1), .inl (y 0, 4023, .inl S))])) (va_Qi (fun (r : Int32) (_ : Unit) => r = qTt S k v o) (fun _ _ => True) (fun _ => False)) 0 0 (fun _ => False) := by
  refine Met.ofW (cc := cX5_tiltTold) (maxL := 6) (ret := (some .int)) (by decide) rfl ?_
  intro p e s m args below meth c s₁ B hml hpre9
  obtain ⟨rfl, hP, hKN⟩ := hpre9
  have hK := hKN.1
  have hx := B.exec
  have hb := B.bytes
  have hr := B.returns
  have hts := atoms_spec (ws := (ws_ yX5_tiltTold cX5_tiltTold 6 (some .int))) B.pre
  have htg : ∀ w ∈ gT, w.before _ s = true := fun w h => hts w (List.mem_cons_of_mem _ h)
  have hown : s.vm.findClass RX5 = some m.cls := findClass_of_methodNamed B.named
  have hlocks := B.notSynchronized
  have hS : va_S (fun _ => False) s.heap s.heap [] := va_S.rf
  have hP : va_P D vwCl [((g 0), .inr (5, [.int th, .ref (g 1), .int (nI sv), .ref (g 2), .ref (g 3), .int (nI ln), .int (nI at9), .int (nI pl), .int va, .long hs])), ((g 1), .inl (y 0, 4023, .inl S))] s.heap := hP
  have hl := lv_entry ([.ref (g 0), .int (nI k), .int (nI v), .int (nI o)]) (n := 6) (Nat.le_of_ble_eq_true rfl)
  rw [lg_entry_eq]
  generalize (lg_sl ([.ref (g 0), .int (nI k), .int (nI v), .int (nI o)]) ++ List.replicate (6 - (lg_sl ([.ref (g 0), .int (nI k), .int (nI v), .int (nI o)])).length) Slot.unset).toArray = ls at hl ⊢
  have hl : lv_has ls 6 [(0, .ref (g 0)), (1, .int (nI k)), (2, .int (nI v)), (3, .int (nI o))] := hl
  refine lv_aload_n hx hb dX5_tiltTold_0 rfl (lv_at hl 0 rfl) ?_
  refine va_get (D := D) (ci := 5) (v := .ref (g 1)) (C := RX5) (T := TX5) (N := 10) hx hb htg iX5 hown hK hP 0 rfl rfl 1 (by decide) (htg _ tw_359) (fun _ h9 => h9) rfl dX5_tiltTold_1 ?_
  refine lv_bipush (v := 8) hx hb dX5_tiltTold_4 (by decide) ?_
  refine va_iald hx hb hK hP 1 0 rfl rfl (vp_in_nI (n := 8) (by decide) (by decide)) dX5_tiltTold_6 ?_
  refine zz_top (y := S 8) (congrArg S (by decide)) ?_
  refine lv_if_ne (tgt := 18) hx hb dX5_tiltTold_7 (by decide) (fun c_7 => ?_) (fun c_7 => ?_)
  · refine lv_aload_n hx hb dX5_tiltTold_18 rfl (lv_at hl 0 rfl) ?_
    refine lv_iload_n hx hb dX5_tiltTold_19 rfl (lv_at hl 2 rfl) ?_
    refine zr_calli (va_runV (As := [.int (nI v)]) (rest := []) ⟨hx, hb, hml, hown, hts⟩ (mX5_turnOf l D y g S th sv ln at9 pl va hs v (by first | assumption | rfl | omega | decide)) (cwV 1 hts (zgV tw_376 tw_377 tw_378 tw_369 tw_374) rfl rfl rfl (by decide +kernel) ⟨Nat.le_of_ble_eq_true rfl, Nat.le_of_ble_eq_true rfl⟩) (zRO_preV hKN hP (ci := 5) (q0 := 0) rfl rfl [0, 1] rfl) rfl rfl hl.1 rfl (lv_room (Nat.le_of_ble_eq_true rfl)) dX5_tiltTold_20 ⟨Nat.zero_le _, Nat.zero_le _⟩) hS (fun r_1 H locs hw_20 hT hS => ?_)
    replace hP := hT _ _ hP
    obtain rfl : r_1 = S (11 + 3 * v) := hw_20
    obtain ⟨htt, ht4⟩ := hTu v hl9
    refine zz_top (y := nI (qTq S v)) (htt) ?_
    refine lv_istore (lv' := [(4, .int (nI (qTq S v))), (0, .ref (g 0)), (1, .int (nI k)), (2, .int (nI v)), (3, .int (nI o))]) hx hb dX5_tiltTold_23 hl (by decide) rfl (fun ls hl => ?_)
    refine lv_iload hx hb dX5_tiltTold_25 (lv_at hl 0 rfl) ?_
    refine lv_iload_n hx hb dX5_tiltTold_27 rfl (lv_at hl 4 rfl) ?_
    refine lv_iadd hx hb dX5_tiltTold_28 ?_
    refine zz_top (y := nI ((qTq S v) + o)) (nI_add (qTq S v) o) ?_
    refine lv_iconst (v := 2) hx hb dX5_tiltTold_29 (by decide) ?_
    refine lv_irem hx hb dX5_tiltTold_30 (by decide) ?_
    refine zz_top (y := nI (((qTq S v) + o) % 2)) (pk_rem (by omega) (by decide) (by decide)) ?_
    refine lv_istore (lv' := [(5, .int (nI (((qTq S v) + o) % 2))), (4, .int (nI (qTq S v))), (0, .ref (g 0)), (1, .int (nI k)), (2, .int (nI v)), (3, .int (nI o))]) hx hb dX5_tiltTold_31 hl (by decide) rfl (fun ls hl => ?_)
    refine lv_iload hx hb dX5_tiltTold_33 (lv_at hl 1 rfl) ?_
    refine lv_iload hx hb dX5_tiltTold_35 (lv_at hl 0 rfl) ?_
    refine lv_iadd hx hb dX5_tiltTold_37 ?_
    refine zz_top (y := nI ((qTq S v) + (((qTq S v) + o) % 2))) (nI_add (qTq S v) (((qTq S v) + o) % 2)) ?_
    refine lv_iconst (v := 4) hx hb dX5_tiltTold_38 (by decide) ?_
    refine lv_irem hx hb dX5_tiltTold_39 (by decide) ?_
    refine zz_top (y := nI (((qTq S v) + (((qTq S v) + o) % 2)) % 4)) (pk_rem (by omega) (by decide) (by decide)) ?_
    refine lv_iconst (v := 2) hx hb dX5_tiltTold_40 (by decide) ?_
    refine lv_icmp_ge (tgt := 55) hx hb dX5_tiltTold_41 (by decide) (fun c_41 => ?_) (fun c_41 => ?_)
    · replace c_41 : 2 ≤ (((qTq S v) + (((qTq S v) + o) % 2)) % 4) := (nI_leI (a := 2) (b := (((qTq S v) + (((qTq S v) + o) % 2)) % 4)) (by omega) (by omega)).mp c_41
      refine lv_aload_n hx hb dX5_tiltTold_55 rfl (lv_at hl 2 rfl) ?_
      refine lv_iload_n hx hb dX5_tiltTold_56 rfl (lv_at hl 3 rfl) ?_
      refine lv_iload_n hx hb dX5_tiltTold_57 rfl (lv_at hl 4 rfl) ?_
      refine lv_iload hx hb dX5_tiltTold_58 (lv_at hl 0 rfl) ?_
      refine zr_calli (va_runV (As := [.int (nI k), .int (nI v), .int (nI (((qTq S v) + o) % 2))]) (rest := []) ⟨hx, hb, hml, hown, hts⟩ (mX5_tiltRead l D y g S th sv ln at9 pl va hs k v (((qTq S v) + o) % 2) (by first | assumption | rfl | omega | decide) (by first | assumption | rfl | omega | decide) (by first | assumption | rfl | omega | decide)) (cwV 3 hts (zgV tw_409 tw_410 tw_411 tw_369 tw_404) rfl rfl rfl (by decide +kernel) ⟨Nat.le_of_ble_eq_true rfl, Nat.le_of_ble_eq_true rfl⟩) (zRO_preV hKN hP (ci := 5) (q0 := 0) rfl rfl [0, 1] rfl) rfl rfl hl.1 rfl (lv_room (Nat.le_of_ble_eq_true rfl)) dX5_tiltTold_60 ⟨Nat.zero_le _, Nat.zero_le _⟩) hS (fun r_2 H locs hw_60 hT hS => ?_)
      replace hP := hT _ _ hP
      obtain rfl : r_2 = qTr S k v (((qTq S v) + o) % 2) := hw_60
      refine lv_ineg hx hb dX5_tiltTold_63 ?_
      exact W.iret (v := (-(qTr S k v (((qTq S v) + o) % 2)))) hx hb hr (fun t ht hW => ⟨⟨-(qTr S k v (((qTq S v) + o) % 2)), (), rfl, zTold_hi c_7 htt ht4 hq (by omega), trivial⟩, hS.F ht⟩) hS.2.2 dX5_tiltTold_64
    · replace c_41 : ¬ 2 ≤ (((qTq S v) + (((qTq S v) + o) % 2)) % 4) := fun h => c_41 ((nI_leI (a := 2) (b := (((qTq S v) + (((qTq S v) + o) % 2)) % 4)) (by omega) (by omega)).mpr h)
      refine lv_aload_n hx hb dX5_tiltTold_44 rfl (lv_at hl 2 rfl) ?_
      refine lv_iload_n hx hb dX5_tiltTold_45 rfl (lv_at hl 3 rfl) ?_
      refine lv_iload_n hx hb dX5_tiltTold_46 rfl (lv_at hl 4 rfl) ?_
      refine lv_iload hx hb dX5_tiltTold_47 (lv_at hl 0 rfl) ?_
      refine zr_calli (va_runV (As := [.int (nI k), .int (nI v), .int (nI (((qTq S v) + o) % 2))]) (rest := []) ⟨hx, hb, hml, hown, hts⟩ (mX5_tiltRead l D y g S th sv ln at9 pl va hs k v (((qTq S v) + o) % 2) (by first | assumption | rfl | omega | decide) (by first | assumption | rfl | omega | decide) (by first | assumption | rfl | omega | decide)) (cwV 3 hts (zgV tw_409 tw_410 tw_411 tw_369 tw_404) rfl rfl rfl (by decide +kernel) ⟨Nat.le_of_ble_eq_true rfl, Nat.le_of_ble_eq_true rfl⟩) (zRO_preV hKN hP (ci := 5) (q0 := 0) rfl rfl [0, 1] rfl) rfl rfl hl.1 rfl (lv_room (Nat.le_of_ble_eq_true rfl)) dX5_tiltTold_49 ⟨Nat.zero_le _, Nat.zero_le _⟩) hS (fun r_3 H locs hw_49 hT hS => ?_)
      replace hP := hT _ _ hP
      obtain rfl : r_3 = qTr S k v (((qTq S v) + o) % 2) := hw_49
      refine lv_goto (tgt := 64) hx hb dX5_tiltTold_52 (by decide) ?_
      exact W.iret (v := (qTr S k v (((qTq S v) + o) % 2))) hx hb hr (fun t ht hW => ⟨⟨qTr S k v (((qTq S v) + o) % 2), (), rfl, zTold_lo c_7 htt ht4 hq (by omega), trivial⟩, hS.F ht⟩) hS.2.2 dX5_tiltTold_64
  · refine lv_aload_n hx hb dX5_tiltTold_10 rfl (lv_at hl 0 rfl) ?_
    refine lv_iload_n hx hb dX5_tiltTold_11 rfl (lv_at hl 1 rfl) ?_
    refine lv_iload_n hx hb dX5_tiltTold_12 rfl (lv_at hl 2 rfl) ?_
    refine lv_iload_n hx hb dX5_tiltTold_13 rfl (lv_at hl 3 rfl) ?_
    refine zr_calli (va_runV (As := [.int (nI k), .int (nI v), .int (nI o)]) (rest := []) ⟨hx, hb, hml, hown, hts⟩ (mX5_tiltRead l D y g S th sv ln at9 pl va hs k v o (by first | assumption | rfl | omega | decide) (by first | assumption | rfl | omega | decide) (by first | assumption | rfl | omega | decide)) (cwV 3 hts (zgV tw_409 tw_410 tw_411 tw_369 tw_404) rfl rfl rfl (by decide +kernel) ⟨Nat.le_of_ble_eq_true rfl, Nat.le_of_ble_eq_true rfl⟩) (zRO_preV hKN hP (ci := 5) (q0 := 0) rfl rfl [0, 1] rfl) rfl rfl hl.1 rfl (lv_room (Nat.le_of_ble_eq_true rfl)) dX5_tiltTold_14 ⟨Nat.zero_le _, Nat.zero_le _⟩) hS (fun r_4 H locs hw_14 hT hS => ?_)
    replace hP := hT _ _ hP
    obtain rfl : r_4 = qTr S k v o := hw_14
    exact W.iret (v := (qTr S k v o)) hx hb hr (fun t ht hW => ⟨⟨qTr S k v o, (), rfl, by rw [qTt, if_pos c_7], trivial⟩, hS.F ht⟩) hS.2.2 dX5_tiltTold_17

set_option maxHeartbeats 4000000 in
set_option maxRecDepth 100000 in
theorem mX5_placeAt (l : Launch) (D : va_G) (y : Nat → ClassId) (g : Nat → Nat) (S : (Nat → Int32)) (th : Int32) (sv : Nat) (ln : Nat) (at9 : Nat) (pl : Nat) (va : Int32) (hs : Int64) (k : Nat) (v : Nat) (o : Nat) (hk : k < 6) (hl9 : v < 16) (hq : o < 2) (hTu : hTq S) : Met l yX5_placeAt (ws_ yX5_placeAt cX5_placeAt 6 (some .int)) ({ frames := 7, cells := 0, slots := 0, locals := 175 }) (va_Pc [.ref (g 0), .int (nI k), .int (nI v), .int (nI o)] (zRO D y [((g 0), .inr (5, [.int th, .ref (g 1), .int (nI sv), .ref (g 2), .ref (g 3), .int (nI ln), .int (nI at9), .int (nI pl), .int va, .long hs])), ((g 1), .inl (y 0, 4023, .inl S))])) (va_Qi (fun (r : Int32) (_ : Unit) => r = qPl S k o (v + 1)) (fun _ _ => True) (fun _ => False)) 0 0 (fun _ => False) := by
  refine Met.ofW (cc := cX5_placeAt) (maxL := 6) (ret := (some .int)) (by decide) rfl ?_
  intro p e s m args below meth c s₁ B hml hpre9
  obtain ⟨rfl, hP, hKN⟩ := hpre9
  have hK := hKN.1
  have hx := B.exec
  have hb := B.bytes
  have hr := B.returns
  have hts := atoms_spec (ws := (ws_ yX5_placeAt cX5_placeAt 6 (some .int))) B.pre
  have htg : ∀ w ∈ gT, w.before _ s = true := fun w h => hts w (List.mem_cons_of_mem _ h)
  have hown : s.vm.findClass RX5 = some m.cls := findClass_of_methodNamed B.named
  have hlocks := B.notSynchronized
  have hS : va_S (fun _ => False) s.heap s.heap [] := va_S.rf
  have hP : va_P D vwCl [((g 0), .inr (5, [.int th, .ref (g 1), .int (nI sv), .ref (g 2), .ref (g 3), .int (nI ln), .int (nI at9), .int (nI pl), .int va, .long hs])), ((g 1), .inl (y 0, 4023, .inl S))] s.heap := hP
  have hl := lv_entry ([.ref (g 0), .int (nI k), .int (nI v), .int (nI o)]) (n := 6) (Nat.le_of_ble_eq_true rfl)
  rw [lg_entry_eq]
  generalize (lg_sl ([.ref (g 0), .int (nI k), .int (nI v), .int (nI o)]) ++ List.replicate (6 - (lg_sl ([.ref (g 0), .int (nI k), .int (nI v), .int (nI o)])).length) Slot.unset).toArray = ls at hl ⊢
  have hl : lv_has ls 6 [(0, .ref (g 0)), (1, .int (nI k)), (2, .int (nI v)), (3, .int (nI o))] := hl
  refine lv_iconst (v := 0) hx hb dX5_placeAt_0 (by decide) ?_
  refine lv_istore (lv' := [(4, .int 0), (0, .ref (g 0)), (1, .int (nI k)), (2, .int (nI v)), (3, .int (nI o))]) hx hb dX5_placeAt_1 hl (by decide) rfl (fun ls hl => ?_)
  refine lv_iconst (v := 0) hx hb dX5_placeAt_3 (by decide) ?_
  refine lv_istore (lv' := [(5, .int 0), (4, .int 0), (0, .ref (g 0)), (1, .int (nI k)), (2, .int (nI v)), (3, .int (nI o))]) hx hb dX5_placeAt_4 hl (by decide) rfl (fun ls hl => ?_)
  refine zloop (fun j : Nat => 17 - j) (fun j H locs ls => j ≤ v + 1 ∧ va_P D vwCl [((g 0), .inr (5, [.int th, .ref (g 1), .int (nI sv), .ref (g 2), .ref (g 3), .int (nI ln), .int (nI at9), .int (nI pl), .int va, .long hs])), ((g 1), .inl (y 0, 4023, .inl S))] H ∧ va_S (fun _ => False) s.heap H locs ∧ lv_has ls 6 [(0, .ref (g 0)), (1, .int (nI k)), (2, .int (nI v)), (3, .int (nI o)), (4, .int (qPl S k o j)), (5, .int (nI j))]) 6 (fun _ => 0) (fun _ => 0) ?_ (0) ⟨by omega, hP, hS, lv_sub hl [2, 3, 4, 5, 1, 0] rfl⟩
  clear hl hS hP
  rintro j H locs ls ⟨hj, hP, hS, hl⟩ ih6
  refine lv_iload hx hb dX5_placeAt_6 (lv_at hl 5 rfl) ?_
  refine lv_iload_n hx hb dX5_placeAt_8 rfl (lv_at hl 2 rfl) ?_
  refine lv_icmp_gt (tgt := 31) hx hb dX5_placeAt_9 (by decide) (fun c_9 => ?_) (fun c_9 => ?_)
  · replace c_9 : v < j := (nI_ltI (a := v) (b := j) (by omega) (by omega)).mp c_9
    have e8 : j = v + 1 := by omega
    refine lv_iload hx hb dX5_placeAt_31 (lv_at hl 4 rfl) ?_
    exact W.iret (v := (qPl S k o j)) hx hb hr (fun t ht hW => ⟨⟨qPl S k o j, (), rfl, congrArg (qPl S k o) e8, trivial⟩, hS.F ht⟩) hS.2.2 dX5_placeAt_33
  · replace c_9 : ¬ v < j := fun h => c_9 ((nI_ltI (a := v) (b := j) (by omega) (by omega)).mpr h)
    refine lv_iload hx hb dX5_placeAt_12 (lv_at hl 4 rfl) ?_
    refine lv_aload_n hx hb dX5_placeAt_14 rfl (lv_at hl 0 rfl) ?_
    refine lv_iload_n hx hb dX5_placeAt_15 rfl (lv_at hl 1 rfl) ?_
    refine lv_iload hx hb dX5_placeAt_16 (lv_at hl 5 rfl) ?_
    refine lv_iload_n hx hb dX5_placeAt_18 rfl (lv_at hl 3 rfl) ?_
    refine zr_calli (va_runV (As := [.int (nI k), .int (nI j), .int (nI o)]) (rest := [.int (qPl S k o j)]) ⟨hx, hb, hml, hown, hts⟩ (mX5_tiltTold l D y g S th sv ln at9 pl va hs k j o (by first | assumption | rfl | omega | decide) (by first | assumption | rfl | omega | decide) (by first | assumption | rfl | omega | decide) (by first | assumption | rfl | omega | decide)) (cwV 3 hts (zgV tw_413 tw_414 tw_415 tw_369 tw_408) rfl rfl rfl (by decide +kernel) ⟨Nat.le_of_ble_eq_true rfl, Nat.le_of_ble_eq_true rfl⟩) (zRO_preV hKN hP (ci := 5) (q0 := 0) rfl rfl [0, 1] rfl) rfl rfl hl.1 rfl (lv_room (Nat.le_of_ble_eq_true rfl)) dX5_placeAt_19 ⟨Nat.zero_le _, Nat.zero_le _⟩) hS (fun r_1 H locs hw_19 hT hS => ?_)
    replace hP := hT _ _ hP
    obtain rfl : r_1 = qTt S k j o := hw_19
    refine lv_iadd hx hb dX5_placeAt_22 ?_
    refine zz_top (y := qPl S k o (j + 1)) (by show qPl S k o j + qTt S k j o = qPl S k o j + qTt S k (0 + j) o; rw [Nat.zero_add]) ?_
    refine lv_istore (lv' := [(4, .int (qPl S k o (j + 1))), (0, .ref (g 0)), (1, .int (nI k)), (2, .int (nI v)), (3, .int (nI o)), (5, .int (nI j))]) hx hb dX5_placeAt_23 hl (by decide) rfl (fun ls hl => ?_)
    refine lv_iinc (v := nI (j + 1)) (lv' := [(5, .int (nI (j + 1))), (4, .int (qPl S k o (j + 1))), (0, .ref (g 0)), (1, .int (nI k)), (2, .int (nI v)), (3, .int (nI o))]) hx hb dX5_placeAt_25 hl (k := 5) rfl (nI_1 j) (by decide) rfl (fun ls hl => ?_)
    refine lv_goto (tgt := 6) hx hb dX5_placeAt_28 (by decide) ?_
    exact ih6 (j + 1) _ _ _ (by omega) ⟨by omega, hP, hS, lv_sub hl [2, 3, 4, 5, 1, 0] rfl⟩
