set_option maxHeartbeats 4000000 in
set_option maxRecDepth 100000 in
theorem mX4_isWithin (l : Launch) (v : Int32) (lo : Int32) (hi : Int32) : Met l yX4_isWithin (ws_ yX4_isWithin cX4_isWithin 3 (some .boolean)) ({ frames := 0, cells := 0, slots := 0, locals := 0 }) (va_Pc [.int v, .int lo, .int hi] (fun _ => True)) (va_Qi (fun (r : Int32) (_ : Unit) => r = (if ¬ v < lo ∧ ¬ hi < v then 1 else 0)) (fun _ _ => True) (fun _ => False)) 0 0 (fun _ => False) := by
  refine Met.ofW (cc := cX4_isWithin) (maxL := 3) (ret := (some .boolean)) (by decide) rfl ?_
  intro p e s m args below meth c s₁ B hml hpre9
  obtain ⟨rfl, -⟩ := hpre9
  have hx := B.exec
  have hb := B.bytes
  have hr := B.returns
  have hts := atoms_spec (ws := (ws_ yX4_isWithin cX4_isWithin 3 (some .boolean))) B.pre
  have htg : ∀ w ∈ gT, w.before _ s = true := fun w h => hts w (List.mem_cons_of_mem _ h)
  have hown : s.vm.findClass RX4 = some m.cls := findClass_of_methodNamed B.named
  have hlocks := B.notSynchronized
  have hS : va_S (fun _ => False) s.heap s.heap [] := va_S.rf
  have hl := lv_entry ([.int v, .int lo, .int hi]) (n := 3) (Nat.le_of_ble_eq_true rfl)
  rw [lg_entry_eq]
  generalize (lg_sl ([.int v, .int lo, .int hi]) ++ List.replicate (3 - (lg_sl ([.int v, .int lo, .int hi])).length) Slot.unset).toArray = ls at hl ⊢
  have hl : lv_has ls 3 [(0, .int v), (1, .int lo), (2, .int hi)] := hl
  refine lv_iload_n hx hb dX4_isWithin_0 rfl (lv_at hl 0 rfl) ?_
  refine lv_iload_n hx hb dX4_isWithin_1 rfl (lv_at hl 1 rfl) ?_
  refine lv_icmp_lt (tgt := 14) hx hb dX4_isWithin_2 (by decide) (fun c_2 => ?_) (fun c_2 => ?_)
  · refine lv_iconst (v := 0) hx hb dX4_isWithin_14 (by decide) ?_
    exact W.zret (v := 0) hx hb hr (by first | rfl | (split <;> rfl)) (fun t ht hW => ⟨⟨0, (), rfl, by simp_all, trivial⟩, hS.F ht⟩) hS.2.2 dX4_isWithin_15
  · refine lv_iload_n hx hb dX4_isWithin_5 rfl (lv_at hl 0 rfl) ?_
    refine lv_iload_n hx hb dX4_isWithin_6 rfl (lv_at hl 2 rfl) ?_
    refine lv_icmp_gt (tgt := 14) hx hb dX4_isWithin_7 (by decide) (fun c_7 => ?_) (fun c_7 => ?_)
    · refine lv_iconst (v := 0) hx hb dX4_isWithin_14 (by decide) ?_
      exact W.zret (v := 0) hx hb hr (by first | rfl | (split <;> rfl)) (fun t ht hW => ⟨⟨0, (), rfl, by simp_all, trivial⟩, hS.F ht⟩) hS.2.2 dX4_isWithin_15
    · refine lv_iconst (v := 1) hx hb dX4_isWithin_10 (by decide) ?_
      refine lv_goto (tgt := 15) hx hb dX4_isWithin_11 (by decide) ?_
      exact W.zret (v := 1) hx hb hr (by first | rfl | (split <;> rfl)) (fun t ht hW => ⟨⟨1, (), rfl, by simp_all, trivial⟩, hS.F ht⟩) hS.2.2 dX4_isWithin_15

set_option maxHeartbeats 4000000 in
set_option maxRecDepth 100000 in
theorem mX4_readingAt (l : Launch) (k : Nat) (v : Nat) (o : Nat) (f : Nat) : Met l yX4_readingAt (ws_ yX4_readingAt cX4_readingAt 4 (some .int)) ({ frames := 0, cells := 0, slots := 0, locals := 0 }) (va_Pc [.int (nI k), .int (nI v), .int (nI o), .int (nI f)] (fun _ => True)) (va_Qi (fun (r : Int32) (_ : Unit) => r = nI (64 * k + 4 * v + 2 * o + f)) (fun _ _ => True) (fun _ => False)) 0 0 (fun _ => False) := by
  refine Met.ofW (cc := cX4_readingAt) (maxL := 4) (ret := (some .int)) (by decide) rfl ?_
  intro p e s m args below meth c s₁ B hml hpre9
  obtain ⟨rfl, -⟩ := hpre9
  have hx := B.exec
  have hb := B.bytes
  have hr := B.returns
  have hts := atoms_spec (ws := (ws_ yX4_readingAt cX4_readingAt 4 (some .int))) B.pre
  have htg : ∀ w ∈ gT, w.before _ s = true := fun w h => hts w (List.mem_cons_of_mem _ h)
  have hown : s.vm.findClass RX4 = some m.cls := findClass_of_methodNamed B.named
  have hlocks := B.notSynchronized
  have hS : va_S (fun _ => False) s.heap s.heap [] := va_S.rf
  have hl := lv_entry ([.int (nI k), .int (nI v), .int (nI o), .int (nI f)]) (n := 4) (Nat.le_of_ble_eq_true rfl)
  rw [lg_entry_eq]
  generalize (lg_sl ([.int (nI k), .int (nI v), .int (nI o), .int (nI f)]) ++ List.replicate (4 - (lg_sl ([.int (nI k), .int (nI v), .int (nI o), .int (nI f)])).length) Slot.unset).toArray = ls at hl ⊢
  have hl : lv_has ls 4 [(0, .int (nI k)), (1, .int (nI v)), (2, .int (nI o)), (3, .int (nI f))] := hl
  refine lv_iload_n hx hb dX4_readingAt_0 rfl (lv_at hl 0 rfl) ?_
  refine lv_bipush (v := 64) hx hb dX4_readingAt_1 (by decide) ?_
  refine lv_imul hx hb dX4_readingAt_3 ?_
  refine zz_top (y := nI (k * 64)) (pk_mul k 64) ?_
  refine lv_iload_n hx hb dX4_readingAt_4 rfl (lv_at hl 1 rfl) ?_
  refine lv_iconst (v := 2) hx hb dX4_readingAt_5 (by decide) ?_
  refine lv_imul hx hb dX4_readingAt_6 ?_
  refine zz_top (y := nI (v * 2)) (pk_mul v 2) ?_
  refine lv_iconst (v := 2) hx hb dX4_readingAt_7 (by decide) ?_
  refine lv_imul hx hb dX4_readingAt_8 ?_
  refine zz_top (y := nI ((v * 2) * 2)) (pk_mul (v * 2) 2) ?_
  refine lv_iadd hx hb dX4_readingAt_9 ?_
  refine zz_top (y := nI ((k * 64) + ((v * 2) * 2))) (nI_add (k * 64) ((v * 2) * 2)) ?_
  refine lv_iload_n hx hb dX4_readingAt_10 rfl (lv_at hl 2 rfl) ?_
  refine lv_iconst (v := 2) hx hb dX4_readingAt_11 (by decide) ?_
  refine lv_imul hx hb dX4_readingAt_12 ?_
  refine zz_top (y := nI (o * 2)) (pk_mul o 2) ?_
  refine lv_iadd hx hb dX4_readingAt_13 ?_
  refine zz_top (y := nI (((k * 64) + ((v * 2) * 2)) + (o * 2))) (nI_add ((k * 64) + ((v * 2) * 2)) (o * 2)) ?_
  refine lv_iload_n hx hb dX4_readingAt_14 rfl (lv_at hl 3 rfl) ?_
  refine lv_iadd hx hb dX4_readingAt_15 ?_
  refine zz_top (y := nI ((((k * 64) + ((v * 2) * 2)) + (o * 2)) + f)) (nI_add (((k * 64) + ((v * 2) * 2)) + (o * 2)) f) ?_
  exact W.iret (v := (nI ((((k * 64) + ((v * 2) * 2)) + (o * 2)) + f))) hx hb hr (fun t ht hW => ⟨⟨nI ((((k * 64) + ((v * 2) * 2)) + (o * 2)) + f), (), rfl, congrArg nI (by omega), trivial⟩, hS.F ht⟩) hS.2.2 dX4_readingAt_16

set_option maxHeartbeats 4000000 in
set_option maxRecDepth 100000 in
theorem mX4_tiltAt (l : Launch) (k : Nat) (v : Nat) (o : Nat) : Met l yX4_tiltAt (ws_ yX4_tiltAt cX4_tiltAt 3 (some .int)) ({ frames := 0, cells := 0, slots := 0, locals := 0 }) (va_Pc [.int (nI k), .int (nI v), .int (nI o)] (fun _ => True)) (va_Qi (fun (r : Int32) (_ : Unit) => r = nI (32 * k + 2 * v + o)) (fun _ _ => True) (fun _ => False)) 0 0 (fun _ => False) := by
  refine Met.ofW (cc := cX4_tiltAt) (maxL := 3) (ret := (some .int)) (by decide) rfl ?_
  intro p e s m args below meth c s₁ B hml hpre9
  obtain ⟨rfl, -⟩ := hpre9
  have hx := B.exec
  have hb := B.bytes
  have hr := B.returns
  have hts := atoms_spec (ws := (ws_ yX4_tiltAt cX4_tiltAt 3 (some .int))) B.pre
  have htg : ∀ w ∈ gT, w.before _ s = true := fun w h => hts w (List.mem_cons_of_mem _ h)
  have hown : s.vm.findClass RX4 = some m.cls := findClass_of_methodNamed B.named
  have hlocks := B.notSynchronized
  have hS : va_S (fun _ => False) s.heap s.heap [] := va_S.rf
  have hl := lv_entry ([.int (nI k), .int (nI v), .int (nI o)]) (n := 3) (Nat.le_of_ble_eq_true rfl)
  rw [lg_entry_eq]
  generalize (lg_sl ([.int (nI k), .int (nI v), .int (nI o)]) ++ List.replicate (3 - (lg_sl ([.int (nI k), .int (nI v), .int (nI o)])).length) Slot.unset).toArray = ls at hl ⊢
  have hl : lv_has ls 3 [(0, .int (nI k)), (1, .int (nI v)), (2, .int (nI o))] := hl
  refine lv_iload_n hx hb dX4_tiltAt_0 rfl (lv_at hl 0 rfl) ?_
  refine lv_bipush (v := 32) hx hb dX4_tiltAt_1 (by decide) ?_
  refine lv_imul hx hb dX4_tiltAt_3 ?_
  refine zz_top (y := nI (k * 32)) (pk_mul k 32) ?_
  refine lv_iload_n hx hb dX4_tiltAt_4 rfl (lv_at hl 1 rfl) ?_
  refine lv_iconst (v := 2) hx hb dX4_tiltAt_5 (by decide) ?_
  refine lv_imul hx hb dX4_tiltAt_6 ?_
  refine zz_top (y := nI (v * 2)) (pk_mul v 2) ?_
  refine lv_iadd hx hb dX4_tiltAt_7 ?_
  refine zz_top (y := nI ((k * 32) + (v * 2))) (nI_add (k * 32) (v * 2)) ?_
  refine lv_iload_n hx hb dX4_tiltAt_8 rfl (lv_at hl 2 rfl) ?_
  refine lv_iadd hx hb dX4_tiltAt_9 ?_
  refine zz_top (y := nI (((k * 32) + (v * 2)) + o)) (nI_add ((k * 32) + (v * 2)) o) ?_
  exact W.iret (v := (nI (((k * 32) + (v * 2)) + o))) hx hb hr (fun t ht hW => ⟨⟨nI (((k * 32) + (v * 2)) + o), (), rfl, congrArg nI (by omega), trivial⟩, hS.F ht⟩) hS.2.2 dX4_tiltAt_10

set_option maxHeartbeats 4000000 in
set_option maxRecDepth 100000 in
theorem mX4_turnedTilt (l : Launch) (q : Int32) (a : Int32) (b : Int32) (d : Nat) (hd : d < 2) : Met l yX4_turnedTilt (ws_ yX4_turnedTilt cX4_turnedTilt 4 (some .int)) ({ frames := 0, cells := 0, slots := 0, locals := 0 }) (va_Pc [.int q, .int a, .int b, .int (nI d)] (fun _ => True)) (va_Qi (fun (r : Int32) (_ : Unit) => r = zTurn q a b d) (fun _ _ => True) (fun _ => False)) 0 0 (fun _ => False) := by
  refine Met.ofW (cc := cX4_turnedTilt) (maxL := 4) (ret := (some .int)) (by decide) rfl ?_
  intro p e s m args below meth c s₁ B hml hpre9
  obtain ⟨rfl, -⟩ := hpre9
  have hx := B.exec
  have hb := B.bytes
  have hr := B.returns
  have hts := atoms_spec (ws := (ws_ yX4_turnedTilt cX4_turnedTilt 4 (some .int))) B.pre
  have htg : ∀ w ∈ gT, w.before _ s = true := fun w h => hts w (List.mem_cons_of_mem _ h)
  have hown : s.vm.findClass RX4 = some m.cls := findClass_of_methodNamed B.named
  have hlocks := B.notSynchronized
  have hS : va_S (fun _ => False) s.heap s.heap [] := va_S.rf
  have hl := lv_entry ([.int q, .int a, .int b, .int (nI d)]) (n := 4) (Nat.le_of_ble_eq_true rfl)
  rw [lg_entry_eq]
  generalize (lg_sl ([.int q, .int a, .int b, .int (nI d)]) ++ List.replicate (4 - (lg_sl ([.int q, .int a, .int b, .int (nI d)])).length) Slot.unset).toArray = ls at hl ⊢
  have hl : lv_has ls 4 [(0, .int q), (1, .int a), (2, .int b), (3, .int (nI d))] := hl
  refine lv_iload_n hx hb dX4_turnedTilt_0 rfl (lv_at hl 0 rfl) ?_
  rcases zsw3 q with rfl | rfl | rfl | ⟨hq0, hq⟩
  · refine lv_tableIn (tgt := 28) (off := 27) hx hb dX4_turnedTilt_1 (by decide) (by decide) rfl (by decide) ?_
    refine lv_iload_n hx hb dX4_turnedTilt_28 rfl (lv_at hl 3 rfl) ?_
    refine lv_if_ne (tgt := 36) hx hb dX4_turnedTilt_29 (by decide) (fun c_29 => ?_) (fun c_29 => ?_)
    · replace c_29 : ¬ d = 0 := fun h => c_29 ((nI_eq (a := d) (b := 0) (by omega) (by omega)).mpr h)
      refine lv_iload_n hx hb dX4_turnedTilt_36 rfl (lv_at hl 2 rfl) ?_
      exact W.iret (v := b) hx hb hr (fun t ht hW => ⟨⟨b, (), rfl, by simp_all [zTurn], trivial⟩, hS.F ht⟩) hS.2.2 dX4_turnedTilt_37
    · replace c_29 : d = 0 := (nI_eq (a := d) (b := 0) (by omega) (by omega)).mp c_29
      refine lv_iload_n hx hb dX4_turnedTilt_32 rfl (lv_at hl 1 rfl) ?_
      refine lv_goto (tgt := 37) hx hb dX4_turnedTilt_33 (by decide) ?_
      exact W.iret (v := a) hx hb hr (fun t ht hW => ⟨⟨a, (), rfl, by simp_all [zTurn], trivial⟩, hS.F ht⟩) hS.2.2 dX4_turnedTilt_37
  · refine lv_tableIn (tgt := 38) (off := 37) hx hb dX4_turnedTilt_1 (by decide) (by decide) rfl (by decide) ?_
    refine lv_iload_n hx hb dX4_turnedTilt_38 rfl (lv_at hl 3 rfl) ?_
    refine lv_if_ne (tgt := 46) hx hb dX4_turnedTilt_39 (by decide) (fun c_39 => ?_) (fun c_39 => ?_)
    · replace c_39 : ¬ d = 0 := fun h => c_39 ((nI_eq (a := d) (b := 0) (by omega) (by omega)).mpr h)
      refine lv_iload_n hx hb dX4_turnedTilt_46 rfl (lv_at hl 1 rfl) ?_
      refine lv_ineg hx hb dX4_turnedTilt_47 ?_
      exact W.iret (v := (-a)) hx hb hr (fun t ht hW => ⟨⟨-a, (), rfl, by simp_all [zTurn], trivial⟩, hS.F ht⟩) hS.2.2 dX4_turnedTilt_48
    · replace c_39 : d = 0 := (nI_eq (a := d) (b := 0) (by omega) (by omega)).mp c_39
      refine lv_iload_n hx hb dX4_turnedTilt_42 rfl (lv_at hl 2 rfl) ?_
      refine lv_goto (tgt := 48) hx hb dX4_turnedTilt_43 (by decide) ?_
      exact W.iret (v := b) hx hb hr (fun t ht hW => ⟨⟨b, (), rfl, by simp_all [zTurn], trivial⟩, hS.F ht⟩) hS.2.2 dX4_turnedTilt_48
  · refine lv_tableIn (tgt := 49) (off := 48) hx hb dX4_turnedTilt_1 (by decide) (by decide) rfl (by decide) ?_
    refine lv_iload_n hx hb dX4_turnedTilt_49 rfl (lv_at hl 3 rfl) ?_
    refine lv_if_ne (tgt := 58) hx hb dX4_turnedTilt_50 (by decide) (fun c_50 => ?_) (fun c_50 => ?_)
    · replace c_50 : ¬ d = 0 := fun h => c_50 ((nI_eq (a := d) (b := 0) (by omega) (by omega)).mpr h)
      refine lv_iload_n hx hb dX4_turnedTilt_58 rfl (lv_at hl 2 rfl) ?_
      refine lv_ineg hx hb dX4_turnedTilt_59 ?_
      exact W.iret (v := (-b)) hx hb hr (fun t ht hW => ⟨⟨-b, (), rfl, by simp_all [zTurn], trivial⟩, hS.F ht⟩) hS.2.2 dX4_turnedTilt_60
    · replace c_50 : d = 0 := (nI_eq (a := d) (b := 0) (by omega) (by omega)).mp c_50
      refine lv_iload_n hx hb dX4_turnedTilt_53 rfl (lv_at hl 1 rfl) ?_
      refine lv_ineg hx hb dX4_turnedTilt_54 ?_
      refine lv_goto (tgt := 60) hx hb dX4_turnedTilt_55 (by decide) ?_
      exact W.iret (v := (-a)) hx hb hr (fun t ht hW => ⟨⟨-a, (), rfl, by simp_all [zTurn], trivial⟩, hS.F ht⟩) hS.2.2 dX4_turnedTilt_60
  · refine lv_tableOut (tgt := 61) hx hb dX4_turnedTilt_1 (hq) (by decide) ?_
    refine lv_iload_n hx hb dX4_turnedTilt_61 rfl (lv_at hl 3 rfl) ?_
    refine lv_if_ne (tgt := 70) hx hb dX4_turnedTilt_62 (by decide) (fun c_62 => ?_) (fun c_62 => ?_)
    · replace c_62 : ¬ d = 0 := fun h => c_62 ((nI_eq (a := d) (b := 0) (by omega) (by omega)).mpr h)
      refine lv_iload_n hx hb dX4_turnedTilt_70 rfl (lv_at hl 1 rfl) ?_
      exact W.iret (v := a) hx hb hr (fun t ht hW => ⟨⟨a, (), rfl, by simp_all [zTurn], trivial⟩, hS.F ht⟩) hS.2.2 dX4_turnedTilt_71
    · replace c_62 : d = 0 := (nI_eq (a := d) (b := 0) (by omega) (by omega)).mp c_62
      refine lv_iload_n hx hb dX4_turnedTilt_65 rfl (lv_at hl 2 rfl) ?_
      refine lv_ineg hx hb dX4_turnedTilt_66 ?_
      refine lv_goto (tgt := 71) hx hb dX4_turnedTilt_67 (by decide) ?_
      exact W.iret (v := (-b)) hx hb hr (fun t ht hW => ⟨⟨-b, (), rfl, by simp_all [zTurn], trivial⟩, hS.F ht⟩) hS.2.2 dX4_turnedTilt_71

set_option maxHeartbeats 4000000 in
set_option maxRecDepth 100000 in
theorem mX4_checkOf (l : Launch) (D : va_G) (y : Nat → ClassId) (a : Nat → Nat) (S : Nat → Int32) (k : Nat) (v : Nat) (o : Nat) (hk : k < 6) (hv : v < 16) (ho : o < 2) : Met l yX4_checkOf (ws_ yX4_checkOf cX4_checkOf 5 (some .int)) ({ frames := 1, cells := 0, slots := 0, locals := 23 }) (va_Pc [.ref (a 0), .int (nI k), .int (nI v), .int (nI o)] (zRO D y [((a 0), .inr (2, [.ref (a 1), .ref (a 2), .ref (a 3), .ref (a 4), .ref (a 5), .ref (a 6), .int (S 0), .int (S 1), .int (S 4), .int (S 5)])), ((a 1), .inl (y 0, 32, .inl (zT S))), ((a 2), .inl (y 0, 16, .inl (zU S))), ((a 3), .inl (y 0, 2, .inl (zB S))), ((a 4), .inl (y 0, 3, .inl (zE S))), ((a 5), .inl (y 0, 384, .inl (zR S))), ((a 6), .inl (y 0, 6, .inl (zY S)))])) (va_Qi (fun (r : Int32) (_ : Unit) => r = qCk S k v o) (fun _ _ => True) (fun _ => False)) 0 0 (fun _ => False) := by
  refine Met.ofW (cc := cX4_checkOf) (maxL := 5) (ret := (some .int)) (by decide) rfl ?_
  intro p e s m args below meth c s₁ B hml hpre9
  obtain ⟨rfl, hP, hKN⟩ := hpre9
  have hK := hKN.1
  have hx := B.exec
  have hb := B.bytes
  have hr := B.returns
  have hts := atoms_spec (ws := (ws_ yX4_checkOf cX4_checkOf 5 (some .int))) B.pre
  have htg : ∀ w ∈ gT, w.before _ s = true := fun w h => hts w (List.mem_cons_of_mem _ h)
  have hown : s.vm.findClass RX4 = some m.cls := findClass_of_methodNamed B.named
  have hlocks := B.notSynchronized
  have hS : va_S (fun _ => False) s.heap s.heap [] := va_S.rf
  have hP : va_P D vwCl [((a 0), .inr (2, [.ref (a 1), .ref (a 2), .ref (a 3), .ref (a 4), .ref (a 5), .ref (a 6), .int (S 0), .int (S 1), .int (S 4), .int (S 5)])), ((a 1), .inl (y 0, 32, .inl (zT S))), ((a 2), .inl (y 0, 16, .inl (zU S))), ((a 3), .inl (y 0, 2, .inl (zB S))), ((a 4), .inl (y 0, 3, .inl (zE S))), ((a 5), .inl (y 0, 384, .inl (zR S))), ((a 6), .inl (y 0, 6, .inl (zY S)))] s.heap := hP
  have hl := lv_entry ([.ref (a 0), .int (nI k), .int (nI v), .int (nI o)]) (n := 5) (Nat.le_of_ble_eq_true rfl)
  rw [lg_entry_eq]
  generalize (lg_sl ([.ref (a 0), .int (nI k), .int (nI v), .int (nI o)]) ++ List.replicate (5 - (lg_sl ([.ref (a 0), .int (nI k), .int (nI v), .int (nI o)])).length) Slot.unset).toArray = ls at hl ⊢
  have hl : lv_has ls 5 [(0, .ref (a 0)), (1, .int (nI k)), (2, .int (nI v)), (3, .int (nI o))] := hl
  refine lv_iload_n hx hb dX4_checkOf_0 rfl (lv_at hl 1 rfl) ?_
  refine lv_iload_n hx hb dX4_checkOf_1 rfl (lv_at hl 2 rfl) ?_
  refine lv_iload_n hx hb dX4_checkOf_2 rfl (lv_at hl 3 rfl) ?_
  refine lv_iconst (v := 0) hx hb dX4_checkOf_3 (by decide) ?_
  refine zr_calli (va_runS (As := [.int (nI k), .int (nI v), .int (nI o), .int 0]) (rest := []) ⟨hx, hb, hml, hown, hts⟩ (mX4_readingAt l k v o 0) (va_cwS 4 hts (zgS tw_26 tw_27 tw_23 tw_28) rfl rfl rfl (by decide +kernel) ⟨Nat.le_of_ble_eq_true rfl, Nat.le_of_ble_eq_true rfl⟩) zP_pre rfl rfl hl.1 rfl (lv_room (Nat.le_of_ble_eq_true rfl)) dX4_checkOf_4 ⟨Nat.zero_le _, Nat.zero_le _⟩) hS (fun r_1 H locs hw_4 hT hS => ?_)
  replace hP := hT _ _ hP
  obtain rfl : r_1 = nI (64 * k + 4 * v + 2 * o + 0) := hw_4
  refine lv_istore (lv' := [(4, .int (nI (64 * k + 4 * v + 2 * o + 0))), (0, .ref (a 0)), (1, .int (nI k)), (2, .int (nI v)), (3, .int (nI o))]) hx hb dX4_checkOf_7 hl (by decide) rfl (fun ls hl => ?_)
  refine lv_aload_n hx hb dX4_checkOf_9 rfl (lv_at hl 1 rfl) ?_
  refine va_get (D := D) (ci := 2) (v := .ref (a 5)) (C := RX2) (T := TX2) (N := 10) hx hb htg iX2 hown hK hP 0 rfl rfl 4 (by decide) (htg _ tw_25) (fun _ h9 => h9) rfl dX4_checkOf_10 ?_
  refine lv_iload hx hb dX4_checkOf_13 (lv_at hl 0 rfl) ?_
  refine va_iald hx hb hK hP 5 0 rfl rfl (vp_in_nI (by omega) (by decide)) dX4_checkOf_15 ?_
  refine zz_top (y := (zR S) (64 * k + 4 * v + 2 * o + 0)) (congrArg (zR S) (nI_clamp (by omega))) ?_
  refine zz_top (y := qRd S k v o 0) (congrArg S (by omega)) ?_
  refine lv_aload_n hx hb dX4_checkOf_16 rfl (lv_at hl 1 rfl) ?_
  refine va_get (D := D) (ci := 2) (v := .ref (a 5)) (C := RX2) (T := TX2) (N := 10) hx hb htg iX2 hown hK hP 0 rfl rfl 4 (by decide) (htg _ tw_25) (fun _ h9 => h9) rfl dX4_checkOf_17 ?_
  refine lv_iload hx hb dX4_checkOf_20 (lv_at hl 0 rfl) ?_
  refine lv_iconst (v := 1) hx hb dX4_checkOf_22 (by decide) ?_
  refine lv_iadd hx hb dX4_checkOf_23 ?_
  refine zz_top (y := nI ((64 * k + 4 * v + 2 * o + 0) + 1)) (nI_add (64 * k + 4 * v + 2 * o + 0) 1) ?_
  refine va_iald hx hb hK hP 5 0 rfl rfl (vp_in_nI (by omega) (by decide)) dX4_checkOf_24 ?_
  refine zz_top (y := (zR S) ((64 * k + 4 * v + 2 * o + 0) + 1)) (congrArg (zR S) (nI_clamp (by omega))) ?_
  refine zz_top (y := qRd S k v o 1) (congrArg S (by omega)) ?_
  refine lv_iadd hx hb dX4_checkOf_25 ?_
  exact W.iret (v := ((qRd S k v o 0) + (qRd S k v o 1))) hx hb hr (fun t ht hW => ⟨⟨(qRd S k v o 0) + (qRd S k v o 1), (), rfl, by first | rfl | trivial | simp_all, trivial⟩, hS.F ht⟩) hS.2.2 dX4_checkOf_26

set_option maxHeartbeats 4000000 in
set_option maxRecDepth 100000 in
theorem mX4_probeReads (l : Launch) (D : va_G) (y : Nat → ClassId) (ad : Nat → Nat) (S : Nat → Int32) (bn : Int32) (v : Nat) (o : Nat) (f : Nat) (hv : v < 16) (ho : o < 2) (hf : f < 2) : Met l yX4_probeReads (ws_ yX4_probeReads cX4_probeReads 6 (some .int)) ({ frames := 1, cells := 0, slots := 0, locals := 23 }) (va_Pc [.ref (ad 0), .int (nI v), .int (nI o), .int (nI f)] (zRO D y [((ad 0), .inr (4, [.ref (ad 1), .ref (ad 8), .ref (ad 9), .ref (ad 10), .ref (ad 54), .ref (ad 59), .ref (ad 60), .int bn])), ((ad 1), .inr (2, [.ref (ad 2), .ref (ad 3), .ref (ad 4), .ref (ad 5), .ref (ad 6), .ref (ad 7), .int (S 0), .int (S 1), .int (S 4), .int (S 5)])), ((ad 2), .inl (y 0, 32, .inl (zT S))), ((ad 3), .inl (y 0, 16, .inl (zU S))), ((ad 4), .inl (y 0, 2, .inl (zB S)))])) (va_Qi (fun (r : Int32) (_ : Unit) => r = qPr S v o f) (fun _ _ => True) (fun _ => False)) 0 0 (fun _ => False) := by
  refine Met.ofW (cc := cX4_probeReads) (maxL := 6) (ret := (some .int)) (by decide) rfl ?_
  intro p e s m args below meth c s₁ B hml hpre9
  obtain ⟨rfl, hP, hKN⟩ := hpre9
  have hK := hKN.1
  have hx := B.exec
  have hb := B.bytes
  have hr := B.returns
  have hts := atoms_spec (ws := (ws_ yX4_probeReads cX4_probeReads 6 (some .int))) B.pre
  have htg : ∀ w ∈ gT, w.before _ s = true := fun w h => hts w (List.mem_cons_of_mem _ h)
  have hown : s.vm.findClass RX4 = some m.cls := findClass_of_methodNamed B.named
  have hlocks := B.notSynchronized
  have hS : va_S (fun _ => False) s.heap s.heap [] := va_S.rf
  have hP : va_P D vwCl [((ad 0), .inr (4, [.ref (ad 1), .ref (ad 8), .ref (ad 9), .ref (ad 10), .ref (ad 54), .ref (ad 59), .ref (ad 60), .int bn])), ((ad 1), .inr (2, [.ref (ad 2), .ref (ad 3), .ref (ad 4), .ref (ad 5), .ref (ad 6), .ref (ad 7), .int (S 0), .int (S 1), .int (S 4), .int (S 5)])), ((ad 2), .inl (y 0, 32, .inl (zT S))), ((ad 3), .inl (y 0, 16, .inl (zU S))), ((ad 4), .inl (y 0, 2, .inl (zB S)))] s.heap := hP
  have hl := lv_entry ([.ref (ad 0), .int (nI v), .int (nI o), .int (nI f)]) (n := 6) (Nat.le_of_ble_eq_true rfl)
  rw [lg_entry_eq]
  generalize (lg_sl ([.ref (ad 0), .int (nI v), .int (nI o), .int (nI f)]) ++ List.replicate (6 - (lg_sl ([.ref (ad 0), .int (nI v), .int (nI o), .int (nI f)])).length) Slot.unset).toArray = ls at hl ⊢
  have hl : lv_has ls 6 [(0, .ref (ad 0)), (1, .int (nI v)), (2, .int (nI o)), (3, .int (nI f))] := hl
  refine lv_iload_n hx hb dX4_probeReads_0 rfl (lv_at hl 1 rfl) ?_
  refine lv_iconst (v := 2) hx hb dX4_probeReads_1 (by decide) ?_
  refine lv_imul hx hb dX4_probeReads_2 ?_
  refine zz_top (y := nI (v * 2)) (pk_mul v 2) ?_
  refine lv_istore (lv' := [(4, .int (nI (v * 2))), (0, .ref (ad 0)), (1, .int (nI v)), (2, .int (nI o)), (3, .int (nI f))]) hx hb dX4_probeReads_3 hl (by decide) rfl (fun ls hl => ?_)
  refine lv_aload_n hx hb dX4_probeReads_5 rfl (lv_at hl 1 rfl) ?_
  refine va_get (D := D) (ci := 4) (v := .ref (ad 1)) (C := RX4) (T := TX4) (N := 8) hx hb htg iX4 hown hK hP 0 rfl rfl 0 (by decide) (htg _ tw_91) (fun _ h9 => h9) rfl dX4_probeReads_6 ?_
  refine va_get (D := D) (ci := 2) (v := .ref (ad 3)) (C := RX2) (T := TX2) (N := 10) hx hb htg iX2 hown hK hP 1 rfl rfl 1 (by decide) (htg _ tw_147) (fun _ h9 => h9) rfl dX4_probeReads_9 ?_
  refine lv_iload_n hx hb dX4_probeReads_12 rfl (lv_at hl 2 rfl) ?_
  refine va_iald hx hb hK hP 3 0 rfl rfl (vp_in_nI (by omega) (by decide)) dX4_probeReads_13 ?_
  refine zz_top (y := (zU S) v) (congrArg (zU S) (nI_clamp (by omega))) ?_
  refine zz_top (y := S (11 + 3 * v)) (rfl) ?_
  refine lv_aload_n hx hb dX4_probeReads_14 rfl (lv_at hl 1 rfl) ?_
  refine va_get (D := D) (ci := 4) (v := .ref (ad 1)) (C := RX4) (T := TX4) (N := 8) hx hb htg iX4 hown hK hP 0 rfl rfl 0 (by decide) (htg _ tw_91) (fun _ h9 => h9) rfl dX4_probeReads_15 ?_
  refine va_get (D := D) (ci := 2) (v := .ref (ad 2)) (C := RX2) (T := TX2) (N := 10) hx hb htg iX2 hown hK hP 1 rfl rfl 0 (by decide) (htg _ tw_117) (fun _ h9 => h9) rfl dX4_probeReads_18 ?_
  refine lv_iload hx hb dX4_probeReads_21 (lv_at hl 0 rfl) ?_
  refine va_iald hx hb hK hP 2 0 rfl rfl (vp_in_nI (by omega) (by decide)) dX4_probeReads_23 ?_
  refine zz_top (y := (zT S) (v * 2)) (congrArg (zT S) (nI_clamp (by omega))) ?_
  refine zz_top (y := S (9 + 3 * v)) (congrArg S (by omega)) ?_
  refine lv_aload_n hx hb dX4_probeReads_24 rfl (lv_at hl 1 rfl) ?_
  refine va_get (D := D) (ci := 4) (v := .ref (ad 1)) (C := RX4) (T := TX4) (N := 8) hx hb htg iX4 hown hK hP 0 rfl rfl 0 (by decide) (htg _ tw_91) (fun _ h9 => h9) rfl dX4_probeReads_25 ?_
  refine va_get (D := D) (ci := 2) (v := .ref (ad 2)) (C := RX2) (T := TX2) (N := 10) hx hb htg iX2 hown hK hP 1 rfl rfl 0 (by decide) (htg _ tw_117) (fun _ h9 => h9) rfl dX4_probeReads_28 ?_
  refine lv_iload hx hb dX4_probeReads_31 (lv_at hl 0 rfl) ?_
  refine lv_iconst (v := 1) hx hb dX4_probeReads_33 (by decide) ?_
  refine lv_iadd hx hb dX4_probeReads_34 ?_
  refine zz_top (y := nI ((v * 2) + 1)) (nI_add (v * 2) 1) ?_
  refine va_iald hx hb hK hP 2 0 rfl rfl (vp_in_nI (by omega) (by decide)) dX4_probeReads_35 ?_
  refine zz_top (y := (zT S) ((v * 2) + 1)) (congrArg (zT S) (nI_clamp (by omega))) ?_
  refine zz_top (y := S (10 + 3 * v)) (congrArg S (by omega)) ?_
  refine lv_iload_n hx hb dX4_probeReads_36 rfl (lv_at hl 3 rfl) ?_
  refine zr_calli (va_runS (As := [.int (S (11 + 3 * v)), .int (S (9 + 3 * v)), .int (S (10 + 3 * v)), .int (nI o)]) (rest := []) ⟨hx, hb, hml, hown, hts⟩ (mX4_turnedTilt l (S (11 + 3 * v)) (S (9 + 3 * v)) (S (10 + 3 * v)) o (by first | assumption | rfl | omega | decide)) (va_cwS 4 hts (zgS tw_167 tw_46 tw_23 tw_47) rfl rfl rfl (by decide +kernel) ⟨Nat.le_of_ble_eq_true rfl, Nat.le_of_ble_eq_true rfl⟩) zP_pre rfl rfl hl.1 rfl (lv_room (Nat.le_of_ble_eq_true rfl)) dX4_probeReads_37 ⟨Nat.zero_le _, Nat.zero_le _⟩) hS (fun r_1 H locs hw_37 hT hS => ?_)
  replace hP := hT _ _ hP
  obtain rfl : r_1 = zTurn (S (11 + 3 * v)) (S (9 + 3 * v)) (S (10 + 3 * v)) o := hw_37
  refine lv_istore (lv' := [(5, .int (zTurn (S (11 + 3 * v)) (S (9 + 3 * v)) (S (10 + 3 * v)) o)), (4, .int (nI (v * 2))), (0, .ref (ad 0)), (1, .int (nI v)), (2, .int (nI o)), (3, .int (nI f))]) hx hb dX4_probeReads_40 hl (by decide) rfl (fun ls hl => ?_)
  refine lv_iload_n hx hb dX4_probeReads_42 rfl (lv_at hl 5 rfl) ?_
  refine lv_if_ne (tgt := 61) hx hb dX4_probeReads_43 (by decide) (fun c_43 => ?_) (fun c_43 => ?_)
  · replace c_43 : ¬ f = 0 := fun h => c_43 ((nI_eq (a := f) (b := 0) (by omega) (by omega)).mpr h)
    refine lv_aload_n hx hb dX4_probeReads_61 rfl (lv_at hl 2 rfl) ?_
    refine va_get (D := D) (ci := 4) (v := .ref (ad 1)) (C := RX4) (T := TX4) (N := 8) hx hb htg iX4 hown hK hP 0 rfl rfl 0 (by decide) (htg _ tw_91) (fun _ h9 => h9) rfl dX4_probeReads_62 ?_
    refine va_get (D := D) (ci := 2) (v := .ref (ad 4)) (C := RX2) (T := TX2) (N := 10) hx hb htg iX2 hown hK hP 1 rfl rfl 2 (by decide) (htg _ tw_149) (fun _ h9 => h9) rfl dX4_probeReads_65 ?_
    refine lv_iload_n hx hb dX4_probeReads_68 rfl (lv_at hl 4 rfl) ?_
    refine va_iald hx hb hK hP 4 0 rfl rfl (vp_in_nI (by omega) (by decide)) dX4_probeReads_69 ?_
    refine zz_top (y := (zB S) o) (congrArg (zB S) (nI_clamp (by omega))) ?_
    refine zz_top (y := S (2 + o)) (rfl) ?_
    refine lv_iload hx hb dX4_probeReads_70 (lv_at hl 0 rfl) ?_
    refine lv_isub hx hb dX4_probeReads_72 ?_
    exact W.iret (v := ((S (2 + o)) - (zTurn (S (11 + 3 * v)) (S (9 + 3 * v)) (S (10 + 3 * v)) o))) hx hb hr (fun t ht hW => ⟨⟨(S (2 + o)) - (zTurn (S (11 + 3 * v)) (S (9 + 3 * v)) (S (10 + 3 * v)) o), (), rfl, by simp [qPr, qOwn, c_43], trivial⟩, hS.F ht⟩) hS.2.2 dX4_probeReads_73
  · replace c_43 : f = 0 := (nI_eq (a := f) (b := 0) (by omega) (by omega)).mp c_43
    refine lv_aload_n hx hb dX4_probeReads_46 rfl (lv_at hl 2 rfl) ?_
    refine va_get (D := D) (ci := 4) (v := .ref (ad 1)) (C := RX4) (T := TX4) (N := 8) hx hb htg iX4 hown hK hP 0 rfl rfl 0 (by decide) (htg _ tw_91) (fun _ h9 => h9) rfl dX4_probeReads_47 ?_
    refine va_get (D := D) (ci := 2) (v := .ref (ad 4)) (C := RX2) (T := TX2) (N := 10) hx hb htg iX2 hown hK hP 1 rfl rfl 2 (by decide) (htg _ tw_149) (fun _ h9 => h9) rfl dX4_probeReads_50 ?_
    refine lv_iload_n hx hb dX4_probeReads_53 rfl (lv_at hl 4 rfl) ?_
    refine va_iald hx hb hK hP 4 0 rfl rfl (vp_in_nI (by omega) (by decide)) dX4_probeReads_54 ?_
    refine zz_top (y := (zB S) o) (congrArg (zB S) (nI_clamp (by omega))) ?_
    refine zz_top (y := S (2 + o)) (rfl) ?_
    refine lv_iload hx hb dX4_probeReads_55 (lv_at hl 0 rfl) ?_
    refine lv_iadd hx hb dX4_probeReads_57 ?_
    refine lv_goto (tgt := 73) hx hb dX4_probeReads_58 (by decide) ?_
    exact W.iret (v := ((S (2 + o)) + (zTurn (S (11 + 3 * v)) (S (9 + 3 * v)) (S (10 + 3 * v)) o))) hx hb hr (fun t ht hW => ⟨⟨(S (2 + o)) + (zTurn (S (11 + 3 * v)) (S (9 + 3 * v)) (S (10 + 3 * v)) o), (), rfl, by simp [qPr, qOwn, c_43], trivial⟩, hS.F ht⟩) hS.2.2 dX4_probeReads_73
