set_option maxHeartbeats 4000000 in
set_option maxRecDepth 100000 in
theorem mX4_needIndex (l : Launch) (i : Nat) (n : Nat) (hi : i < n) (hn : n < 2147483648) : Met l yX4_needIndex (ws_ yX4_needIndex cX4_needIndex 2 none) ({ frames := 0, cells := 0, slots := 0, locals := 0 }) (va_Pc [.int (nI i), .int (nI n)] (fun _ => True)) (va_Qv (fun (_ : Unit) => True) (fun _ _ => True) (fun _ => False)) 0 0 (fun _ => False) := by
  refine Met.ofW (cc := cX4_needIndex) (maxL := 2) (ret := none) (by decide) rfl ?_
  intro p e s m args below meth c s₁ B hml hpre9
  obtain ⟨rfl, -⟩ := hpre9
  have hx := B.exec
  have hb := B.bytes
  have hr := B.returns
  have hts := atoms_spec (ws := (ws_ yX4_needIndex cX4_needIndex 2 none)) B.pre
  have htg : ∀ w ∈ gT, w.before _ s = true := fun w h => hts w (List.mem_cons_of_mem _ h)
  have hown : s.vm.findClass RX4 = some m.cls := findClass_of_methodNamed B.named
  have hlocks := B.notSynchronized
  have hS : va_S (fun _ => False) s.heap s.heap [] := va_S.rf
  have hl := lv_entry ([.int (nI i), .int (nI n)]) (n := 2) (Nat.le_of_ble_eq_true rfl)
  rw [lg_entry_eq]
  generalize (lg_sl ([.int (nI i), .int (nI n)]) ++ List.replicate (2 - (lg_sl ([.int (nI i), .int (nI n)])).length) Slot.unset).toArray = ls at hl ⊢
  have hl : lv_has ls 2 [(0, .int (nI i)), (1, .int (nI n))] := hl
  refine lv_iload_n hx hb dX4_needIndex_0 rfl (lv_at hl 0 rfl) ?_
  refine lv_if_lt (tgt := 9) hx hb dX4_needIndex_1 (by decide) (fun c_1 => absurd c_1 (nI_pos (by omega))) (fun _ => ?_)
  refine lv_iload_n hx hb dX4_needIndex_4 rfl (lv_at hl 0 rfl) ?_
  refine lv_iload_n hx hb dX4_needIndex_5 rfl (lv_at hl 1 rfl) ?_
  refine lv_icmp_lt (tgt := 19) hx hb dX4_needIndex_6 (by decide) (fun _ => ?_) (fun c_6 => absurd (nI_lt hi (by omega)) c_6)
  exact W.vret hx hb hr (fun t ht hW => ⟨⟨(), rfl, by first | rfl | trivial | simp_all, trivial⟩, hS.F ht⟩) hS.2.2 dX4_needIndex_19

set_option maxHeartbeats 4000000 in
set_option maxRecDepth 100000 in
theorem mX4_needRange (l : Launch) (v : Int32) (lo : Int32) (hi : Int32) (h1 : ¬ v < lo ∧ ¬ hi < v) : Met l yX4_needRange (ws_ yX4_needRange cX4_needRange 3 none) ({ frames := 1, cells := 0, slots := 0, locals := 22 }) (va_Pc [.int v, .int lo, .int hi] (fun _ => True)) (va_Qv (fun (_ : Unit) => True) (fun _ _ => True) (fun _ => False)) 0 0 (fun _ => False) := by
  refine Met.ofW (cc := cX4_needRange) (maxL := 3) (ret := none) (by decide) rfl ?_
  intro p e s m args below meth c s₁ B hml hpre9
  obtain ⟨rfl, -⟩ := hpre9
  have hx := B.exec
  have hb := B.bytes
  have hr := B.returns
  have hts := atoms_spec (ws := (ws_ yX4_needRange cX4_needRange 3 none)) B.pre
  have htg : ∀ w ∈ gT, w.before _ s = true := fun w h => hts w (List.mem_cons_of_mem _ h)
  have hown : s.vm.findClass RX4 = some m.cls := findClass_of_methodNamed B.named
  have hlocks := B.notSynchronized
  have hS : va_S (fun _ => False) s.heap s.heap [] := va_S.rf
  have hl := lv_entry ([.int v, .int lo, .int hi]) (n := 3) (Nat.le_of_ble_eq_true rfl)
  rw [lg_entry_eq]
  generalize (lg_sl ([.int v, .int lo, .int hi]) ++ List.replicate (3 - (lg_sl ([.int v, .int lo, .int hi])).length) Slot.unset).toArray = ls at hl ⊢
  have hl : lv_has ls 3 [(0, .int v), (1, .int lo), (2, .int hi)] := hl
  refine lv_iload_n hx hb dX4_needRange_0 rfl (lv_at hl 0 rfl) ?_
  refine lv_iload_n hx hb dX4_needRange_1 rfl (lv_at hl 1 rfl) ?_
  refine lv_iload_n hx hb dX4_needRange_2 rfl (lv_at hl 2 rfl) ?_
  refine zr_calli (va_runS (As := [.int v, .int lo, .int hi]) (rest := []) ⟨hx, hb, hml, hown, hts⟩ (mX4_isWithin l v lo hi) (va_cwS 3 hts (zgS tw_128 tw_129 tw_23 tw_130) rfl rfl rfl (by decide +kernel) ⟨Nat.le_of_ble_eq_true rfl, Nat.le_of_ble_eq_true rfl⟩) zP_pre rfl rfl hl.1 rfl (lv_room (Nat.le_of_ble_eq_true rfl)) dX4_needRange_3 ⟨Nat.zero_le _, Nat.zero_le _⟩) hS (fun r_1 H locs hw_3 hT hS => ?_)
  obtain rfl : r_1 = (if ¬ v < lo ∧ ¬ hi < v then (1 : Int32) else 0) := hw_3
  refine lv_if_ne (tgt := 19) hx hb dX4_needRange_6 (by decide) (fun _ => ?_) (fun c_6 => absurd c_6 (zb1.mpr h1))
  exact W.vret hx hb hr (fun t ht hW => ⟨⟨(), rfl, by first | rfl | trivial | simp_all, trivial⟩, hS.F ht⟩) hS.2.2 dX4_needRange_19

set_option maxHeartbeats 4000000 in
set_option maxRecDepth 100000 in
theorem mX4_needState (l : Launch) (v : Int32) (h1 : ¬ v = 0) : Met l yX4_needState (ws_ yX4_needState cX4_needState 1 none) ({ frames := 0, cells := 0, slots := 0, locals := 0 }) (va_Pc [.int v] (fun _ => True)) (va_Qv (fun (_ : Unit) => True) (fun _ _ => True) (fun _ => False)) 0 0 (fun _ => False) := by
  refine Met.ofW (cc := cX4_needState) (maxL := 1) (ret := none) (by decide) rfl ?_
  intro p e s m args below meth c s₁ B hml hpre9
  obtain ⟨rfl, -⟩ := hpre9
  have hx := B.exec
  have hb := B.bytes
  have hr := B.returns
  have hts := atoms_spec (ws := (ws_ yX4_needState cX4_needState 1 none)) B.pre
  have htg : ∀ w ∈ gT, w.before _ s = true := fun w h => hts w (List.mem_cons_of_mem _ h)
  have hown : s.vm.findClass RX4 = some m.cls := findClass_of_methodNamed B.named
  have hlocks := B.notSynchronized
  have hS : va_S (fun _ => False) s.heap s.heap [] := va_S.rf
  have hl := lv_entry ([.int v]) (n := 1) (Nat.le_of_ble_eq_true rfl)
  rw [lg_entry_eq]
  generalize (lg_sl ([.int v]) ++ List.replicate (1 - (lg_sl ([.int v])).length) Slot.unset).toArray = ls at hl ⊢
  have hl : lv_has ls 1 [(0, .int v)] := hl
  refine lv_iload_n hx hb dX4_needState_0 rfl (lv_at hl 0 rfl) ?_
  refine lv_if_ne (tgt := 14) hx hb dX4_needState_1 (by decide) (fun _ => ?_) (fun c_1 => absurd c_1 (h1))
  exact W.vret hx hb hr (fun t ht hW => ⟨⟨(), rfl, by first | rfl | trivial | simp_all, trivial⟩, hS.F ht⟩) hS.2.2 dX4_needState_14
