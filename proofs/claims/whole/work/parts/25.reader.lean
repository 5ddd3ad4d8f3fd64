def rVal (q : Nat → Nat) : Int32 := if q 5 = 0 then nI (q 4) else -nI (q 4)
theorem zfr4 {q u : Nat → Nat} {c : Nat} {r : Int32} (g : rGood q) (h : q 0 = 4) (hc : ¬ c = 45) (k : (rD c ∧ r = 1 ∧ u = rSet (rSet (rSet q 5 0) 4 (c - 48)) 0 6) ∨ (¬ rD c ∧ r = 0 ∧ u = rSet q 5 0)) : rTk q c r u := by
  rcases k with ⟨k1, rfl, rfl⟩ | ⟨k1, rfl, rfl⟩
  · exact rTk_y g ((rOk_4 h).mpr (Or.inr k1)) (rNx_4b h hc)
  · exact ⟨Or.inr ⟨fun z => k1 (((rOk_4 h).mp z).resolve_left hc), rfl⟩, ⟨g.1, g.2.1, g.2.2.1, g.2.2.2.1, g.2.2.2.2.1, by show 0 < 2; decide⟩⟩
theorem zfr5n {q u : Nat → Nat} {c : Nat} {r : Int32} (g : rGood q) (h : q 0 = 5) (_ : ¬ c = 48) (hr : r = 0) (k : (rD c ∧ r = 1 ∧ u = rSet (rSet q 4 (c - 48)) 0 6) ∨ (¬ rD c ∧ r = 0 ∧ u = q)) : rTk q c 0 u := by
  rcases k with ⟨k1, k2, k3⟩ | ⟨k1, k2, k3⟩
  · rw [k2] at hr; exact absurd hr (by decide)
  · rw [k3]; exact rTk_n g (fun z => k1 ((rOk_5 h).mp z).2)
theorem zfr5y {q u : Nat → Nat} {c : Nat} {r : Int32} (g : rGood q) (h : q 0 = 5) (hc : ¬ c = 48) (hr : ¬ r = 0) (k : (rD c ∧ r = 1 ∧ u = rSet (rSet q 4 (c - 48)) 0 6) ∨ (¬ rD c ∧ r = 0 ∧ u = q)) : rTk q c 1 u := by
  rcases k with ⟨k1, k2, k3⟩ | ⟨k1, k2, k3⟩
  · rw [k3]; exact rTk_y g ((rOk_5 h).mpr ⟨hc, k1⟩) (rNx_5 h)
  · exact absurd k2 hr
set_option maxHeartbeats 4000000 in
set_option maxRecDepth 100000 in
theorem mX3_isDigit (l : Launch) (ch : Nat) (hch : ch < 65536) : Met l yX3_isDigit (ws_ yX3_isDigit cX3_isDigit 1 (some .boolean)) ({ frames := 0, cells := 0, slots := 0, locals := 0 }) (va_Pc [.int (nI ch)] (fun _ => True)) (va_Qi (fun (r : Int32) (_ : Unit) => r = (if rD ch then 1 else 0)) (fun _ _ => True) (fun _ => False)) 0 0 (fun _ => False) := by
  refine Met.ofW (cc := cX3_isDigit) (maxL := 1) (ret := (some .boolean)) (by decide) rfl ?_
  intro p e s m args below meth c s₁ B hml hpre9
  obtain ⟨rfl, -⟩ := hpre9
  have hx := B.exec
  have hb := B.bytes
  have hr := B.returns
  have hts := atoms_spec (ws := (ws_ yX3_isDigit cX3_isDigit 1 (some .boolean))) B.pre
  have htg : ∀ w ∈ gT, w.before _ s = true := fun w h => hts w (List.mem_cons_of_mem _ h)
  have hown : s.vm.findClass RX3 = some m.cls := findClass_of_methodNamed B.named
  have hlocks := B.notSynchronized
  have hS : va_S (fun _ => False) s.heap s.heap [] := va_S.rf
  have hl := lv_entry ([.int (nI ch)]) (n := 1) (Nat.le_of_ble_eq_true rfl)
  rw [lg_entry_eq]
  generalize (lg_sl ([.int (nI ch)]) ++ List.replicate (1 - (lg_sl ([.int (nI ch)])).length) Slot.unset).toArray = ls at hl ⊢
  have hl : lv_has ls 1 [(0, .int (nI ch))] := hl
  refine lv_iload_n hx hb dX3_isDigit_0 rfl (lv_at hl 0 rfl) ?_
  refine lv_bipush (v := 48) hx hb dX3_isDigit_1 (by decide) ?_
  refine lv_icmp_lt (tgt := 16) hx hb dX3_isDigit_3 (by decide) (fun c_3 => ?_) (fun c_3 => ?_)
  · replace c_3 : ch < 48 := (nI_ltI (a := ch) (b := 48) (by omega) (by omega)).mp c_3
    refine lv_iconst (v := 0) hx hb dX3_isDigit_16 (by decide) ?_
    exact W.zret (v := 0) hx hb hr (by first | rfl | (split <;> rfl)) (fun t ht hW => ⟨⟨0, (), rfl, (if_neg (by omega)).symm, trivial⟩, hS.F ht⟩) hS.2.2 dX3_isDigit_17
  · replace c_3 : ¬ ch < 48 := fun h => c_3 ((nI_ltI (a := ch) (b := 48) (by omega) (by omega)).mpr h)
    refine lv_iload_n hx hb dX3_isDigit_6 rfl (lv_at hl 0 rfl) ?_
    refine lv_bipush (v := 57) hx hb dX3_isDigit_7 (by decide) ?_
    refine lv_icmp_gt (tgt := 16) hx hb dX3_isDigit_9 (by decide) (fun c_9 => ?_) (fun c_9 => ?_)
    · replace c_9 : 57 < ch := (nI_ltI (a := 57) (b := ch) (by omega) (by omega)).mp c_9
      refine lv_iconst (v := 0) hx hb dX3_isDigit_16 (by decide) ?_
      exact W.zret (v := 0) hx hb hr (by first | rfl | (split <;> rfl)) (fun t ht hW => ⟨⟨0, (), rfl, (if_neg (by omega)).symm, trivial⟩, hS.F ht⟩) hS.2.2 dX3_isDigit_17
    · replace c_9 : ¬ 57 < ch := fun h => c_9 ((nI_ltI (a := 57) (b := ch) (by omega) (by omega)).mpr h)
      refine lv_iconst (v := 1) hx hb dX3_isDigit_12 (by decide) ?_
      refine lv_goto (tgt := 17) hx hb dX3_isDigit_13 (by decide) ?_
      exact W.zret (v := 1) hx hb hr (by first | rfl | (split <;> rfl)) (fun t ht hW => ⟨⟨1, (), rfl, (if_pos (by omega)).symm, trivial⟩, hS.F ht⟩) hS.2.2 dX3_isDigit_17

set_option maxHeartbeats 4000000 in
set_option maxRecDepth 100000 in
theorem mX3_begin (l : Launch) (D : va_G) (y : Nat → ClassId) (sz : Nat) (h : Nat → Nat) (q : (Nat → Nat)) : Met l yX3_begin (ws_ yX3_begin cX3_begin 1 none) ({ frames := 0, cells := 0, slots := 0, locals := 0 }) (va_Pc [.ref (h 0)] (zRW D y [((h 0), .inr (3, [.int (nI (q 0)), .int (nI (q 1)), .int (nI (q 2)), .int (nI (q 3)), .int (nI (q 4)), .int (nI (q 5))]))] sz)) (va_Qv (fun (_ : Unit) => True) (fun (_ : Unit) t => zOut D (va_A [((h 0), .inr (3, [.int (nI (q 0)), .int (nI (q 1)), .int (nI (q 2)), .int (nI (q 3)), .int (nI (q 4)), .int (nI (q 5))]))] sz) [((h 0), .inr (3, [.int (nI ((rSet q 0 0) 0)), .int (nI ((rSet q 0 0) 1)), .int (nI ((rSet q 0 0) 2)), .int (nI ((rSet q 0 0) 3)), .int (nI ((rSet q 0 0) 4)), .int (nI ((rSet q 0 0) 5))]))] t) (va_A [((h 0), .inr (3, [.int (nI (q 0)), .int (nI (q 1)), .int (nI (q 2)), .int (nI (q 3)), .int (nI (q 4)), .int (nI (q 5))]))] sz)) 0 0 (va_A [((h 0), .inr (3, [.int (nI (q 0)), .int (nI (q 1)), .int (nI (q 2)), .int (nI (q 3)), .int (nI (q 4)), .int (nI (q 5))]))] sz) := by
  refine Met.ofW (cc := cX3_begin) (maxL := 1) (ret := none) (by decide) rfl ?_
  intro p e s m args below meth c s₁ B hml hpre9
  obtain ⟨rfl, hsz, hP, hKN, hD0⟩ := hpre9
  have hK := hKN.1
  have hx := B.exec
  have hb := B.bytes
  have hr := B.returns
  have hts := atoms_spec (ws := (ws_ yX3_begin cX3_begin 1 none)) B.pre
  have htg : ∀ w ∈ gT, w.before _ s = true := fun w h => hts w (List.mem_cons_of_mem _ h)
  have hown : s.vm.findClass RX3 = some m.cls := findClass_of_methodNamed B.named
  have hlocks := B.notSynchronized
  subst hsz
  have hD := hD0.self (sz := s.heap.size)
  clear hD0
  generalize hAe : va_A [((h 0), .inr (3, [.int (nI (q 0)), .int (nI (q 1)), .int (nI (q 2)), .int (nI (q 3)), .int (nI (q 4)), .int (nI (q 5))]))] s.heap.size = A at hD ⊢
  have hA : ∀ q : Nat, s.heap.size ≤ q → A q := fun q h => by rw [← hAe]; exact Or.inr h
  have hS : va_S A s.heap s.heap [] := va_S.rf
  have hP : va_P D vwCl [((h 0), .inr (3, [.int (nI (q 0)), .int (nI (q 1)), .int (nI (q 2)), .int (nI (q 3)), .int (nI (q 4)), .int (nI (q 5))]))] s.heap := hP
  have hl := lv_entry ([.ref (h 0)]) (n := 1) (Nat.le_of_ble_eq_true rfl)
  rw [lg_entry_eq]
  generalize (lg_sl ([.ref (h 0)]) ++ List.replicate (1 - (lg_sl ([.ref (h 0)])).length) Slot.unset).toArray = ls at hl ⊢
  have hl : lv_has ls 1 [(0, .ref (h 0))] := hl
  refine lv_aload_n hx hb dX3_begin_0 rfl (lv_at hl 0 rfl) ?_
  refine lv_iconst (v := 0) hx hb dX3_begin_1 (by decide) ?_
  refine va_put (D := D) (ci := 3) (v := .int 0) (ty := .int) (C := RX3) (T := TX3) (N := 6) hx hb htg iX3 tyX3 tyX3_ok nmX3 hown hK hP hD hS 0 rfl rfl 0 (by decide) (htg _ tw_82) (fun _ h9 => h9) rfl (tyX3_ok 0 (by decide)) (rfl) (rfl) (Nat.le_of_ble_eq_true rfl) dX3_begin_2 (fun H locs hP hD hS => ?_)
  have hP : va_P D vwCl [((h 0), .inr (3, [.int 0, .int (nI (q 1)), .int (nI (q 2)), .int (nI (q 3)), .int (nI (q 4)), .int (nI (q 5))]))] H := hP
  have hD : va_D A [((h 0), .inr (3, [.int 0, .int (nI (q 1)), .int (nI (q 2)), .int (nI (q 3)), .int (nI (q 4)), .int (nI (q 5))]))] := hD
  refine W.widen (k := 0) (n := 0) (by first | exact Nat.le_of_ble_eq_true rfl | omega) (by first | exact Nat.le_of_ble_eq_true rfl | omega) ?_
  exact W.vret hx hb hr (fun t ht hW => ⟨⟨(), rfl, by first | rfl | trivial | simp_all, ⟨by rw [ht]; exact hP, hD⟩⟩, hS.F ht⟩) hS.2.2 dX3_begin_5

set_option maxHeartbeats 4000000 in
set_option maxRecDepth 100000 in
theorem mX3_mayEnd (l : Launch) (D : va_G) (y : Nat → ClassId) (h : Nat → Nat) (q : (Nat → Nat)) (hg : rGood q) : Met l yX3_mayEnd (ws_ yX3_mayEnd cX3_mayEnd 1 (some .boolean)) ({ frames := 0, cells := 0, slots := 0, locals := 0 }) (va_Pc [.ref (h 0)] (zRO D y [((h 0), .inr (3, [.int (nI (q 0)), .int (nI (q 1)), .int (nI (q 2)), .int (nI (q 3)), .int (nI (q 4)), .int (nI (q 5))]))])) (va_Qi (fun (r : Int32) (_ : Unit) => r = (if q 0 = 6 then 1 else 0)) (fun _ _ => True) (fun _ => False)) 0 0 (fun _ => False) := by
  refine Met.ofW (cc := cX3_mayEnd) (maxL := 1) (ret := (some .boolean)) (by decide) rfl ?_
  intro p e s m args below meth c s₁ B hml hpre9
  obtain ⟨rfl, hP, hKN⟩ := hpre9
  have hK := hKN.1
  have hx := B.exec
  have hb := B.bytes
  have hr := B.returns
  have hts := atoms_spec (ws := (ws_ yX3_mayEnd cX3_mayEnd 1 (some .boolean))) B.pre
  have htg : ∀ w ∈ gT, w.before _ s = true := fun w h => hts w (List.mem_cons_of_mem _ h)
  have hown : s.vm.findClass RX3 = some m.cls := findClass_of_methodNamed B.named
  have hlocks := B.notSynchronized
  have hS : va_S (fun _ => False) s.heap s.heap [] := va_S.rf
  have hP : va_P D vwCl [((h 0), .inr (3, [.int (nI (q 0)), .int (nI (q 1)), .int (nI (q 2)), .int (nI (q 3)), .int (nI (q 4)), .int (nI (q 5))]))] s.heap := hP
  have hl := lv_entry ([.ref (h 0)]) (n := 1) (Nat.le_of_ble_eq_true rfl)
  rw [lg_entry_eq]
  generalize (lg_sl ([.ref (h 0)]) ++ List.replicate (1 - (lg_sl ([.ref (h 0)])).length) Slot.unset).toArray = ls at hl ⊢
  have hl : lv_has ls 1 [(0, .ref (h 0))] := hl
  have hg0 := hg.1
  refine lv_aload_n hx hb dX3_mayEnd_0 rfl (lv_at hl 0 rfl) ?_
  refine va_get (D := D) (ci := 3) (v := .int (nI (q 0))) (C := RX3) (T := TX3) (N := 6) hx hb htg iX3 hown hK hP 0 rfl rfl 0 (by decide) (htg _ tw_82) (fun _ h9 => h9) rfl dX3_mayEnd_1 ?_
  refine lv_bipush (v := 6) hx hb dX3_mayEnd_4 (by decide) ?_
  refine lv_icmp_ne (tgt := 13) hx hb dX3_mayEnd_6 (by decide) (fun c_6 => ?_) (fun c_6 => ?_)
  · replace c_6 : ¬ (q 0) = 6 := fun h => c_6 ((nI_eq (a := (q 0)) (b := 6) (by omega) (by omega)).mpr h)
    refine lv_iconst (v := 0) hx hb dX3_mayEnd_13 (by decide) ?_
    exact W.zret (v := 0) hx hb hr (by first | rfl | (split <;> rfl)) (fun t ht hW => ⟨⟨0, (), rfl, (if_neg c_6).symm, trivial⟩, hS.F ht⟩) hS.2.2 dX3_mayEnd_14
  · replace c_6 : (q 0) = 6 := (nI_eq (a := (q 0)) (b := 6) (by omega) (by omega)).mp c_6
    refine lv_iconst (v := 1) hx hb dX3_mayEnd_9 (by decide) ?_
    refine lv_goto (tgt := 14) hx hb dX3_mayEnd_10 (by decide) ?_
    exact W.zret (v := 1) hx hb hr (by first | rfl | (split <;> rfl)) (fun t ht hW => ⟨⟨1, (), rfl, (if_pos c_6).symm, trivial⟩, hS.F ht⟩) hS.2.2 dX3_mayEnd_14

set_option maxHeartbeats 4000000 in
set_option maxRecDepth 100000 in
theorem mX3_readingTold (l : Launch) (D : va_G) (y : Nat → ClassId) (h : Nat → Nat) (q : (Nat → Nat)) (hg : rGood q) : Met l yX3_readingTold (ws_ yX3_readingTold cX3_readingTold 1 (some .int)) ({ frames := 0, cells := 0, slots := 0, locals := 0 }) (va_Pc [.ref (h 0)] (zRO D y [((h 0), .inr (3, [.int (nI (q 0)), .int (nI (q 1)), .int (nI (q 2)), .int (nI (q 3)), .int (nI (q 4)), .int (nI (q 5))]))])) (va_Qi (fun (r : Int32) (_ : Unit) => r = rVal q) (fun _ _ => True) (fun _ => False)) 0 0 (fun _ => False) := by
  refine Met.ofW (cc := cX3_readingTold) (maxL := 1) (ret := (some .int)) (by decide) rfl ?_
  intro p e s m args below meth c s₁ B hml hpre9
  obtain ⟨rfl, hP, hKN⟩ := hpre9
  have hK := hKN.1
  have hx := B.exec
  have hb := B.bytes
  have hr := B.returns
  have hts := atoms_spec (ws := (ws_ yX3_readingTold cX3_readingTold 1 (some .int))) B.pre
  have htg : ∀ w ∈ gT, w.before _ s = true := fun w h => hts w (List.mem_cons_of_mem _ h)
  have hown : s.vm.findClass RX3 = some m.cls := findClass_of_methodNamed B.named
  have hlocks := B.notSynchronized
  have hS : va_S (fun _ => False) s.heap s.heap [] := va_S.rf
  have hP : va_P D vwCl [((h 0), .inr (3, [.int (nI (q 0)), .int (nI (q 1)), .int (nI (q 2)), .int (nI (q 3)), .int (nI (q 4)), .int (nI (q 5))]))] s.heap := hP
  have hl := lv_entry ([.ref (h 0)]) (n := 1) (Nat.le_of_ble_eq_true rfl)
  rw [lg_entry_eq]
  generalize (lg_sl ([.ref (h 0)]) ++ List.replicate (1 - (lg_sl ([.ref (h 0)])).length) Slot.unset).toArray = ls at hl ⊢
  have hl : lv_has ls 1 [(0, .ref (h 0))] := hl
  have hg5 := hg.2.2.2.2.2
  refine lv_aload_n hx hb dX3_readingTold_0 rfl (lv_at hl 0 rfl) ?_
  refine va_get (D := D) (ci := 3) (v := .int (nI (q 5))) (C := RX3) (T := TX3) (N := 6) hx hb htg iX3 hown hK hP 0 rfl rfl 5 (by decide) (htg _ tw_87) (fun _ h9 => h9) rfl dX3_readingTold_1 ?_
  refine lv_if_eq (tgt := 15) hx hb dX3_readingTold_4 (by decide) (fun c_4 => ?_) (fun c_4 => ?_)
  · replace c_4 : (q 5) = 0 := (nI_eq (a := (q 5)) (b := 0) (by omega) (by omega)).mp c_4
    refine lv_aload_n hx hb dX3_readingTold_15 rfl (lv_at hl 0 rfl) ?_
    refine va_get (D := D) (ci := 3) (v := .int (nI (q 4))) (C := RX3) (T := TX3) (N := 6) hx hb htg iX3 hown hK hP 0 rfl rfl 4 (by decide) (htg _ tw_86) (fun _ h9 => h9) rfl dX3_readingTold_16 ?_
    exact W.iret (v := (nI (q 4))) hx hb hr (fun t ht hW => ⟨⟨nI (q 4), (), rfl, (if_pos c_4).symm, trivial⟩, hS.F ht⟩) hS.2.2 dX3_readingTold_19
  · replace c_4 : ¬ (q 5) = 0 := fun h => c_4 ((nI_eq (a := (q 5)) (b := 0) (by omega) (by omega)).mpr h)
    refine lv_aload_n hx hb dX3_readingTold_7 rfl (lv_at hl 0 rfl) ?_
    refine va_get (D := D) (ci := 3) (v := .int (nI (q 4))) (C := RX3) (T := TX3) (N := 6) hx hb htg iX3 hown hK hP 0 rfl rfl 4 (by decide) (htg _ tw_86) (fun _ h9 => h9) rfl dX3_readingTold_8 ?_
    refine lv_ineg hx hb dX3_readingTold_11 ?_
    refine lv_goto (tgt := 19) hx hb dX3_readingTold_12 (by decide) ?_
    exact W.iret (v := (-(nI (q 4)))) hx hb hr (fun t ht hW => ⟨⟨-(nI (q 4)), (), rfl, (if_neg c_4).symm, trivial⟩, hS.F ht⟩) hS.2.2 dX3_readingTold_19

set_option maxHeartbeats 4000000 in
set_option maxRecDepth 100000 in
theorem mX3_takesFirstOfLevel (l : Launch) (D : va_G) (y : Nat → ClassId) (sz : Nat) (h : Nat → Nat) (q : (Nat → Nat)) (ch : Nat) (hg : rGood q) (hch : ch < 65536) (hq0 : q 0 = 0) : Met l yX3_takesFirstOfLevel (ws_ yX3_takesFirstOfLevel cX3_takesFirstOfLevel 2 (some .boolean)) ({ frames := 1, cells := 0, slots := 0, locals := 20 }) (va_Pc [.ref (h 0), .int (nI ch)] (zRW D y [((h 0), .inr (3, [.int (nI (q 0)), .int (nI (q 1)), .int (nI (q 2)), .int (nI (q 3)), .int (nI (q 4)), .int (nI (q 5))]))] sz)) (va_Qi (fun (r : Int32) (u : (Nat → Nat)) => rTk q ch r u) (fun (u : (Nat → Nat)) t => zOut D (va_A [((h 0), .inr (3, [.int (nI (q 0)), .int (nI (q 1)), .int (nI (q 2)), .int (nI (q 3)), .int (nI (q 4)), .int (nI (q 5))]))] sz) [((h 0), .inr (3, [.int (nI (u 0)), .int (nI (u 1)), .int (nI (u 2)), .int (nI (u 3)), .int (nI (u 4)), .int (nI (u 5))]))] t) (va_A [((h 0), .inr (3, [.int (nI (q 0)), .int (nI (q 1)), .int (nI (q 2)), .int (nI (q 3)), .int (nI (q 4)), .int (nI (q 5))]))] sz)) 0 0 (va_A [((h 0), .inr (3, [.int (nI (q 0)), .int (nI (q 1)), .int (nI (q 2)), .int (nI (q 3)), .int (nI (q 4)), .int (nI (q 5))]))] sz) := by
  refine Met.ofW (cc := cX3_takesFirstOfLevel) (maxL := 2) (ret := (some .boolean)) (by decide) rfl ?_
  intro p e s m args below meth c s₁ B hml hpre9
  obtain ⟨rfl, hsz, hP, hKN, hD0⟩ := hpre9
  have hK := hKN.1
  have hx := B.exec
  have hb := B.bytes
  have hr := B.returns
  have hts := atoms_spec (ws := (ws_ yX3_takesFirstOfLevel cX3_takesFirstOfLevel 2 (some .boolean))) B.pre
  have htg : ∀ w ∈ gT, w.before _ s = true := fun w h => hts w (List.mem_cons_of_mem _ h)
  have hown : s.vm.findClass RX3 = some m.cls := findClass_of_methodNamed B.named
  have hlocks := B.notSynchronized
  subst hsz
  have hD := hD0.self (sz := s.heap.size)
  clear hD0
  generalize hAe : va_A [((h 0), .inr (3, [.int (nI (q 0)), .int (nI (q 1)), .int (nI (q 2)), .int (nI (q 3)), .int (nI (q 4)), .int (nI (q 5))]))] s.heap.size = A at hD ⊢
  have hA : ∀ q : Nat, s.heap.size ≤ q → A q := fun q h => by rw [← hAe]; exact Or.inr h
  have hS : va_S A s.heap s.heap [] := va_S.rf
  have hP : va_P D vwCl [((h 0), .inr (3, [.int (nI (q 0)), .int (nI (q 1)), .int (nI (q 2)), .int (nI (q 3)), .int (nI (q 4)), .int (nI (q 5))]))] s.heap := hP
  have hl := lv_entry ([.ref (h 0), .int (nI ch)]) (n := 2) (Nat.le_of_ble_eq_true rfl)
  rw [lg_entry_eq]
  generalize (lg_sl ([.ref (h 0), .int (nI ch)]) ++ List.replicate (2 - (lg_sl ([.ref (h 0), .int (nI ch)])).length) Slot.unset).toArray = ls at hl ⊢
  have hl : lv_has ls 2 [(0, .ref (h 0)), (1, .int (nI ch))] := hl
  obtain ⟨hg0, hg1, hg2, hg3, hg4, hg5⟩ := id hg
  refine lv_iload_n hx hb dX3_takesFirstOfLevel_0 rfl (lv_at hl 1 rfl) ?_
  refine zr_calli (va_runS (As := [.int (nI ch)]) (rest := []) ⟨hx, hb, hml, hown, hts⟩ (mX3_isDigit l ch (by first | assumption | rfl | omega | decide)) (va_cwS 1 hts (zgS tw_97 tw_98 tw_95 tw_99) rfl rfl rfl (by decide +kernel) ⟨Nat.le_of_ble_eq_true rfl, Nat.le_of_ble_eq_true rfl⟩) zP_pre rfl rfl hl.1 rfl (lv_room (Nat.le_of_ble_eq_true rfl)) dX3_takesFirstOfLevel_1 ⟨Nat.zero_le _, Nat.zero_le _⟩) hS (fun r_1 H locs hw_1 hT hS => ?_)
  replace hP := hT _ _ hP
  obtain rfl : r_1 = (if rD ch then (1 : Int32) else 0) := hw_1
  refine lv_if_ne (tgt := 9) hx hb dX3_takesFirstOfLevel_4 (by decide) (fun c_4 => ?_) (fun c_4 => ?_)
  · replace c_4 := zb1.mp c_4
    refine lv_aload_n hx hb dX3_takesFirstOfLevel_9 rfl (lv_at hl 0 rfl) ?_
    refine lv_iload_n hx hb dX3_takesFirstOfLevel_10 rfl (lv_at hl 1 rfl) ?_
    refine lv_bipush (v := 48) hx hb dX3_takesFirstOfLevel_11 (by decide) ?_
    refine lv_isub hx hb dX3_takesFirstOfLevel_13 ?_
    refine zz_top (y := nI (ch - 48)) (pk_sub (a := ch) (b := 48) (by omega)) ?_
    refine va_put (D := D) (ci := 3) (v := .int (nI (ch - 48))) (ty := .int) (C := RX3) (T := TX3) (N := 6) hx hb htg iX3 tyX3 tyX3_ok nmX3 hown hK hP hD hS 0 rfl rfl 1 (by decide) (htg _ tw_83) (fun _ h9 => h9) rfl (tyX3_ok 1 (by decide)) (rfl) (rfl) (Nat.le_of_ble_eq_true rfl) dX3_takesFirstOfLevel_14 (fun H locs hP hD hS => ?_)
    have hP : va_P D vwCl [((h 0), .inr (3, [.int (nI (q 0)), .int (nI (ch - 48)), .int (nI (q 2)), .int (nI (q 3)), .int (nI (q 4)), .int (nI (q 5))]))] H := hP
    have hD : va_D A [((h 0), .inr (3, [.int (nI (q 0)), .int (nI (ch - 48)), .int (nI (q 2)), .int (nI (q 3)), .int (nI (q 4)), .int (nI (q 5))]))] := hD
    refine lv_aload_n hx hb dX3_takesFirstOfLevel_17 rfl (lv_at hl 0 rfl) ?_
    refine lv_iconst (v := 1) hx hb dX3_takesFirstOfLevel_18 (by decide) ?_
    refine va_put (D := D) (ci := 3) (v := .int 1) (ty := .int) (C := RX3) (T := TX3) (N := 6) hx hb htg iX3 tyX3 tyX3_ok nmX3 hown hK hP hD hS 0 rfl rfl 0 (by decide) (htg _ tw_82) (fun _ h9 => h9) rfl (tyX3_ok 0 (by decide)) (rfl) (rfl) (Nat.le_of_ble_eq_true rfl) dX3_takesFirstOfLevel_19 (fun H locs hP hD hS => ?_)
    have hP : va_P D vwCl [((h 0), .inr (3, [.int 1, .int (nI (ch - 48)), .int (nI (q 2)), .int (nI (q 3)), .int (nI (q 4)), .int (nI (q 5))]))] H := hP
    have hD : va_D A [((h 0), .inr (3, [.int 1, .int (nI (ch - 48)), .int (nI (q 2)), .int (nI (q 3)), .int (nI (q 4)), .int (nI (q 5))]))] := hD
    refine lv_iconst (v := 1) hx hb dX3_takesFirstOfLevel_22 (by decide) ?_
    refine W.widen (k := 0) (n := 0) (by first | exact Nat.le_of_ble_eq_true rfl | omega) (by first | exact Nat.le_of_ble_eq_true rfl | omega) ?_
    exact W.zret (v := 1) hx hb hr (rfl) (fun t ht hW => ⟨⟨1, (rSet (rSet q 1 (ch - 48)) 0 1), rfl, rTk_y hg ((rOk_0 hq0).mpr c_4) (rNx_0 hq0), ⟨by rw [ht]; exact hP, hD⟩⟩, hS.F ht⟩) hS.2.2 dX3_takesFirstOfLevel_23
  · replace c_4 := zb0.mp c_4
    refine lv_iconst (v := 0) hx hb dX3_takesFirstOfLevel_7 (by decide) ?_
    refine W.widen (k := 0) (n := 0) (by first | exact Nat.le_of_ble_eq_true rfl | omega) (by first | exact Nat.le_of_ble_eq_true rfl | omega) ?_
    exact W.zret (v := 0) hx hb hr (rfl) (fun t ht hW => ⟨⟨0, q, rfl, rTk_n hg (fun h => c_4 ((rOk_0 hq0).mp h)), ⟨by rw [ht]; exact hP, hD⟩⟩, hS.F ht⟩) hS.2.2 dX3_takesFirstOfLevel_8

set_option maxHeartbeats 4000000 in
set_option maxRecDepth 100000 in
theorem mX3_takesInLevel (l : Launch) (D : va_G) (y : Nat → ClassId) (sz : Nat) (h : Nat → Nat) (q : (Nat → Nat)) (ch : Nat) (hg : rGood q) (hch : ch < 65536) (hq0 : q 0 = 1) : Met l yX3_takesInLevel (ws_ yX3_takesInLevel cX3_takesInLevel 2 (some .boolean)) ({ frames := 1, cells := 0, slots := 0, locals := 20 }) (va_Pc [.ref (h 0), .int (nI ch)] (zRW D y [((h 0), .inr (3, [.int (nI (q 0)), .int (nI (q 1)), .int (nI (q 2)), .int (nI (q 3)), .int (nI (q 4)), .int (nI (q 5))]))] sz)) (va_Qi (fun (r : Int32) (u : (Nat → Nat)) => rTk q ch r u) (fun (u : (Nat → Nat)) t => zOut D (va_A [((h 0), .inr (3, [.int (nI (q 0)), .int (nI (q 1)), .int (nI (q 2)), .int (nI (q 3)), .int (nI (q 4)), .int (nI (q 5))]))] sz) [((h 0), .inr (3, [.int (nI (u 0)), .int (nI (u 1)), .int (nI (u 2)), .int (nI (u 3)), .int (nI (u 4)), .int (nI (u 5))]))] t) (va_A [((h 0), .inr (3, [.int (nI (q 0)), .int (nI (q 1)), .int (nI (q 2)), .int (nI (q 3)), .int (nI (q 4)), .int (nI (q 5))]))] sz)) 0 0 (va_A [((h 0), .inr (3, [.int (nI (q 0)), .int (nI (q 1)), .int (nI (q 2)), .int (nI (q 3)), .int (nI (q 4)), .int (nI (q 5))]))] sz) := by
  refine Met.ofW (cc := cX3_takesInLevel) (maxL := 2) (ret := (some .boolean)) (by decide) rfl ?_
  intro p e s m args below meth c s₁ B hml hpre9
  obtain ⟨rfl, hsz, hP, hKN, hD0⟩ := hpre9
  have hK := hKN.1
  have hx := B.exec
  have hb := B.bytes
  have hr := B.returns
  have hts := atoms_spec (ws := (ws_ yX3_takesInLevel cX3_takesInLevel 2 (some .boolean))) B.pre
  have htg : ∀ w ∈ gT, w.before _ s = true := fun w h => hts w (List.mem_cons_of_mem _ h)
  have hown : s.vm.findClass RX3 = some m.cls := findClass_of_methodNamed B.named
  have hlocks := B.notSynchronized
  subst hsz
  have hD := hD0.self (sz := s.heap.size)
  clear hD0
  generalize hAe : va_A [((h 0), .inr (3, [.int (nI (q 0)), .int (nI (q 1)), .int (nI (q 2)), .int (nI (q 3)), .int (nI (q 4)), .int (nI (q 5))]))] s.heap.size = A at hD ⊢
  have hA : ∀ q : Nat, s.heap.size ≤ q → A q := fun q h => by rw [← hAe]; exact Or.inr h
  have hS : va_S A s.heap s.heap [] := va_S.rf
  have hP : va_P D vwCl [((h 0), .inr (3, [.int (nI (q 0)), .int (nI (q 1)), .int (nI (q 2)), .int (nI (q 3)), .int (nI (q 4)), .int (nI (q 5))]))] s.heap := hP
  have hl := lv_entry ([.ref (h 0), .int (nI ch)]) (n := 2) (Nat.le_of_ble_eq_true rfl)
  rw [lg_entry_eq]
  generalize (lg_sl ([.ref (h 0), .int (nI ch)]) ++ List.replicate (2 - (lg_sl ([.ref (h 0), .int (nI ch)])).length) Slot.unset).toArray = ls at hl ⊢
  have hl : lv_has ls 2 [(0, .ref (h 0)), (1, .int (nI ch))] := hl
  obtain ⟨hg0, hg1, hg2, hg3, hg4, hg5⟩ := id hg
  refine lv_iload_n hx hb dX3_takesInLevel_0 rfl (lv_at hl 1 rfl) ?_
  refine lv_bipush (v := 97) hx hb dX3_takesInLevel_1 (by decide) ?_
  refine lv_icmp_eq (tgt := 12) hx hb dX3_takesInLevel_3 (by decide) (fun c_3 => ?_) (fun c_3 => ?_)
  · replace c_3 : ch = 97 := (nI_eq (a := ch) (b := 97) (by omega) (by omega)).mp c_3
    refine lv_aload_n hx hb dX3_takesInLevel_12 rfl (lv_at hl 0 rfl) ?_
    refine lv_iload_n hx hb dX3_takesInLevel_13 rfl (lv_at hl 1 rfl) ?_
    refine lv_bipush (v := 97) hx hb dX3_takesInLevel_14 (by decide) ?_
    refine lv_isub hx hb dX3_takesInLevel_16 ?_
    refine zz_top (y := nI (ch - 97)) (pk_sub (a := ch) (b := 97) (by omega)) ?_
    refine va_put (D := D) (ci := 3) (v := .int (nI (ch - 97))) (ty := .int) (C := RX3) (T := TX3) (N := 6) hx hb htg iX3 tyX3 tyX3_ok nmX3 hown hK hP hD hS 0 rfl rfl 2 (by decide) (htg _ tw_84) (fun _ h9 => h9) rfl (tyX3_ok 2 (by decide)) (rfl) (rfl) (Nat.le_of_ble_eq_true rfl) dX3_takesInLevel_17 (fun H locs hP hD hS => ?_)
    have hP : va_P D vwCl [((h 0), .inr (3, [.int (nI (q 0)), .int (nI (q 1)), .int (nI (ch - 97)), .int (nI (q 3)), .int (nI (q 4)), .int (nI (q 5))]))] H := hP
    have hD : va_D A [((h 0), .inr (3, [.int (nI (q 0)), .int (nI (q 1)), .int (nI (ch - 97)), .int (nI (q 3)), .int (nI (q 4)), .int (nI (q 5))]))] := hD
    refine lv_aload_n hx hb dX3_takesInLevel_20 rfl (lv_at hl 0 rfl) ?_
    refine lv_iconst (v := 2) hx hb dX3_takesInLevel_21 (by decide) ?_
    refine va_put (D := D) (ci := 3) (v := .int 2) (ty := .int) (C := RX3) (T := TX3) (N := 6) hx hb htg iX3 tyX3 tyX3_ok nmX3 hown hK hP hD hS 0 rfl rfl 0 (by decide) (htg _ tw_82) (fun _ h9 => h9) rfl (tyX3_ok 0 (by decide)) (rfl) (rfl) (Nat.le_of_ble_eq_true rfl) dX3_takesInLevel_22 (fun H locs hP hD hS => ?_)
    have hP : va_P D vwCl [((h 0), .inr (3, [.int 2, .int (nI (q 1)), .int (nI (ch - 97)), .int (nI (q 3)), .int (nI (q 4)), .int (nI (q 5))]))] H := hP
    have hD : va_D A [((h 0), .inr (3, [.int 2, .int (nI (q 1)), .int (nI (ch - 97)), .int (nI (q 3)), .int (nI (q 4)), .int (nI (q 5))]))] := hD
    refine lv_iconst (v := 1) hx hb dX3_takesInLevel_25 (by decide) ?_
    refine W.widen (k := 0) (n := 0) (by first | exact Nat.le_of_ble_eq_true rfl | omega) (by first | exact Nat.le_of_ble_eq_true rfl | omega) ?_
    exact W.zret (v := 1) hx hb hr (rfl) (fun t ht hW => ⟨⟨1, (rSet (rSet q 2 (ch - 97)) 0 2), rfl, rTk_y hg ((rOk_1 hq0).mpr (Or.inl (by omega))) (rNx_1a hq0 (by omega)), ⟨by rw [ht]; exact hP, hD⟩⟩, hS.F ht⟩) hS.2.2 dX3_takesInLevel_26
  · replace c_3 : ¬ ch = 97 := fun h => c_3 ((nI_eq (a := ch) (b := 97) (by omega) (by omega)).mpr h)
    refine lv_iload_n hx hb dX3_takesInLevel_6 rfl (lv_at hl 1 rfl) ?_
    refine lv_bipush (v := 98) hx hb dX3_takesInLevel_7 (by decide) ?_
    refine lv_icmp_ne (tgt := 27) hx hb dX3_takesInLevel_9 (by decide) (fun c_9 => ?_) (fun c_9 => ?_)
    · replace c_9 : ¬ ch = 98 := fun h => c_9 ((nI_eq (a := ch) (b := 98) (by omega) (by omega)).mpr h)
      refine lv_iload_n hx hb dX3_takesInLevel_27 rfl (lv_at hl 1 rfl) ?_
      refine zr_calli (va_runS (As := [.int (nI ch)]) (rest := []) ⟨hx, hb, hml, hown, hts⟩ (mX3_isDigit l ch (by first | assumption | rfl | omega | decide)) (va_cwS 1 hts (zgS tw_97 tw_98 tw_95 tw_99) rfl rfl rfl (by decide +kernel) ⟨Nat.le_of_ble_eq_true rfl, Nat.le_of_ble_eq_true rfl⟩) zP_pre rfl rfl hl.1 rfl (lv_room (Nat.le_of_ble_eq_true rfl)) dX3_takesInLevel_28 ⟨Nat.zero_le _, Nat.zero_le _⟩) hS (fun r_1 H locs hw_28 hT hS => ?_)
      replace hP := hT _ _ hP
      obtain rfl : r_1 = (if rD ch then (1 : Int32) else 0) := hw_28
      refine lv_if_eq (tgt := 58) hx hb dX3_takesInLevel_31 (by decide) (fun c_31 => ?_) (fun c_31 => ?_)
      · replace c_31 := zb0.mp c_31
        refine lv_iconst (v := 0) hx hb dX3_takesInLevel_58 (by decide) ?_
        refine W.widen (k := 0) (n := 0) (by first | exact Nat.le_of_ble_eq_true rfl | omega) (by first | exact Nat.le_of_ble_eq_true rfl | omega) ?_
        exact W.zret (v := 0) hx hb hr (rfl) (fun t ht hW => ⟨⟨0, q, rfl, rTk_n hg (fun h => by have h := (rOk_1 hq0).mp h; omega), ⟨by rw [ht]; exact hP, hD⟩⟩, hS.F ht⟩) hS.2.2 dX3_takesInLevel_59
      · replace c_31 := zb1.mp c_31
        refine lv_aload_n hx hb dX3_takesInLevel_34 rfl (lv_at hl 0 rfl) ?_
        refine va_get (D := D) (ci := 3) (v := .int (nI (q 1))) (C := RX3) (T := TX3) (N := 6) hx hb htg iX3 hown hK hP 0 rfl rfl 1 (by decide) (htg _ tw_83) (fun _ h9 => h9) rfl dX3_takesInLevel_35 ?_
        refine lv_if_eq (tgt := 58) hx hb dX3_takesInLevel_38 (by decide) (fun c_38 => ?_) (fun c_38 => ?_)
        · replace c_38 : (q 1) = 0 := (nI_eq (a := (q 1)) (b := 0) (by omega) (by omega)).mp c_38
          refine lv_iconst (v := 0) hx hb dX3_takesInLevel_58 (by decide) ?_
          refine W.widen (k := 0) (n := 0) (by first | exact Nat.le_of_ble_eq_true rfl | omega) (by first | exact Nat.le_of_ble_eq_true rfl | omega) ?_
          exact W.zret (v := 0) hx hb hr (rfl) (fun t ht hW => ⟨⟨0, q, rfl, rTk_n hg (fun h => by have h := (rOk_1 hq0).mp h; omega), ⟨by rw [ht]; exact hP, hD⟩⟩, hS.F ht⟩) hS.2.2 dX3_takesInLevel_59
        · replace c_38 : ¬ (q 1) = 0 := fun h => c_38 ((nI_eq (a := (q 1)) (b := 0) (by omega) (by omega)).mpr h)
          refine lv_aload_n hx hb dX3_takesInLevel_41 rfl (lv_at hl 0 rfl) ?_
          refine va_get (D := D) (ci := 3) (v := .int (nI (q 1))) (C := RX3) (T := TX3) (N := 6) hx hb htg iX3 hown hK hP 0 rfl rfl 1 (by decide) (htg _ tw_83) (fun _ h9 => h9) rfl dX3_takesInLevel_42 ?_
          refine lv_bipush (v := 10) hx hb dX3_takesInLevel_45 (by decide) ?_
          refine lv_imul hx hb dX3_takesInLevel_47 ?_
          refine zz_top (y := nI ((q 1) * 10)) (pk_mul (q 1) 10) ?_
          refine lv_iload_n hx hb dX3_takesInLevel_48 rfl (lv_at hl 1 rfl) ?_
          refine lv_bipush (v := 48) hx hb dX3_takesInLevel_49 (by decide) ?_
          refine lv_isub hx hb dX3_takesInLevel_51 ?_
          refine zz_top (y := nI (ch - 48)) (pk_sub (a := ch) (b := 48) (by omega)) ?_
          refine lv_iadd hx hb dX3_takesInLevel_52 ?_
          refine zz_top (y := nI (((q 1) * 10) + (ch - 48))) (nI_add ((q 1) * 10) (ch - 48)) ?_
          refine lv_bipush (v := 16) hx hb dX3_takesInLevel_53 (by decide) ?_
          refine lv_icmp_lt (tgt := 60) hx hb dX3_takesInLevel_55 (by decide) (fun c_55 => ?_) (fun c_55 => ?_)
          · replace c_55 : (((q 1) * 10) + (ch - 48)) < 16 := (nI_ltI (a := (((q 1) * 10) + (ch - 48))) (b := 16) (by omega) (by omega)).mp c_55
            refine lv_aload_n hx hb dX3_takesInLevel_60 rfl (lv_at hl 0 rfl) ?_
            refine lv_aload_n hx hb dX3_takesInLevel_61 rfl (lv_at hl 0 rfl) ?_
            refine va_get (D := D) (ci := 3) (v := .int (nI (q 1))) (C := RX3) (T := TX3) (N := 6) hx hb htg iX3 hown hK hP 0 rfl rfl 1 (by decide) (htg _ tw_83) (fun _ h9 => h9) rfl dX3_takesInLevel_62 ?_
            refine lv_bipush (v := 10) hx hb dX3_takesInLevel_65 (by decide) ?_
            refine lv_imul hx hb dX3_takesInLevel_67 ?_
            refine zz_top (y := nI ((q 1) * 10)) (pk_mul (q 1) 10) ?_
            refine lv_iload_n hx hb dX3_takesInLevel_68 rfl (lv_at hl 1 rfl) ?_
            refine lv_bipush (v := 48) hx hb dX3_takesInLevel_69 (by decide) ?_
            refine lv_isub hx hb dX3_takesInLevel_71 ?_
            refine zz_top (y := nI (ch - 48)) (pk_sub (a := ch) (b := 48) (by omega)) ?_
            refine lv_iadd hx hb dX3_takesInLevel_72 ?_
            refine zz_top (y := nI (((q 1) * 10) + (ch - 48))) (nI_add ((q 1) * 10) (ch - 48)) ?_
            refine va_put (D := D) (ci := 3) (v := .int (nI (((q 1) * 10) + (ch - 48)))) (ty := .int) (C := RX3) (T := TX3) (N := 6) hx hb htg iX3 tyX3 tyX3_ok nmX3 hown hK hP hD hS 0 rfl rfl 1 (by decide) (htg _ tw_83) (fun _ h9 => h9) rfl (tyX3_ok 1 (by decide)) (rfl) (rfl) (Nat.le_of_ble_eq_true rfl) dX3_takesInLevel_73 (fun H locs hP hD hS => ?_)
            have hP : va_P D vwCl [((h 0), .inr (3, [.int (nI (q 0)), .int (nI (((q 1) * 10) + (ch - 48))), .int (nI (q 2)), .int (nI (q 3)), .int (nI (q 4)), .int (nI (q 5))]))] H := hP
            have hD : va_D A [((h 0), .inr (3, [.int (nI (q 0)), .int (nI (((q 1) * 10) + (ch - 48))), .int (nI (q 2)), .int (nI (q 3)), .int (nI (q 4)), .int (nI (q 5))]))] := hD
            refine lv_iconst (v := 1) hx hb dX3_takesInLevel_76 (by decide) ?_
            refine W.widen (k := 0) (n := 0) (by first | exact Nat.le_of_ble_eq_true rfl | omega) (by first | exact Nat.le_of_ble_eq_true rfl | omega) ?_
            exact W.zret (v := 1) hx hb hr (rfl) (fun t ht hW => ⟨⟨1, (rSet q 1 (q 1 * 10 + (ch - 48))), rfl, rTk_y hg ((rOk_1 hq0).mpr (Or.inr ⟨c_31, c_38, c_55⟩)) (rNx_1b hq0 (by omega)), ⟨by rw [ht]; exact hP, hD⟩⟩, hS.F ht⟩) hS.2.2 dX3_takesInLevel_77
          · replace c_55 : ¬ (((q 1) * 10) + (ch - 48)) < 16 := fun h => c_55 ((nI_ltI (a := (((q 1) * 10) + (ch - 48))) (b := 16) (by omega) (by omega)).mpr h)
            refine lv_iconst (v := 0) hx hb dX3_takesInLevel_58 (by decide) ?_
            refine W.widen (k := 0) (n := 0) (by first | exact Nat.le_of_ble_eq_true rfl | omega) (by first | exact Nat.le_of_ble_eq_true rfl | omega) ?_
            exact W.zret (v := 0) hx hb hr (rfl) (fun t ht hW => ⟨⟨0, q, rfl, rTk_n hg (fun h => by have h := (rOk_1 hq0).mp h; omega), ⟨by rw [ht]; exact hP, hD⟩⟩, hS.F ht⟩) hS.2.2 dX3_takesInLevel_59
    · replace c_9 : ch = 98 := (nI_eq (a := ch) (b := 98) (by omega) (by omega)).mp c_9
      refine lv_aload_n hx hb dX3_takesInLevel_12 rfl (lv_at hl 0 rfl) ?_
      refine lv_iload_n hx hb dX3_takesInLevel_13 rfl (lv_at hl 1 rfl) ?_
      refine lv_bipush (v := 97) hx hb dX3_takesInLevel_14 (by decide) ?_
      refine lv_isub hx hb dX3_takesInLevel_16 ?_
      refine zz_top (y := nI (ch - 97)) (pk_sub (a := ch) (b := 97) (by omega)) ?_
      refine va_put (D := D) (ci := 3) (v := .int (nI (ch - 97))) (ty := .int) (C := RX3) (T := TX3) (N := 6) hx hb htg iX3 tyX3 tyX3_ok nmX3 hown hK hP hD hS 0 rfl rfl 2 (by decide) (htg _ tw_84) (fun _ h9 => h9) rfl (tyX3_ok 2 (by decide)) (rfl) (rfl) (Nat.le_of_ble_eq_true rfl) dX3_takesInLevel_17 (fun H locs hP hD hS => ?_)
      have hP : va_P D vwCl [((h 0), .inr (3, [.int (nI (q 0)), .int (nI (q 1)), .int (nI (ch - 97)), .int (nI (q 3)), .int (nI (q 4)), .int (nI (q 5))]))] H := hP
      have hD : va_D A [((h 0), .inr (3, [.int (nI (q 0)), .int (nI (q 1)), .int (nI (ch - 97)), .int (nI (q 3)), .int (nI (q 4)), .int (nI (q 5))]))] := hD
      refine lv_aload_n hx hb dX3_takesInLevel_20 rfl (lv_at hl 0 rfl) ?_
      refine lv_iconst (v := 2) hx hb dX3_takesInLevel_21 (by decide) ?_
      refine va_put (D := D) (ci := 3) (v := .int 2) (ty := .int) (C := RX3) (T := TX3) (N := 6) hx hb htg iX3 tyX3 tyX3_ok nmX3 hown hK hP hD hS 0 rfl rfl 0 (by decide) (htg _ tw_82) (fun _ h9 => h9) rfl (tyX3_ok 0 (by decide)) (rfl) (rfl) (Nat.le_of_ble_eq_true rfl) dX3_takesInLevel_22 (fun H locs hP hD hS => ?_)
      have hP : va_P D vwCl [((h 0), .inr (3, [.int 2, .int (nI (q 1)), .int (nI (ch - 97)), .int (nI (q 3)), .int (nI (q 4)), .int (nI (q 5))]))] H := hP
      have hD : va_D A [((h 0), .inr (3, [.int 2, .int (nI (q 1)), .int (nI (ch - 97)), .int (nI (q 3)), .int (nI (q 4)), .int (nI (q 5))]))] := hD
      refine lv_iconst (v := 1) hx hb dX3_takesInLevel_25 (by decide) ?_
      refine W.widen (k := 0) (n := 0) (by first | exact Nat.le_of_ble_eq_true rfl | omega) (by first | exact Nat.le_of_ble_eq_true rfl | omega) ?_
      exact W.zret (v := 1) hx hb hr (rfl) (fun t ht hW => ⟨⟨1, (rSet (rSet q 2 (ch - 97)) 0 2), rfl, rTk_y hg ((rOk_1 hq0).mpr (Or.inl (by omega))) (rNx_1a hq0 (by omega)), ⟨by rw [ht]; exact hP, hD⟩⟩, hS.F ht⟩) hS.2.2 dX3_takesInLevel_26

set_option maxHeartbeats 4000000 in
set_option maxRecDepth 100000 in
theorem mX3_takesFace (l : Launch) (D : va_G) (y : Nat → ClassId) (sz : Nat) (h : Nat → Nat) (q : (Nat → Nat)) (ch : Nat) (hg : rGood q) (hch : ch < 65536) (hq0 : q 0 = 2) : Met l yX3_takesFace (ws_ yX3_takesFace cX3_takesFace 2 (some .boolean)) ({ frames := 0, cells := 0, slots := 0, locals := 0 }) (va_Pc [.ref (h 0), .int (nI ch)] (zRW D y [((h 0), .inr (3, [.int (nI (q 0)), .int (nI (q 1)), .int (nI (q 2)), .int (nI (q 3)), .int (nI (q 4)), .int (nI (q 5))]))] sz)) (va_Qi (fun (r : Int32) (u : (Nat → Nat)) => rTk q ch r u) (fun (u : (Nat → Nat)) t => zOut D (va_A [((h 0), .inr (3, [.int (nI (q 0)), .int (nI (q 1)), .int (nI (q 2)), .int (nI (q 3)), .int (nI (q 4)), .int (nI (q 5))]))] sz) [((h 0), .inr (3, [.int (nI (u 0)), .int (nI (u 1)), .int (nI (u 2)), .int (nI (u 3)), .int (nI (u 4)), .int (nI (u 5))]))] t) (va_A [((h 0), .inr (3, [.int (nI (q 0)), .int (nI (q 1)), .int (nI (q 2)), .int (nI (q 3)), .int (nI (q 4)), .int (nI (q 5))]))] sz)) 0 0 (va_A [((h 0), .inr (3, [.int (nI (q 0)), .int (nI (q 1)), .int (nI (q 2)), .int (nI (q 3)), .int (nI (q 4)), .int (nI (q 5))]))] sz) := by
  refine Met.ofW (cc := cX3_takesFace) (maxL := 2) (ret := (some .boolean)) (by decide) rfl ?_
  intro p e s m args below meth c s₁ B hml hpre9
  obtain ⟨rfl, hsz, hP, hKN, hD0⟩ := hpre9
  have hK := hKN.1
  have hx := B.exec
  have hb := B.bytes
  have hr := B.returns
  have hts := atoms_spec (ws := (ws_ yX3_takesFace cX3_takesFace 2 (some .boolean))) B.pre
  have htg : ∀ w ∈ gT, w.before _ s = true := fun w h => hts w (List.mem_cons_of_mem _ h)
  have hown : s.vm.findClass RX3 = some m.cls := findClass_of_methodNamed B.named
  have hlocks := B.notSynchronized
  subst hsz
  have hD := hD0.self (sz := s.heap.size)
  clear hD0
  generalize hAe : va_A [((h 0), .inr (3, [.int (nI (q 0)), .int (nI (q 1)), .int (nI (q 2)), .int (nI (q 3)), .int (nI (q 4)), .int (nI (q 5))]))] s.heap.size = A at hD ⊢
  have hA : ∀ q : Nat, s.heap.size ≤ q → A q := fun q h => by rw [← hAe]; exact Or.inr h
  have hS : va_S A s.heap s.heap [] := va_S.rf
  have hP : va_P D vwCl [((h 0), .inr (3, [.int (nI (q 0)), .int (nI (q 1)), .int (nI (q 2)), .int (nI (q 3)), .int (nI (q 4)), .int (nI (q 5))]))] s.heap := hP
  have hl := lv_entry ([.ref (h 0), .int (nI ch)]) (n := 2) (Nat.le_of_ble_eq_true rfl)
  rw [lg_entry_eq]
  generalize (lg_sl ([.ref (h 0), .int (nI ch)]) ++ List.replicate (2 - (lg_sl ([.ref (h 0), .int (nI ch)])).length) Slot.unset).toArray = ls at hl ⊢
  have hl : lv_has ls 2 [(0, .ref (h 0)), (1, .int (nI ch))] := hl
  obtain ⟨hg0, hg1, hg2, hg3, hg4, hg5⟩ := id hg
  refine lv_iload_n hx hb dX3_takesFace_0 rfl (lv_at hl 1 rfl) ?_
  refine lv_bipush (v := 43) hx hb dX3_takesFace_1 (by decide) ?_
  refine lv_icmp_eq (tgt := 14) hx hb dX3_takesFace_3 (by decide) (fun c_3 => ?_) (fun c_3 => ?_)
  · replace c_3 : ch = 43 := (nI_eq (a := ch) (b := 43) (by omega) (by omega)).mp c_3
    refine lv_aload_n hx hb dX3_takesFace_14 rfl (lv_at hl 0 rfl) ?_
    refine lv_iload_n hx hb dX3_takesFace_15 rfl (lv_at hl 1 rfl) ?_
    refine lv_bipush (v := 43) hx hb dX3_takesFace_16 (by decide) ?_
    refine lv_icmp_ne (tgt := 25) hx hb dX3_takesFace_18 (by decide) (fun c_18 => ?_) (fun c_18 => ?_)
    · replace c_18 : ¬ ch = 43 := fun h => c_18 ((nI_eq (a := ch) (b := 43) (by omega) (by omega)).mpr h)
      refine lv_iconst (v := 1) hx hb dX3_takesFace_25 (by decide) ?_
      refine zz_top (y := nI (if ch = 43 then 0 else 1)) (by rw [if_neg c_18]; rfl) ?_
      refine va_put (D := D) (ci := 3) (v := .int (nI (if ch = 43 then 0 else 1))) (ty := .int) (C := RX3) (T := TX3) (N := 6) hx hb htg iX3 tyX3 tyX3_ok nmX3 hown hK hP hD hS 0 rfl rfl 3 (by decide) (htg _ tw_85) (fun _ h9 => h9) rfl (tyX3_ok 3 (by decide)) (rfl) (rfl) (Nat.le_of_ble_eq_true rfl) dX3_takesFace_26 (fun H locs hP hD hS => ?_)
      have hP : va_P D vwCl [((h 0), .inr (3, [.int (nI (q 0)), .int (nI (q 1)), .int (nI (q 2)), .int (nI (if ch = 43 then 0 else 1)), .int (nI (q 4)), .int (nI (q 5))]))] H := hP
      have hD : va_D A [((h 0), .inr (3, [.int (nI (q 0)), .int (nI (q 1)), .int (nI (q 2)), .int (nI (if ch = 43 then 0 else 1)), .int (nI (q 4)), .int (nI (q 5))]))] := hD
      refine lv_aload_n hx hb dX3_takesFace_29 rfl (lv_at hl 0 rfl) ?_
      refine lv_iconst (v := 3) hx hb dX3_takesFace_30 (by decide) ?_
      refine va_put (D := D) (ci := 3) (v := .int 3) (ty := .int) (C := RX3) (T := TX3) (N := 6) hx hb htg iX3 tyX3 tyX3_ok nmX3 hown hK hP hD hS 0 rfl rfl 0 (by decide) (htg _ tw_82) (fun _ h9 => h9) rfl (tyX3_ok 0 (by decide)) (rfl) (rfl) (Nat.le_of_ble_eq_true rfl) dX3_takesFace_31 (fun H locs hP hD hS => ?_)
      have hP : va_P D vwCl [((h 0), .inr (3, [.int 3, .int (nI (q 1)), .int (nI (q 2)), .int (nI (if ch = 43 then 0 else 1)), .int (nI (q 4)), .int (nI (q 5))]))] H := hP
      have hD : va_D A [((h 0), .inr (3, [.int 3, .int (nI (q 1)), .int (nI (q 2)), .int (nI (if ch = 43 then 0 else 1)), .int (nI (q 4)), .int (nI (q 5))]))] := hD
      refine lv_iconst (v := 1) hx hb dX3_takesFace_34 (by decide) ?_
      refine W.widen (k := 0) (n := 0) (by first | exact Nat.le_of_ble_eq_true rfl | omega) (by first | exact Nat.le_of_ble_eq_true rfl | omega) ?_
      exact W.zret (v := 1) hx hb hr (rfl) (fun t ht hW => ⟨⟨1, (rSet (rSet q 3 (if ch = 43 then 0 else 1)) 0 3), rfl, rTk_y hg ((rOk_2 hq0).mpr (by omega)) (rNx_2 hq0), ⟨by rw [ht]; exact hP, hD⟩⟩, hS.F ht⟩) hS.2.2 dX3_takesFace_35
    · replace c_18 : ch = 43 := (nI_eq (a := ch) (b := 43) (by omega) (by omega)).mp c_18
      refine lv_iconst (v := 0) hx hb dX3_takesFace_21 (by decide) ?_
      refine lv_goto (tgt := 26) hx hb dX3_takesFace_22 (by decide) ?_
      refine zz_top (y := nI (if ch = 43 then 0 else 1)) (by rw [if_pos c_18]; rfl) ?_
      refine va_put (D := D) (ci := 3) (v := .int (nI (if ch = 43 then 0 else 1))) (ty := .int) (C := RX3) (T := TX3) (N := 6) hx hb htg iX3 tyX3 tyX3_ok nmX3 hown hK hP hD hS 0 rfl rfl 3 (by decide) (htg _ tw_85) (fun _ h9 => h9) rfl (tyX3_ok 3 (by decide)) (rfl) (rfl) (Nat.le_of_ble_eq_true rfl) dX3_takesFace_26 (fun H locs hP hD hS => ?_)
      have hP : va_P D vwCl [((h 0), .inr (3, [.int (nI (q 0)), .int (nI (q 1)), .int (nI (q 2)), .int (nI (if ch = 43 then 0 else 1)), .int (nI (q 4)), .int (nI (q 5))]))] H := hP
      have hD : va_D A [((h 0), .inr (3, [.int (nI (q 0)), .int (nI (q 1)), .int (nI (q 2)), .int (nI (if ch = 43 then 0 else 1)), .int (nI (q 4)), .int (nI (q 5))]))] := hD
      refine lv_aload_n hx hb dX3_takesFace_29 rfl (lv_at hl 0 rfl) ?_
      refine lv_iconst (v := 3) hx hb dX3_takesFace_30 (by decide) ?_
      refine va_put (D := D) (ci := 3) (v := .int 3) (ty := .int) (C := RX3) (T := TX3) (N := 6) hx hb htg iX3 tyX3 tyX3_ok nmX3 hown hK hP hD hS 0 rfl rfl 0 (by decide) (htg _ tw_82) (fun _ h9 => h9) rfl (tyX3_ok 0 (by decide)) (rfl) (rfl) (Nat.le_of_ble_eq_true rfl) dX3_takesFace_31 (fun H locs hP hD hS => ?_)
      have hP : va_P D vwCl [((h 0), .inr (3, [.int 3, .int (nI (q 1)), .int (nI (q 2)), .int (nI (if ch = 43 then 0 else 1)), .int (nI (q 4)), .int (nI (q 5))]))] H := hP
      have hD : va_D A [((h 0), .inr (3, [.int 3, .int (nI (q 1)), .int (nI (q 2)), .int (nI (if ch = 43 then 0 else 1)), .int (nI (q 4)), .int (nI (q 5))]))] := hD
      refine lv_iconst (v := 1) hx hb dX3_takesFace_34 (by decide) ?_
      refine W.widen (k := 0) (n := 0) (by first | exact Nat.le_of_ble_eq_true rfl | omega) (by first | exact Nat.le_of_ble_eq_true rfl | omega) ?_
      exact W.zret (v := 1) hx hb hr (rfl) (fun t ht hW => ⟨⟨1, (rSet (rSet q 3 (if ch = 43 then 0 else 1)) 0 3), rfl, rTk_y hg ((rOk_2 hq0).mpr (by omega)) (rNx_2 hq0), ⟨by rw [ht]; exact hP, hD⟩⟩, hS.F ht⟩) hS.2.2 dX3_takesFace_35
  · replace c_3 : ¬ ch = 43 := fun h => c_3 ((nI_eq (a := ch) (b := 43) (by omega) (by omega)).mpr h)
    refine lv_iload_n hx hb dX3_takesFace_6 rfl (lv_at hl 1 rfl) ?_
    refine lv_bipush (v := 45) hx hb dX3_takesFace_7 (by decide) ?_
    refine lv_icmp_eq (tgt := 14) hx hb dX3_takesFace_9 (by decide) (fun c_9 => ?_) (fun c_9 => ?_)
    · replace c_9 : ch = 45 := (nI_eq (a := ch) (b := 45) (by omega) (by omega)).mp c_9
      refine lv_aload_n hx hb dX3_takesFace_14 rfl (lv_at hl 0 rfl) ?_
      refine lv_iload_n hx hb dX3_takesFace_15 rfl (lv_at hl 1 rfl) ?_
      refine lv_bipush (v := 43) hx hb dX3_takesFace_16 (by decide) ?_
      refine lv_icmp_ne (tgt := 25) hx hb dX3_takesFace_18 (by decide) (fun c_18 => ?_) (fun c_18 => ?_)
      · replace c_18 : ¬ ch = 43 := fun h => c_18 ((nI_eq (a := ch) (b := 43) (by omega) (by omega)).mpr h)
        refine lv_iconst (v := 1) hx hb dX3_takesFace_25 (by decide) ?_
        refine zz_top (y := nI (if ch = 43 then 0 else 1)) (by rw [if_neg c_18]; rfl) ?_
        refine va_put (D := D) (ci := 3) (v := .int (nI (if ch = 43 then 0 else 1))) (ty := .int) (C := RX3) (T := TX3) (N := 6) hx hb htg iX3 tyX3 tyX3_ok nmX3 hown hK hP hD hS 0 rfl rfl 3 (by decide) (htg _ tw_85) (fun _ h9 => h9) rfl (tyX3_ok 3 (by decide)) (rfl) (rfl) (Nat.le_of_ble_eq_true rfl) dX3_takesFace_26 (fun H locs hP hD hS => ?_)
        have hP : va_P D vwCl [((h 0), .inr (3, [.int (nI (q 0)), .int (nI (q 1)), .int (nI (q 2)), .int (nI (if ch = 43 then 0 else 1)), .int (nI (q 4)), .int (nI (q 5))]))] H := hP
        have hD : va_D A [((h 0), .inr (3, [.int (nI (q 0)), .int (nI (q 1)), .int (nI (q 2)), .int (nI (if ch = 43 then 0 else 1)), .int (nI (q 4)), .int (nI (q 5))]))] := hD
        refine lv_aload_n hx hb dX3_takesFace_29 rfl (lv_at hl 0 rfl) ?_
        refine lv_iconst (v := 3) hx hb dX3_takesFace_30 (by decide) ?_
        refine va_put (D := D) (ci := 3) (v := .int 3) (ty := .int) (C := RX3) (T := TX3) (N := 6) hx hb htg iX3 tyX3 tyX3_ok nmX3 hown hK hP hD hS 0 rfl rfl 0 (by decide) (htg _ tw_82) (fun _ h9 => h9) rfl (tyX3_ok 0 (by decide)) (rfl) (rfl) (Nat.le_of_ble_eq_true rfl) dX3_takesFace_31 (fun H locs hP hD hS => ?_)
        have hP : va_P D vwCl [((h 0), .inr (3, [.int 3, .int (nI (q 1)), .int (nI (q 2)), .int (nI (if ch = 43 then 0 else 1)), .int (nI (q 4)), .int (nI (q 5))]))] H := hP
        have hD : va_D A [((h 0), .inr (3, [.int 3, .int (nI (q 1)), .int (nI (q 2)), .int (nI (if ch = 43 then 0 else 1)), .int (nI (q 4)), .int (nI (q 5))]))] := hD
        refine lv_iconst (v := 1) hx hb dX3_takesFace_34 (by decide) ?_
        refine W.widen (k := 0) (n := 0) (by first | exact Nat.le_of_ble_eq_true rfl | omega) (by first | exact Nat.le_of_ble_eq_true rfl | omega) ?_
        exact W.zret (v := 1) hx hb hr (rfl) (fun t ht hW => ⟨⟨1, (rSet (rSet q 3 (if ch = 43 then 0 else 1)) 0 3), rfl, rTk_y hg ((rOk_2 hq0).mpr (by omega)) (rNx_2 hq0), ⟨by rw [ht]; exact hP, hD⟩⟩, hS.F ht⟩) hS.2.2 dX3_takesFace_35
      · replace c_18 : ch = 43 := (nI_eq (a := ch) (b := 43) (by omega) (by omega)).mp c_18
        refine lv_iconst (v := 0) hx hb dX3_takesFace_21 (by decide) ?_
        refine lv_goto (tgt := 26) hx hb dX3_takesFace_22 (by decide) ?_
        refine zz_top (y := nI (if ch = 43 then 0 else 1)) (by rw [if_pos c_18]; rfl) ?_
        refine va_put (D := D) (ci := 3) (v := .int (nI (if ch = 43 then 0 else 1))) (ty := .int) (C := RX3) (T := TX3) (N := 6) hx hb htg iX3 tyX3 tyX3_ok nmX3 hown hK hP hD hS 0 rfl rfl 3 (by decide) (htg _ tw_85) (fun _ h9 => h9) rfl (tyX3_ok 3 (by decide)) (rfl) (rfl) (Nat.le_of_ble_eq_true rfl) dX3_takesFace_26 (fun H locs hP hD hS => ?_)
        have hP : va_P D vwCl [((h 0), .inr (3, [.int (nI (q 0)), .int (nI (q 1)), .int (nI (q 2)), .int (nI (if ch = 43 then 0 else 1)), .int (nI (q 4)), .int (nI (q 5))]))] H := hP
        have hD : va_D A [((h 0), .inr (3, [.int (nI (q 0)), .int (nI (q 1)), .int (nI (q 2)), .int (nI (if ch = 43 then 0 else 1)), .int (nI (q 4)), .int (nI (q 5))]))] := hD
        refine lv_aload_n hx hb dX3_takesFace_29 rfl (lv_at hl 0 rfl) ?_
        refine lv_iconst (v := 3) hx hb dX3_takesFace_30 (by decide) ?_
        refine va_put (D := D) (ci := 3) (v := .int 3) (ty := .int) (C := RX3) (T := TX3) (N := 6) hx hb htg iX3 tyX3 tyX3_ok nmX3 hown hK hP hD hS 0 rfl rfl 0 (by decide) (htg _ tw_82) (fun _ h9 => h9) rfl (tyX3_ok 0 (by decide)) (rfl) (rfl) (Nat.le_of_ble_eq_true rfl) dX3_takesFace_31 (fun H locs hP hD hS => ?_)
        have hP : va_P D vwCl [((h 0), .inr (3, [.int 3, .int (nI (q 1)), .int (nI (q 2)), .int (nI (if ch = 43 then 0 else 1)), .int (nI (q 4)), .int (nI (q 5))]))] H := hP
        have hD : va_D A [((h 0), .inr (3, [.int 3, .int (nI (q 1)), .int (nI (q 2)), .int (nI (if ch = 43 then 0 else 1)), .int (nI (q 4)), .int (nI (q 5))]))] := hD
        refine lv_iconst (v := 1) hx hb dX3_takesFace_34 (by decide) ?_
        refine W.widen (k := 0) (n := 0) (by first | exact Nat.le_of_ble_eq_true rfl | omega) (by first | exact Nat.le_of_ble_eq_true rfl | omega) ?_
        exact W.zret (v := 1) hx hb hr (rfl) (fun t ht hW => ⟨⟨1, (rSet (rSet q 3 (if ch = 43 then 0 else 1)) 0 3), rfl, rTk_y hg ((rOk_2 hq0).mpr (by omega)) (rNx_2 hq0), ⟨by rw [ht]; exact hP, hD⟩⟩, hS.F ht⟩) hS.2.2 dX3_takesFace_35
    · replace c_9 : ¬ ch = 45 := fun h => c_9 ((nI_eq (a := ch) (b := 45) (by omega) (by omega)).mpr h)
      refine lv_iconst (v := 0) hx hb dX3_takesFace_12 (by decide) ?_
      refine W.widen (k := 0) (n := 0) (by first | exact Nat.le_of_ble_eq_true rfl | omega) (by first | exact Nat.le_of_ble_eq_true rfl | omega) ?_
      exact W.zret (v := 0) hx hb hr (rfl) (fun t ht hW => ⟨⟨0, q, rfl, rTk_n hg (fun h => by have h := (rOk_2 hq0).mp h; omega), ⟨by rw [ht]; exact hP, hD⟩⟩, hS.F ht⟩) hS.2.2 dX3_takesFace_13

set_option maxHeartbeats 4000000 in
set_option maxRecDepth 100000 in
theorem mX3_takesEquals (l : Launch) (D : va_G) (y : Nat → ClassId) (sz : Nat) (h : Nat → Nat) (q : (Nat → Nat)) (ch : Nat) (hg : rGood q) (hch : ch < 65536) (hq0 : q 0 = 3) : Met l yX3_takesEquals (ws_ yX3_takesEquals cX3_takesEquals 2 (some .boolean)) ({ frames := 0, cells := 0, slots := 0, locals := 0 }) (va_Pc [.ref (h 0), .int (nI ch)] (zRW D y [((h 0), .inr (3, [.int (nI (q 0)), .int (nI (q 1)), .int (nI (q 2)), .int (nI (q 3)), .int (nI (q 4)), .int (nI (q 5))]))] sz)) (va_Qi (fun (r : Int32) (u : (Nat → Nat)) => rTk q ch r u) (fun (u : (Nat → Nat)) t => zOut D (va_A [((h 0), .inr (3, [.int (nI (q 0)), .int (nI (q 1)), .int (nI (q 2)), .int (nI (q 3)), .int (nI (q 4)), .int (nI (q 5))]))] sz) [((h 0), .inr (3, [.int (nI (u 0)), .int (nI (u 1)), .int (nI (u 2)), .int (nI (u 3)), .int (nI (u 4)), .int (nI (u 5))]))] t) (va_A [((h 0), .inr (3, [.int (nI (q 0)), .int (nI (q 1)), .int (nI (q 2)), .int (nI (q 3)), .int (nI (q 4)), .int (nI (q 5))]))] sz)) 0 0 (va_A [((h 0), .inr (3, [.int (nI (q 0)), .int (nI (q 1)), .int (nI (q 2)), .int (nI (q 3)), .int (nI (q 4)), .int (nI (q 5))]))] sz) := by
  refine Met.ofW (cc := cX3_takesEquals) (maxL := 2) (ret := (some .boolean)) (by decide) rfl ?_
  intro p e s m args below meth c s₁ B hml hpre9
  obtain ⟨rfl, hsz, hP, hKN, hD0⟩ := hpre9
  have hK := hKN.1
  have hx := B.exec
  have hb := B.bytes
  have hr := B.returns
  have hts := atoms_spec (ws := (ws_ yX3_takesEquals cX3_takesEquals 2 (some .boolean))) B.pre
  have htg : ∀ w ∈ gT, w.before _ s = true := fun w h => hts w (List.mem_cons_of_mem _ h)
  have hown : s.vm.findClass RX3 = some m.cls := findClass_of_methodNamed B.named
  have hlocks := B.notSynchronized
  subst hsz
  have hD := hD0.self (sz := s.heap.size)
  clear hD0
  generalize hAe : va_A [((h 0), .inr (3, [.int (nI (q 0)), .int (nI (q 1)), .int (nI (q 2)), .int (nI (q 3)), .int (nI (q 4)), .int (nI (q 5))]))] s.heap.size = A at hD ⊢
  have hA : ∀ q : Nat, s.heap.size ≤ q → A q := fun q h => by rw [← hAe]; exact Or.inr h
  have hS : va_S A s.heap s.heap [] := va_S.rf
  have hP : va_P D vwCl [((h 0), .inr (3, [.int (nI (q 0)), .int (nI (q 1)), .int (nI (q 2)), .int (nI (q 3)), .int (nI (q 4)), .int (nI (q 5))]))] s.heap := hP
  have hl := lv_entry ([.ref (h 0), .int (nI ch)]) (n := 2) (Nat.le_of_ble_eq_true rfl)
  rw [lg_entry_eq]
  generalize (lg_sl ([.ref (h 0), .int (nI ch)]) ++ List.replicate (2 - (lg_sl ([.ref (h 0), .int (nI ch)])).length) Slot.unset).toArray = ls at hl ⊢
  have hl : lv_has ls 2 [(0, .ref (h 0)), (1, .int (nI ch))] := hl
  obtain ⟨hg0, hg1, hg2, hg3, hg4, hg5⟩ := id hg
  refine lv_iload_n hx hb dX3_takesEquals_0 rfl (lv_at hl 1 rfl) ?_
  refine lv_bipush (v := 61) hx hb dX3_takesEquals_1 (by decide) ?_
  refine lv_icmp_eq (tgt := 8) hx hb dX3_takesEquals_3 (by decide) (fun c_3 => ?_) (fun c_3 => ?_)
  · replace c_3 : ch = 61 := (nI_eq (a := ch) (b := 61) (by omega) (by omega)).mp c_3
    refine lv_aload_n hx hb dX3_takesEquals_8 rfl (lv_at hl 0 rfl) ?_
    refine lv_iconst (v := 4) hx hb dX3_takesEquals_9 (by decide) ?_
    refine va_put (D := D) (ci := 3) (v := .int 4) (ty := .int) (C := RX3) (T := TX3) (N := 6) hx hb htg iX3 tyX3 tyX3_ok nmX3 hown hK hP hD hS 0 rfl rfl 0 (by decide) (htg _ tw_82) (fun _ h9 => h9) rfl (tyX3_ok 0 (by decide)) (rfl) (rfl) (Nat.le_of_ble_eq_true rfl) dX3_takesEquals_10 (fun H locs hP hD hS => ?_)
    have hP : va_P D vwCl [((h 0), .inr (3, [.int 4, .int (nI (q 1)), .int (nI (q 2)), .int (nI (q 3)), .int (nI (q 4)), .int (nI (q 5))]))] H := hP
    have hD : va_D A [((h 0), .inr (3, [.int 4, .int (nI (q 1)), .int (nI (q 2)), .int (nI (q 3)), .int (nI (q 4)), .int (nI (q 5))]))] := hD
    refine lv_iconst (v := 1) hx hb dX3_takesEquals_13 (by decide) ?_
    refine W.widen (k := 0) (n := 0) (by first | exact Nat.le_of_ble_eq_true rfl | omega) (by first | exact Nat.le_of_ble_eq_true rfl | omega) ?_
    exact W.zret (v := 1) hx hb hr (rfl) (fun t ht hW => ⟨⟨1, (rSet q 0 4), rfl, rTk_y hg ((rOk_3 hq0).mpr c_3) (rNx_3 hq0), ⟨by rw [ht]; exact hP, hD⟩⟩, hS.F ht⟩) hS.2.2 dX3_takesEquals_14
  · replace c_3 : ¬ ch = 61 := fun h => c_3 ((nI_eq (a := ch) (b := 61) (by omega) (by omega)).mpr h)
    refine lv_iconst (v := 0) hx hb dX3_takesEquals_6 (by decide) ?_
    refine W.widen (k := 0) (n := 0) (by first | exact Nat.le_of_ble_eq_true rfl | omega) (by first | exact Nat.le_of_ble_eq_true rfl | omega) ?_
    exact W.zret (v := 0) hx hb hr (rfl) (fun t ht hW => ⟨⟨0, q, rfl, rTk_n hg (fun h => c_3 ((rOk_3 hq0).mp h)), ⟨by rw [ht]; exact hP, hD⟩⟩, hS.F ht⟩) hS.2.2 dX3_takesEquals_7

set_option maxHeartbeats 4000000 in
set_option maxRecDepth 100000 in
theorem mX3_takesFirstOfNumber (l : Launch) (D : va_G) (y : Nat → ClassId) (sz : Nat) (h : Nat → Nat) (q : (Nat → Nat)) (ch : Nat) (hg : rGood q) (hch : ch < 65536) : Met l yX3_takesFirstOfNumber (ws_ yX3_takesFirstOfNumber cX3_takesFirstOfNumber 2 (some .boolean)) ({ frames := 1, cells := 0, slots := 0, locals := 20 }) (va_Pc [.ref (h 0), .int (nI ch)] (zRW D y [((h 0), .inr (3, [.int (nI (q 0)), .int (nI (q 1)), .int (nI (q 2)), .int (nI (q 3)), .int (nI (q 4)), .int (nI (q 5))]))] sz)) (va_Qi (fun (r : Int32) (u : (Nat → Nat)) => (rD ch ∧ r = 1 ∧ u = rSet (rSet q 4 (ch - 48)) 0 6) ∨ (¬ rD ch ∧ r = 0 ∧ u = q)) (fun (u : (Nat → Nat)) t => zOut D (va_A [((h 0), .inr (3, [.int (nI (q 0)), .int (nI (q 1)), .int (nI (q 2)), .int (nI (q 3)), .int (nI (q 4)), .int (nI (q 5))]))] sz) [((h 0), .inr (3, [.int (nI (u 0)), .int (nI (u 1)), .int (nI (u 2)), .int (nI (u 3)), .int (nI (u 4)), .int (nI (u 5))]))] t) (va_A [((h 0), .inr (3, [.int (nI (q 0)), .int (nI (q 1)), .int (nI (q 2)), .int (nI (q 3)), .int (nI (q 4)), .int (nI (q 5))]))] sz)) 0 0 (va_A [((h 0), .inr (3, [.int (nI (q 0)), .int (nI (q 1)), .int (nI (q 2)), .int (nI (q 3)), .int (nI (q 4)), .int (nI (q 5))]))] sz) := by
  refine Met.ofW (cc := cX3_takesFirstOfNumber) (maxL := 2) (ret := (some .boolean)) (by decide) rfl ?_
  intro p e s m args below meth c s₁ B hml hpre9
  obtain ⟨rfl, hsz, hP, hKN, hD0⟩ := hpre9
  have hK := hKN.1
  have hx := B.exec
  have hb := B.bytes
  have hr := B.returns
  have hts := atoms_spec (ws := (ws_ yX3_takesFirstOfNumber cX3_takesFirstOfNumber 2 (some .boolean))) B.pre
  have htg : ∀ w ∈ gT, w.before _ s = true := fun w h => hts w (List.mem_cons_of_mem _ h)
  have hown : s.vm.findClass RX3 = some m.cls := findClass_of_methodNamed B.named
  have hlocks := B.notSynchronized
  subst hsz
  have hD := hD0.self (sz := s.heap.size)
  clear hD0
  generalize hAe : va_A [((h 0), .inr (3, [.int (nI (q 0)), .int (nI (q 1)), .int (nI (q 2)), .int (nI (q 3)), .int (nI (q 4)), .int (nI (q 5))]))] s.heap.size = A at hD ⊢
  have hA : ∀ q : Nat, s.heap.size ≤ q → A q := fun q h => by rw [← hAe]; exact Or.inr h
  have hS : va_S A s.heap s.heap [] := va_S.rf
  have hP : va_P D vwCl [((h 0), .inr (3, [.int (nI (q 0)), .int (nI (q 1)), .int (nI (q 2)), .int (nI (q 3)), .int (nI (q 4)), .int (nI (q 5))]))] s.heap := hP
  have hl := lv_entry ([.ref (h 0), .int (nI ch)]) (n := 2) (Nat.le_of_ble_eq_true rfl)
  rw [lg_entry_eq]
  generalize (lg_sl ([.ref (h 0), .int (nI ch)]) ++ List.replicate (2 - (lg_sl ([.ref (h 0), .int (nI ch)])).length) Slot.unset).toArray = ls at hl ⊢
  have hl : lv_has ls 2 [(0, .ref (h 0)), (1, .int (nI ch))] := hl
  refine lv_iload_n hx hb dX3_takesFirstOfNumber_0 rfl (lv_at hl 1 rfl) ?_
  refine zr_calli (va_runS (As := [.int (nI ch)]) (rest := []) ⟨hx, hb, hml, hown, hts⟩ (mX3_isDigit l ch (by first | assumption | rfl | omega | decide)) (va_cwS 1 hts (zgS tw_97 tw_98 tw_95 tw_99) rfl rfl rfl (by decide +kernel) ⟨Nat.le_of_ble_eq_true rfl, Nat.le_of_ble_eq_true rfl⟩) zP_pre rfl rfl hl.1 rfl (lv_room (Nat.le_of_ble_eq_true rfl)) dX3_takesFirstOfNumber_1 ⟨Nat.zero_le _, Nat.zero_le _⟩) hS (fun r_1 H locs hw_1 hT hS => ?_)
  replace hP := hT _ _ hP
  obtain rfl : r_1 = (if rD ch then (1 : Int32) else 0) := hw_1
  refine lv_if_ne (tgt := 9) hx hb dX3_takesFirstOfNumber_4 (by decide) (fun c_4 => ?_) (fun c_4 => ?_)
  · replace c_4 := zb1.mp c_4
    refine lv_aload_n hx hb dX3_takesFirstOfNumber_9 rfl (lv_at hl 0 rfl) ?_
    refine lv_iload_n hx hb dX3_takesFirstOfNumber_10 rfl (lv_at hl 1 rfl) ?_
    refine lv_bipush (v := 48) hx hb dX3_takesFirstOfNumber_11 (by decide) ?_
    refine lv_isub hx hb dX3_takesFirstOfNumber_13 ?_
    refine zz_top (y := nI (ch - 48)) (pk_sub (a := ch) (b := 48) (by omega)) ?_
    refine va_put (D := D) (ci := 3) (v := .int (nI (ch - 48))) (ty := .int) (C := RX3) (T := TX3) (N := 6) hx hb htg iX3 tyX3 tyX3_ok nmX3 hown hK hP hD hS 0 rfl rfl 4 (by decide) (htg _ tw_86) (fun _ h9 => h9) rfl (tyX3_ok 4 (by decide)) (rfl) (rfl) (Nat.le_of_ble_eq_true rfl) dX3_takesFirstOfNumber_14 (fun H locs hP hD hS => ?_)
    have hP : va_P D vwCl [((h 0), .inr (3, [.int (nI (q 0)), .int (nI (q 1)), .int (nI (q 2)), .int (nI (q 3)), .int (nI (ch - 48)), .int (nI (q 5))]))] H := hP
    have hD : va_D A [((h 0), .inr (3, [.int (nI (q 0)), .int (nI (q 1)), .int (nI (q 2)), .int (nI (q 3)), .int (nI (ch - 48)), .int (nI (q 5))]))] := hD
    refine lv_aload_n hx hb dX3_takesFirstOfNumber_17 rfl (lv_at hl 0 rfl) ?_
    refine lv_bipush (v := 6) hx hb dX3_takesFirstOfNumber_18 (by decide) ?_
    refine va_put (D := D) (ci := 3) (v := .int 6) (ty := .int) (C := RX3) (T := TX3) (N := 6) hx hb htg iX3 tyX3 tyX3_ok nmX3 hown hK hP hD hS 0 rfl rfl 0 (by decide) (htg _ tw_82) (fun _ h9 => h9) rfl (tyX3_ok 0 (by decide)) (rfl) (rfl) (Nat.le_of_ble_eq_true rfl) dX3_takesFirstOfNumber_20 (fun H locs hP hD hS => ?_)
    have hP : va_P D vwCl [((h 0), .inr (3, [.int 6, .int (nI (q 1)), .int (nI (q 2)), .int (nI (q 3)), .int (nI (ch - 48)), .int (nI (q 5))]))] H := hP
    have hD : va_D A [((h 0), .inr (3, [.int 6, .int (nI (q 1)), .int (nI (q 2)), .int (nI (q 3)), .int (nI (ch - 48)), .int (nI (q 5))]))] := hD
    refine lv_iconst (v := 1) hx hb dX3_takesFirstOfNumber_23 (by decide) ?_
    refine W.widen (k := 0) (n := 0) (by first | exact Nat.le_of_ble_eq_true rfl | omega) (by first | exact Nat.le_of_ble_eq_true rfl | omega) ?_
    exact W.zret (v := 1) hx hb hr (rfl) (fun t ht hW => ⟨⟨1, (rSet (rSet q 4 (ch - 48)) 0 6), rfl, Or.inl ⟨c_4, rfl, rfl⟩, ⟨by rw [ht]; exact hP, hD⟩⟩, hS.F ht⟩) hS.2.2 dX3_takesFirstOfNumber_24
  · replace c_4 := zb0.mp c_4
    refine lv_iconst (v := 0) hx hb dX3_takesFirstOfNumber_7 (by decide) ?_
    refine W.widen (k := 0) (n := 0) (by first | exact Nat.le_of_ble_eq_true rfl | omega) (by first | exact Nat.le_of_ble_eq_true rfl | omega) ?_
    exact W.zret (v := 0) hx hb hr (rfl) (fun t ht hW => ⟨⟨0, q, rfl, Or.inr ⟨c_4, rfl, rfl⟩, ⟨by rw [ht]; exact hP, hD⟩⟩, hS.F ht⟩) hS.2.2 dX3_takesFirstOfNumber_8

set_option maxHeartbeats 4000000 in
set_option maxRecDepth 100000 in
theorem mX3_takesFirstOfReading (l : Launch) (D : va_G) (y : Nat → ClassId) (sz : Nat) (h : Nat → Nat) (q : (Nat → Nat)) (ch : Nat) (hg : rGood q) (hch : ch < 65536) (hq0 : q 0 = 4) : Met l yX3_takesFirstOfReading (ws_ yX3_takesFirstOfReading cX3_takesFirstOfReading 2 (some .boolean)) ({ frames := 2, cells := 0, slots := 0, locals := 41 }) (va_Pc [.ref (h 0), .int (nI ch)] (zRW D y [((h 0), .inr (3, [.int (nI (q 0)), .int (nI (q 1)), .int (nI (q 2)), .int (nI (q 3)), .int (nI (q 4)), .int (nI (q 5))]))] sz)) (va_Qi (fun (r : Int32) (u : (Nat → Nat)) => rTk q ch r u) (fun (u : (Nat → Nat)) t => zOut D (va_A [((h 0), .inr (3, [.int (nI (q 0)), .int (nI (q 1)), .int (nI (q 2)), .int (nI (q 3)), .int (nI (q 4)), .int (nI (q 5))]))] sz) [((h 0), .inr (3, [.int (nI (u 0)), .int (nI (u 1)), .int (nI (u 2)), .int (nI (u 3)), .int (nI (u 4)), .int (nI (u 5))]))] t) (va_A [((h 0), .inr (3, [.int (nI (q 0)), .int (nI (q 1)), .int (nI (q 2)), .int (nI (q 3)), .int (nI (q 4)), .int (nI (q 5))]))] sz)) 0 0 (va_A [((h 0), .inr (3, [.int (nI (q 0)), .int (nI (q 1)), .int (nI (q 2)), .int (nI (q 3)), .int (nI (q 4)), .int (nI (q 5))]))] sz) := by
  refine Met.ofW (cc := cX3_takesFirstOfReading) (maxL := 2) (ret := (some .boolean)) (by decide) rfl ?_
  intro p e s m args below meth c s₁ B hml hpre9
  obtain ⟨rfl, hsz, hP, hKN, hD0⟩ := hpre9
  have hK := hKN.1
  have hx := B.exec
  have hb := B.bytes
  have hr := B.returns
  have hts := atoms_spec (ws := (ws_ yX3_takesFirstOfReading cX3_takesFirstOfReading 2 (some .boolean))) B.pre
  have htg : ∀ w ∈ gT, w.before _ s = true := fun w h => hts w (List.mem_cons_of_mem _ h)
  have hown : s.vm.findClass RX3 = some m.cls := findClass_of_methodNamed B.named
  have hlocks := B.notSynchronized
  subst hsz
  have hD := hD0.self (sz := s.heap.size)
  clear hD0
  generalize hAe : va_A [((h 0), .inr (3, [.int (nI (q 0)), .int (nI (q 1)), .int (nI (q 2)), .int (nI (q 3)), .int (nI (q 4)), .int (nI (q 5))]))] s.heap.size = A at hD ⊢
  have hA : ∀ q : Nat, s.heap.size ≤ q → A q := fun q h => by rw [← hAe]; exact Or.inr h
  have hS : va_S A s.heap s.heap [] := va_S.rf
  have hP : va_P D vwCl [((h 0), .inr (3, [.int (nI (q 0)), .int (nI (q 1)), .int (nI (q 2)), .int (nI (q 3)), .int (nI (q 4)), .int (nI (q 5))]))] s.heap := hP
  have hl := lv_entry ([.ref (h 0), .int (nI ch)]) (n := 2) (Nat.le_of_ble_eq_true rfl)
  rw [lg_entry_eq]
  generalize (lg_sl ([.ref (h 0), .int (nI ch)]) ++ List.replicate (2 - (lg_sl ([.ref (h 0), .int (nI ch)])).length) Slot.unset).toArray = ls at hl ⊢
  have hl : lv_has ls 2 [(0, .ref (h 0)), (1, .int (nI ch))] := hl
  obtain ⟨hg0, hg1, hg2, hg3, hg4, hg5⟩ := id hg
  refine lv_aload_n hx hb dX3_takesFirstOfReading_0 rfl (lv_at hl 0 rfl) ?_
  refine lv_iload_n hx hb dX3_takesFirstOfReading_1 rfl (lv_at hl 1 rfl) ?_
  refine lv_bipush (v := 45) hx hb dX3_takesFirstOfReading_2 (by decide) ?_
  refine lv_icmp_ne (tgt := 11) hx hb dX3_takesFirstOfReading_4 (by decide) (fun c_4 => ?_) (fun c_4 => ?_)
  · replace c_4 : ¬ ch = 45 := fun h => c_4 ((nI_eq (a := ch) (b := 45) (by omega) (by omega)).mpr h)
    refine lv_iconst (v := 0) hx hb dX3_takesFirstOfReading_11 (by decide) ?_
    refine va_put (D := D) (ci := 3) (v := .int 0) (ty := .boolean) (C := RX3) (T := TX3) (N := 6) hx hb htg iX3 tyX3 tyX3_ok nmX3 hown hK hP hD hS 0 rfl rfl 5 (by decide) (htg _ tw_87) (fun _ h9 => h9) rfl (tyX3_ok 5 (by decide)) (rfl) (rfl) (Nat.le_of_ble_eq_true rfl) dX3_takesFirstOfReading_12 (fun H locs hP hD hS => ?_)
    have hP : va_P D vwCl [((h 0), .inr (3, [.int (nI (q 0)), .int (nI (q 1)), .int (nI (q 2)), .int (nI (q 3)), .int (nI (q 4)), .int 0]))] H := hP
    have hD : va_D A [((h 0), .inr (3, [.int (nI (q 0)), .int (nI (q 1)), .int (nI (q 2)), .int (nI (q 3)), .int (nI (q 4)), .int 0]))] := hD
    have hP : va_P D vwCl [((h 0), .inr (3, [.int (nI ((rSet q 5 0) 0)), .int (nI ((rSet q 5 0) 1)), .int (nI ((rSet q 5 0) 2)), .int (nI ((rSet q 5 0) 3)), .int (nI ((rSet q 5 0) 4)), .int (nI ((rSet q 5 0) 5))]))] H := hP
    have hD : va_D A [((h 0), .inr (3, [.int (nI ((rSet q 5 0) 0)), .int (nI ((rSet q 5 0) 1)), .int (nI ((rSet q 5 0) 2)), .int (nI ((rSet q 5 0) 3)), .int (nI ((rSet q 5 0) 4)), .int (nI ((rSet q 5 0) 5))]))] := hD
    refine lv_aload_n hx hb dX3_takesFirstOfReading_15 rfl (lv_at hl 0 rfl) ?_
    refine va_get (D := D) (ci := 3) (v := .int (nI ((rSet q 5 0) 5))) (C := RX3) (T := TX3) (N := 6) hx hb htg iX3 hown hK hP 0 rfl rfl 5 (by decide) (htg _ tw_87) (fun _ h9 => h9) rfl dX3_takesFirstOfReading_16 ?_
    refine lv_if_eq (tgt := 29) hx hb dX3_takesFirstOfReading_19 (by decide) (fun _ => ?_) (fun c_19 => absurd (rfl) c_19)
    refine lv_aload_n hx hb dX3_takesFirstOfReading_29 rfl (lv_at hl 0 rfl) ?_
    refine lv_iload_n hx hb dX3_takesFirstOfReading_30 rfl (lv_at hl 1 rfl) ?_
    refine zw_calli (wr := []) (w1 := (fun u : (Nat → Nat) => [((h 0), .inr (3, [.int (nI (u 0)), .int (nI (u 1)), .int (nI (u 2)), .int (nI (u 3)), .int (nI (u 4)), .int (nI (u 5))]))])) hP hD hS hA [0] [] rfl rfl (by decide +kernel) (by decide +kernel) (va_runV (As := [.int (nI ch)]) (rest := []) ⟨hx, hb, hml, hown, hts⟩ (mX3_takesFirstOfNumber l D y _ h (rSet q 5 0) ch (⟨hg0, hg1, hg2, hg3, hg4, by show 0 < 2; decide⟩) (by first | assumption | rfl | omega | decide)) (cwV 1 hts (zgV tw_116 tw_117 tw_118 tw_95 tw_119) rfl rfl rfl (by decide +kernel) ⟨Nat.le_of_ble_eq_true rfl, Nat.le_of_ble_eq_true rfl⟩) (zRW_preV hKN hP hD (ci := 3) (q0 := 0) rfl rfl [0] rfl (by decide)) rfl rfl hl.1 rfl (lv_room (Nat.le_of_ble_eq_true rfl)) dX3_takesFirstOfReading_31 ⟨Nat.zero_le _, Nat.zero_le _⟩) (fun r_1 u_2 H locs hw_31 hP hD hS => ?_)
    have hP : va_P D vwCl [((h 0), .inr (3, [.int (nI (u_2 0)), .int (nI (u_2 1)), .int (nI (u_2 2)), .int (nI (u_2 3)), .int (nI (u_2 4)), .int (nI (u_2 5))]))] H := hP
    have hD : va_D A [((h 0), .inr (3, [.int (nI (u_2 0)), .int (nI (u_2 1)), .int (nI (u_2 2)), .int (nI (u_2 3)), .int (nI (u_2 4)), .int (nI (u_2 5))]))] := hD
    try dsimp only at hw_31
    refine W.widen (k := 0) (n := 0) (by first | exact Nat.le_of_ble_eq_true rfl | omega) (by first | exact Nat.le_of_ble_eq_true rfl | omega) ?_
    exact W.zret (v := r_1) hx hb hr (by rcases hw_31 with ⟨_, h, _⟩ | ⟨_, h, _⟩ <;> rw [h] <;> rfl) (fun t ht hW => ⟨⟨r_1, u_2, rfl, zfr4 hg hq0 c_4 hw_31, ⟨by rw [ht]; exact hP, hD⟩⟩, hS.F ht⟩) hS.2.2 dX3_takesFirstOfReading_34
  · replace c_4 : ch = 45 := (nI_eq (a := ch) (b := 45) (by omega) (by omega)).mp c_4
    refine lv_iconst (v := 1) hx hb dX3_takesFirstOfReading_7 (by decide) ?_
    refine lv_goto (tgt := 12) hx hb dX3_takesFirstOfReading_8 (by decide) ?_
    refine va_put (D := D) (ci := 3) (v := .int 1) (ty := .boolean) (C := RX3) (T := TX3) (N := 6) hx hb htg iX3 tyX3 tyX3_ok nmX3 hown hK hP hD hS 0 rfl rfl 5 (by decide) (htg _ tw_87) (fun _ h9 => h9) rfl (tyX3_ok 5 (by decide)) (rfl) (rfl) (Nat.le_of_ble_eq_true rfl) dX3_takesFirstOfReading_12 (fun H locs hP hD hS => ?_)
    have hP : va_P D vwCl [((h 0), .inr (3, [.int (nI (q 0)), .int (nI (q 1)), .int (nI (q 2)), .int (nI (q 3)), .int (nI (q 4)), .int 1]))] H := hP
    have hD : va_D A [((h 0), .inr (3, [.int (nI (q 0)), .int (nI (q 1)), .int (nI (q 2)), .int (nI (q 3)), .int (nI (q 4)), .int 1]))] := hD
    have hP : va_P D vwCl [((h 0), .inr (3, [.int (nI ((rSet q 5 1) 0)), .int (nI ((rSet q 5 1) 1)), .int (nI ((rSet q 5 1) 2)), .int (nI ((rSet q 5 1) 3)), .int (nI ((rSet q 5 1) 4)), .int (nI ((rSet q 5 1) 5))]))] H := hP
    have hD : va_D A [((h 0), .inr (3, [.int (nI ((rSet q 5 1) 0)), .int (nI ((rSet q 5 1) 1)), .int (nI ((rSet q 5 1) 2)), .int (nI ((rSet q 5 1) 3)), .int (nI ((rSet q 5 1) 4)), .int (nI ((rSet q 5 1) 5))]))] := hD
    refine lv_aload_n hx hb dX3_takesFirstOfReading_15 rfl (lv_at hl 0 rfl) ?_
    refine va_get (D := D) (ci := 3) (v := .int (nI ((rSet q 5 1) 5))) (C := RX3) (T := TX3) (N := 6) hx hb htg iX3 hown hK hP 0 rfl rfl 5 (by decide) (htg _ tw_87) (fun _ h9 => h9) rfl dX3_takesFirstOfReading_16 ?_
    refine lv_if_eq (tgt := 29) hx hb dX3_takesFirstOfReading_19 (by decide) (fun c_19 => absurd c_19 (show ¬ (1 : Int32) = 0 from by decide)) (fun _ => ?_)
    refine lv_aload_n hx hb dX3_takesFirstOfReading_22 rfl (lv_at hl 0 rfl) ?_
    refine lv_iconst (v := 5) hx hb dX3_takesFirstOfReading_23 (by decide) ?_
    refine va_put (D := D) (ci := 3) (v := .int 5) (ty := .int) (C := RX3) (T := TX3) (N := 6) hx hb htg iX3 tyX3 tyX3_ok nmX3 hown hK hP hD hS 0 rfl rfl 0 (by decide) (htg _ tw_82) (fun _ h9 => h9) rfl (tyX3_ok 0 (by decide)) (rfl) (rfl) (Nat.le_of_ble_eq_true rfl) dX3_takesFirstOfReading_24 (fun H locs hP hD hS => ?_)
    have hP : va_P D vwCl [((h 0), .inr (3, [.int 5, .int (nI ((rSet q 5 1) 1)), .int (nI ((rSet q 5 1) 2)), .int (nI ((rSet q 5 1) 3)), .int (nI ((rSet q 5 1) 4)), .int (nI ((rSet q 5 1) 5))]))] H := hP
    have hD : va_D A [((h 0), .inr (3, [.int 5, .int (nI ((rSet q 5 1) 1)), .int (nI ((rSet q 5 1) 2)), .int (nI ((rSet q 5 1) 3)), .int (nI ((rSet q 5 1) 4)), .int (nI ((rSet q 5 1) 5))]))] := hD
    refine lv_iconst (v := 1) hx hb dX3_takesFirstOfReading_27 (by decide) ?_
    refine W.widen (k := 0) (n := 0) (by first | exact Nat.le_of_ble_eq_true rfl | omega) (by first | exact Nat.le_of_ble_eq_true rfl | omega) ?_
    exact W.zret (v := 1) hx hb hr (rfl) (fun t ht hW => ⟨⟨1, (rSet (rSet q 5 1) 0 5), rfl, rTk_y hg ((rOk_4 hq0).mpr (Or.inl c_4)) (rNx_4a hq0 c_4), ⟨by rw [ht]; exact hP, hD⟩⟩, hS.F ht⟩) hS.2.2 dX3_takesFirstOfReading_28

set_option maxHeartbeats 4000000 in
set_option maxRecDepth 100000 in
theorem mX3_takesInNumber (l : Launch) (D : va_G) (y : Nat → ClassId) (sz : Nat) (h : Nat → Nat) (q : (Nat → Nat)) (ch : Nat) (hg : rGood q) (hch : ch < 65536) (hq0 : q 0 = 6) : Met l yX3_takesInNumber (ws_ yX3_takesInNumber cX3_takesInNumber 2 (some .boolean)) ({ frames := 1, cells := 0, slots := 0, locals := 20 }) (va_Pc [.ref (h 0), .int (nI ch)] (zRW D y [((h 0), .inr (3, [.int (nI (q 0)), .int (nI (q 1)), .int (nI (q 2)), .int (nI (q 3)), .int (nI (q 4)), .int (nI (q 5))]))] sz)) (va_Qi (fun (r : Int32) (u : (Nat → Nat)) => rTk q ch r u) (fun (u : (Nat → Nat)) t => zOut D (va_A [((h 0), .inr (3, [.int (nI (q 0)), .int (nI (q 1)), .int (nI (q 2)), .int (nI (q 3)), .int (nI (q 4)), .int (nI (q 5))]))] sz) [((h 0), .inr (3, [.int (nI (u 0)), .int (nI (u 1)), .int (nI (u 2)), .int (nI (u 3)), .int (nI (u 4)), .int (nI (u 5))]))] t) (va_A [((h 0), .inr (3, [.int (nI (q 0)), .int (nI (q 1)), .int (nI (q 2)), .int (nI (q 3)), .int (nI (q 4)), .int (nI (q 5))]))] sz)) 0 0 (va_A [((h 0), .inr (3, [.int (nI (q 0)), .int (nI (q 1)), .int (nI (q 2)), .int (nI (q 3)), .int (nI (q 4)), .int (nI (q 5))]))] sz) := by
  refine Met.ofW (cc := cX3_takesInNumber) (maxL := 2) (ret := (some .boolean)) (by decide) rfl ?_
  intro p e s m args below meth c s₁ B hml hpre9
  obtain ⟨rfl, hsz, hP, hKN, hD0⟩ := hpre9
  have hK := hKN.1
  have hx := B.exec
  have hb := B.bytes
  have hr := B.returns
  have hts := atoms_spec (ws := (ws_ yX3_takesInNumber cX3_takesInNumber 2 (some .boolean))) B.pre
  have htg : ∀ w ∈ gT, w.before _ s = true := fun w h => hts w (List.mem_cons_of_mem _ h)
  have hown : s.vm.findClass RX3 = some m.cls := findClass_of_methodNamed B.named
  have hlocks := B.notSynchronized
  subst hsz
  have hD := hD0.self (sz := s.heap.size)
  clear hD0
  generalize hAe : va_A [((h 0), .inr (3, [.int (nI (q 0)), .int (nI (q 1)), .int (nI (q 2)), .int (nI (q 3)), .int (nI (q 4)), .int (nI (q 5))]))] s.heap.size = A at hD ⊢
  have hA : ∀ q : Nat, s.heap.size ≤ q → A q := fun q h => by rw [← hAe]; exact Or.inr h
  have hS : va_S A s.heap s.heap [] := va_S.rf
  have hP : va_P D vwCl [((h 0), .inr (3, [.int (nI (q 0)), .int (nI (q 1)), .int (nI (q 2)), .int (nI (q 3)), .int (nI (q 4)), .int (nI (q 5))]))] s.heap := hP
  have hl := lv_entry ([.ref (h 0), .int (nI ch)]) (n := 2) (Nat.le_of_ble_eq_true rfl)
  rw [lg_entry_eq]
  generalize (lg_sl ([.ref (h 0), .int (nI ch)]) ++ List.replicate (2 - (lg_sl ([.ref (h 0), .int (nI ch)])).length) Slot.unset).toArray = ls at hl ⊢
  have hl : lv_has ls 2 [(0, .ref (h 0)), (1, .int (nI ch))] := hl
  obtain ⟨hg0, hg1, hg2, hg3, hg4, hg5⟩ := id hg
  refine lv_iload_n hx hb dX3_takesInNumber_0 rfl (lv_at hl 1 rfl) ?_
  refine lv_bipush (v := 59) hx hb dX3_takesInNumber_1 (by decide) ?_
  refine lv_icmp_ne (tgt := 13) hx hb dX3_takesInNumber_3 (by decide) (fun c_3 => ?_) (fun c_3 => ?_)
  · replace c_3 : ¬ ch = 59 := fun h => c_3 ((nI_eq (a := ch) (b := 59) (by omega) (by omega)).mpr h)
    refine lv_iload_n hx hb dX3_takesInNumber_13 rfl (lv_at hl 1 rfl) ?_
    refine zr_calli (va_runS (As := [.int (nI ch)]) (rest := []) ⟨hx, hb, hml, hown, hts⟩ (mX3_isDigit l ch (by first | assumption | rfl | omega | decide)) (va_cwS 1 hts (zgS tw_97 tw_98 tw_95 tw_99) rfl rfl rfl (by decide +kernel) ⟨Nat.le_of_ble_eq_true rfl, Nat.le_of_ble_eq_true rfl⟩) zP_pre rfl rfl hl.1 rfl (lv_room (Nat.le_of_ble_eq_true rfl)) dX3_takesInNumber_14 ⟨Nat.zero_le _, Nat.zero_le _⟩) hS (fun r_1 H locs hw_14 hT hS => ?_)
    replace hP := hT _ _ hP
    obtain rfl : r_1 = (if rD ch then (1 : Int32) else 0) := hw_14
    refine lv_if_eq (tgt := 45) hx hb dX3_takesInNumber_17 (by decide) (fun c_17 => ?_) (fun c_17 => ?_)
    · replace c_17 := zb0.mp c_17
      refine lv_iconst (v := 0) hx hb dX3_takesInNumber_45 (by decide) ?_
      refine W.widen (k := 0) (n := 0) (by first | exact Nat.le_of_ble_eq_true rfl | omega) (by first | exact Nat.le_of_ble_eq_true rfl | omega) ?_
      exact W.zret (v := 0) hx hb hr (rfl) (fun t ht hW => ⟨⟨0, q, rfl, rTk_n hg (fun h => by have h := (rOk_6 hq0).mp h; omega), ⟨by rw [ht]; exact hP, hD⟩⟩, hS.F ht⟩) hS.2.2 dX3_takesInNumber_46
    · replace c_17 := zb1.mp c_17
      refine lv_aload_n hx hb dX3_takesInNumber_20 rfl (lv_at hl 0 rfl) ?_
      refine va_get (D := D) (ci := 3) (v := .int (nI (q 4))) (C := RX3) (T := TX3) (N := 6) hx hb htg iX3 hown hK hP 0 rfl rfl 4 (by decide) (htg _ tw_86) (fun _ h9 => h9) rfl dX3_takesInNumber_21 ?_
      refine lv_if_eq (tgt := 45) hx hb dX3_takesInNumber_24 (by decide) (fun c_24 => ?_) (fun c_24 => ?_)
      · replace c_24 : (q 4) = 0 := (nI_eq (a := (q 4)) (b := 0) (by omega) (by omega)).mp c_24
        refine lv_iconst (v := 0) hx hb dX3_takesInNumber_45 (by decide) ?_
        refine W.widen (k := 0) (n := 0) (by first | exact Nat.le_of_ble_eq_true rfl | omega) (by first | exact Nat.le_of_ble_eq_true rfl | omega) ?_
        exact W.zret (v := 0) hx hb hr (rfl) (fun t ht hW => ⟨⟨0, q, rfl, rTk_n hg (fun h => by have h := (rOk_6 hq0).mp h; omega), ⟨by rw [ht]; exact hP, hD⟩⟩, hS.F ht⟩) hS.2.2 dX3_takesInNumber_46
      · replace c_24 : ¬ (q 4) = 0 := fun h => c_24 ((nI_eq (a := (q 4)) (b := 0) (by omega) (by omega)).mpr h)
        refine lv_aload_n hx hb dX3_takesInNumber_27 rfl (lv_at hl 0 rfl) ?_
        refine va_get (D := D) (ci := 3) (v := .int (nI (q 4))) (C := RX3) (T := TX3) (N := 6) hx hb htg iX3 hown hK hP 0 rfl rfl 4 (by decide) (htg _ tw_86) (fun _ h9 => h9) rfl dX3_takesInNumber_28 ?_
        refine lv_bipush (v := 10) hx hb dX3_takesInNumber_31 (by decide) ?_
        refine lv_imul hx hb dX3_takesInNumber_33 ?_
        refine zz_top (y := nI ((q 4) * 10)) (pk_mul (q 4) 10) ?_
        refine lv_iload_n hx hb dX3_takesInNumber_34 rfl (lv_at hl 1 rfl) ?_
        refine lv_bipush (v := 48) hx hb dX3_takesInNumber_35 (by decide) ?_
        refine lv_isub hx hb dX3_takesInNumber_37 ?_
        refine zz_top (y := nI (ch - 48)) (pk_sub (a := ch) (b := 48) (by omega)) ?_
        refine lv_iadd hx hb dX3_takesInNumber_38 ?_
        refine zz_top (y := nI (((q 4) * 10) + (ch - 48))) (nI_add ((q 4) * 10) (ch - 48)) ?_
        refine lv_sipush (v := 200) hx hb dX3_takesInNumber_39 (by decide) ?_
        refine lv_icmp_le (tgt := 47) hx hb dX3_takesInNumber_42 (by decide) (fun c_42 => ?_) (fun c_42 => ?_)
        · replace c_42 : (((q 4) * 10) + (ch - 48)) ≤ 200 := (nI_leI (a := (((q 4) * 10) + (ch - 48))) (b := 200) (by omega) (by omega)).mp c_42
          refine lv_aload_n hx hb dX3_takesInNumber_47 rfl (lv_at hl 0 rfl) ?_
          refine lv_aload_n hx hb dX3_takesInNumber_48 rfl (lv_at hl 0 rfl) ?_
          refine va_get (D := D) (ci := 3) (v := .int (nI (q 4))) (C := RX3) (T := TX3) (N := 6) hx hb htg iX3 hown hK hP 0 rfl rfl 4 (by decide) (htg _ tw_86) (fun _ h9 => h9) rfl dX3_takesInNumber_49 ?_
          refine lv_bipush (v := 10) hx hb dX3_takesInNumber_52 (by decide) ?_
          refine lv_imul hx hb dX3_takesInNumber_54 ?_
          refine zz_top (y := nI ((q 4) * 10)) (pk_mul (q 4) 10) ?_
          refine lv_iload_n hx hb dX3_takesInNumber_55 rfl (lv_at hl 1 rfl) ?_
          refine lv_bipush (v := 48) hx hb dX3_takesInNumber_56 (by decide) ?_
          refine lv_isub hx hb dX3_takesInNumber_58 ?_
          refine zz_top (y := nI (ch - 48)) (pk_sub (a := ch) (b := 48) (by omega)) ?_
          refine lv_iadd hx hb dX3_takesInNumber_59 ?_
          refine zz_top (y := nI (((q 4) * 10) + (ch - 48))) (nI_add ((q 4) * 10) (ch - 48)) ?_
          refine va_put (D := D) (ci := 3) (v := .int (nI (((q 4) * 10) + (ch - 48)))) (ty := .int) (C := RX3) (T := TX3) (N := 6) hx hb htg iX3 tyX3 tyX3_ok nmX3 hown hK hP hD hS 0 rfl rfl 4 (by decide) (htg _ tw_86) (fun _ h9 => h9) rfl (tyX3_ok 4 (by decide)) (rfl) (rfl) (Nat.le_of_ble_eq_true rfl) dX3_takesInNumber_60 (fun H locs hP hD hS => ?_)
          have hP : va_P D vwCl [((h 0), .inr (3, [.int (nI (q 0)), .int (nI (q 1)), .int (nI (q 2)), .int (nI (q 3)), .int (nI (((q 4) * 10) + (ch - 48))), .int (nI (q 5))]))] H := hP
          have hD : va_D A [((h 0), .inr (3, [.int (nI (q 0)), .int (nI (q 1)), .int (nI (q 2)), .int (nI (q 3)), .int (nI (((q 4) * 10) + (ch - 48))), .int (nI (q 5))]))] := hD
          refine lv_iconst (v := 1) hx hb dX3_takesInNumber_63 (by decide) ?_
          refine W.widen (k := 0) (n := 0) (by first | exact Nat.le_of_ble_eq_true rfl | omega) (by first | exact Nat.le_of_ble_eq_true rfl | omega) ?_
          exact W.zret (v := 1) hx hb hr (rfl) (fun t ht hW => ⟨⟨1, (rSet q 4 (q 4 * 10 + (ch - 48))), rfl, rTk_y hg ((rOk_6 hq0).mpr (Or.inr ⟨c_17, c_24, by omega⟩)) (rNx_6b hq0 c_3), ⟨by rw [ht]; exact hP, hD⟩⟩, hS.F ht⟩) hS.2.2 dX3_takesInNumber_64
        · replace c_42 : ¬ (((q 4) * 10) + (ch - 48)) ≤ 200 := fun h => c_42 ((nI_leI (a := (((q 4) * 10) + (ch - 48))) (b := 200) (by omega) (by omega)).mpr h)
          refine lv_iconst (v := 0) hx hb dX3_takesInNumber_45 (by decide) ?_
          refine W.widen (k := 0) (n := 0) (by first | exact Nat.le_of_ble_eq_true rfl | omega) (by first | exact Nat.le_of_ble_eq_true rfl | omega) ?_
          exact W.zret (v := 0) hx hb hr (rfl) (fun t ht hW => ⟨⟨0, q, rfl, rTk_n hg (fun h => by have h := (rOk_6 hq0).mp h; omega), ⟨by rw [ht]; exact hP, hD⟩⟩, hS.F ht⟩) hS.2.2 dX3_takesInNumber_46
  · replace c_3 : ch = 59 := (nI_eq (a := ch) (b := 59) (by omega) (by omega)).mp c_3
    refine lv_aload_n hx hb dX3_takesInNumber_6 rfl (lv_at hl 0 rfl) ?_
    refine lv_iconst (v := 0) hx hb dX3_takesInNumber_7 (by decide) ?_
    refine va_put (D := D) (ci := 3) (v := .int 0) (ty := .int) (C := RX3) (T := TX3) (N := 6) hx hb htg iX3 tyX3 tyX3_ok nmX3 hown hK hP hD hS 0 rfl rfl 0 (by decide) (htg _ tw_82) (fun _ h9 => h9) rfl (tyX3_ok 0 (by decide)) (rfl) (rfl) (Nat.le_of_ble_eq_true rfl) dX3_takesInNumber_8 (fun H locs hP hD hS => ?_)
    have hP : va_P D vwCl [((h 0), .inr (3, [.int 0, .int (nI (q 1)), .int (nI (q 2)), .int (nI (q 3)), .int (nI (q 4)), .int (nI (q 5))]))] H := hP
    have hD : va_D A [((h 0), .inr (3, [.int 0, .int (nI (q 1)), .int (nI (q 2)), .int (nI (q 3)), .int (nI (q 4)), .int (nI (q 5))]))] := hD
    refine lv_iconst (v := 1) hx hb dX3_takesInNumber_11 (by decide) ?_
    refine W.widen (k := 0) (n := 0) (by first | exact Nat.le_of_ble_eq_true rfl | omega) (by first | exact Nat.le_of_ble_eq_true rfl | omega) ?_
    exact W.zret (v := 1) hx hb hr (rfl) (fun t ht hW => ⟨⟨1, (rSet q 0 0), rfl, rTk_y hg ((rOk_6 hq0).mpr (Or.inl c_3)) (rNx_6a hq0 c_3), ⟨by rw [ht]; exact hP, hD⟩⟩, hS.F ht⟩) hS.2.2 dX3_takesInNumber_12

set_option maxHeartbeats 4000000 in
set_option maxRecDepth 100000 in
theorem mX3_takes (l : Launch) (D : va_G) (y : Nat → ClassId) (sz : Nat) (h : Nat → Nat) (q : (Nat → Nat)) (ch : Nat) (hg : rGood q) (hch : ch < 65536) : Met l yX3_takes (ws_ yX3_takes cX3_takes 2 (some .boolean)) ({ frames := 3, cells := 0, slots := 0, locals := 62 }) (va_Pc [.ref (h 0), .int (nI ch)] (zRW D y [((h 0), .inr (3, [.int (nI (q 0)), .int (nI (q 1)), .int (nI (q 2)), .int (nI (q 3)), .int (nI (q 4)), .int (nI (q 5))]))] sz)) (va_Qi (fun (r : Int32) (u : (Nat → Nat)) => rTk q ch r u) (fun (u : (Nat → Nat)) t => zOut D (va_A [((h 0), .inr (3, [.int (nI (q 0)), .int (nI (q 1)), .int (nI (q 2)), .int (nI (q 3)), .int (nI (q 4)), .int (nI (q 5))]))] sz) [((h 0), .inr (3, [.int (nI (u 0)), .int (nI (u 1)), .int (nI (u 2)), .int (nI (u 3)), .int (nI (u 4)), .int (nI (u 5))]))] t) (va_A [((h 0), .inr (3, [.int (nI (q 0)), .int (nI (q 1)), .int (nI (q 2)), .int (nI (q 3)), .int (nI (q 4)), .int (nI (q 5))]))] sz)) 0 0 (va_A [((h 0), .inr (3, [.int (nI (q 0)), .int (nI (q 1)), .int (nI (q 2)), .int (nI (q 3)), .int (nI (q 4)), .int (nI (q 5))]))] sz) := by
  refine Met.ofW (cc := cX3_takes) (maxL := 2) (ret := (some .boolean)) (by decide) rfl ?_
  intro p e s m args below meth c s₁ B hml hpre9
  obtain ⟨rfl, hsz, hP, hKN, hD0⟩ := hpre9
  have hK := hKN.1
  have hx := B.exec
  have hb := B.bytes
  have hr := B.returns
  have hts := atoms_spec (ws := (ws_ yX3_takes cX3_takes 2 (some .boolean))) B.pre
  have htg : ∀ w ∈ gT, w.before _ s = true := fun w h => hts w (List.mem_cons_of_mem _ h)
  have hown : s.vm.findClass RX3 = some m.cls := findClass_of_methodNamed B.named
  have hlocks := B.notSynchronized
  subst hsz
  have hD := hD0.self (sz := s.heap.size)
  clear hD0
  generalize hAe : va_A [((h 0), .inr (3, [.int (nI (q 0)), .int (nI (q 1)), .int (nI (q 2)), .int (nI (q 3)), .int (nI (q 4)), .int (nI (q 5))]))] s.heap.size = A at hD ⊢
  have hA : ∀ q : Nat, s.heap.size ≤ q → A q := fun q h => by rw [← hAe]; exact Or.inr h
  have hS : va_S A s.heap s.heap [] := va_S.rf
  have hP : va_P D vwCl [((h 0), .inr (3, [.int (nI (q 0)), .int (nI (q 1)), .int (nI (q 2)), .int (nI (q 3)), .int (nI (q 4)), .int (nI (q 5))]))] s.heap := hP
  have hl := lv_entry ([.ref (h 0), .int (nI ch)]) (n := 2) (Nat.le_of_ble_eq_true rfl)
  rw [lg_entry_eq]
  generalize (lg_sl ([.ref (h 0), .int (nI ch)]) ++ List.replicate (2 - (lg_sl ([.ref (h 0), .int (nI ch)])).length) Slot.unset).toArray = ls at hl ⊢
  have hl : lv_has ls 2 [(0, .ref (h 0)), (1, .int (nI ch))] := hl
  obtain ⟨hg0, hg1, hg2, hg3, hg4, hg5⟩ := id hg
  refine lv_aload_n hx hb dX3_takes_0 rfl (lv_at hl 0 rfl) ?_
  refine va_get (D := D) (ci := 3) (v := .int (nI (q 0))) (C := RX3) (T := TX3) (N := 6) hx hb htg iX3 hown hK hP 0 rfl rfl 0 (by decide) (htg _ tw_82) (fun _ h9 => h9) rfl dX3_takes_1 ?_
  rcases (show q 0 = 0 ∨ q 0 = 1 ∨ q 0 = 2 ∨ q 0 = 3 ∨ q 0 = 4 ∨ q 0 = 5 ∨ q 0 = 6 by omega) with h9 | h9 | h9 | h9 | h9 | h9 | h9
  · refine zz_top (y := 0) (congrArg nI h9) ?_
    refine lv_tableIn (tgt := 44) (off := 40) hx hb dX3_takes_4 (by decide) (by decide) rfl (by decide) ?_
    refine lv_aload_n hx hb dX3_takes_44 rfl (lv_at hl 0 rfl) ?_
    refine lv_iload_n hx hb dX3_takes_45 rfl (lv_at hl 1 rfl) ?_
    refine zw_calli (wr := []) (w1 := (fun u : (Nat → Nat) => [((h 0), .inr (3, [.int (nI (u 0)), .int (nI (u 1)), .int (nI (u 2)), .int (nI (u 3)), .int (nI (u 4)), .int (nI (u 5))]))])) hP hD hS hA [0] [] rfl rfl (by decide +kernel) (by decide +kernel) (va_runV (As := [.int (nI ch)]) (rest := []) ⟨hx, hb, hml, hown, hts⟩ (mX3_takesFirstOfLevel l D y _ h q ch (by first | assumption | rfl | omega | decide) (by first | assumption | rfl | omega | decide) (h9)) (cwV 1 hts (zgV tw_92 tw_93 tw_94 tw_95 tw_96) rfl rfl rfl (by decide +kernel) ⟨Nat.le_of_ble_eq_true rfl, Nat.le_of_ble_eq_true rfl⟩) (zRW_preV hKN hP hD (ci := 3) (q0 := 0) rfl rfl [0] rfl (by decide)) rfl rfl hl.1 rfl (lv_room (Nat.le_of_ble_eq_true rfl)) dX3_takes_46 ⟨Nat.zero_le _, Nat.zero_le _⟩) (fun r_1 u_2 H locs hw_46 hP hD hS => ?_)
    have hP : va_P D vwCl [((h 0), .inr (3, [.int (nI (u_2 0)), .int (nI (u_2 1)), .int (nI (u_2 2)), .int (nI (u_2 3)), .int (nI (u_2 4)), .int (nI (u_2 5))]))] H := hP
    have hD : va_D A [((h 0), .inr (3, [.int (nI (u_2 0)), .int (nI (u_2 1)), .int (nI (u_2 2)), .int (nI (u_2 3)), .int (nI (u_2 4)), .int (nI (u_2 5))]))] := hD
    try dsimp only at hw_46
    refine W.widen (k := 0) (n := 0) (by first | exact Nat.le_of_ble_eq_true rfl | omega) (by first | exact Nat.le_of_ble_eq_true rfl | omega) ?_
    exact W.zret (v := r_1) hx hb hr (rTk_bit hw_46) (fun t ht hW => ⟨⟨r_1, u_2, rfl, hw_46, ⟨by rw [ht]; exact hP, hD⟩⟩, hS.F ht⟩) hS.2.2 dX3_takes_49
  · refine zz_top (y := 1) (congrArg nI h9) ?_
    refine lv_tableIn (tgt := 50) (off := 46) hx hb dX3_takes_4 (by decide) (by decide) rfl (by decide) ?_
    refine lv_aload_n hx hb dX3_takes_50 rfl (lv_at hl 0 rfl) ?_
    refine lv_iload_n hx hb dX3_takes_51 rfl (lv_at hl 1 rfl) ?_
    refine zw_calli (wr := []) (w1 := (fun u : (Nat → Nat) => [((h 0), .inr (3, [.int (nI (u 0)), .int (nI (u 1)), .int (nI (u 2)), .int (nI (u 3)), .int (nI (u 4)), .int (nI (u 5))]))])) hP hD hS hA [0] [] rfl rfl (by decide +kernel) (by decide +kernel) (va_runV (As := [.int (nI ch)]) (rest := []) ⟨hx, hb, hml, hown, hts⟩ (mX3_takesInLevel l D y _ h q ch (by first | assumption | rfl | omega | decide) (by first | assumption | rfl | omega | decide) (h9)) (cwV 1 hts (zgV tw_100 tw_101 tw_102 tw_95 tw_103) rfl rfl rfl (by decide +kernel) ⟨Nat.le_of_ble_eq_true rfl, Nat.le_of_ble_eq_true rfl⟩) (zRW_preV hKN hP hD (ci := 3) (q0 := 0) rfl rfl [0] rfl (by decide)) rfl rfl hl.1 rfl (lv_room (Nat.le_of_ble_eq_true rfl)) dX3_takes_52 ⟨Nat.zero_le _, Nat.zero_le _⟩) (fun r_3 u_4 H locs hw_52 hP hD hS => ?_)
    have hP : va_P D vwCl [((h 0), .inr (3, [.int (nI (u_4 0)), .int (nI (u_4 1)), .int (nI (u_4 2)), .int (nI (u_4 3)), .int (nI (u_4 4)), .int (nI (u_4 5))]))] H := hP
    have hD : va_D A [((h 0), .inr (3, [.int (nI (u_4 0)), .int (nI (u_4 1)), .int (nI (u_4 2)), .int (nI (u_4 3)), .int (nI (u_4 4)), .int (nI (u_4 5))]))] := hD
    try dsimp only at hw_52
    refine W.widen (k := 0) (n := 0) (by first | exact Nat.le_of_ble_eq_true rfl | omega) (by first | exact Nat.le_of_ble_eq_true rfl | omega) ?_
    exact W.zret (v := r_3) hx hb hr (rTk_bit hw_52) (fun t ht hW => ⟨⟨r_3, u_4, rfl, hw_52, ⟨by rw [ht]; exact hP, hD⟩⟩, hS.F ht⟩) hS.2.2 dX3_takes_55
  · refine zz_top (y := 2) (congrArg nI h9) ?_
    refine lv_tableIn (tgt := 56) (off := 52) hx hb dX3_takes_4 (by decide) (by decide) rfl (by decide) ?_
    refine lv_aload_n hx hb dX3_takes_56 rfl (lv_at hl 0 rfl) ?_
    refine lv_iload_n hx hb dX3_takes_57 rfl (lv_at hl 1 rfl) ?_
    refine zw_calli (wr := []) (w1 := (fun u : (Nat → Nat) => [((h 0), .inr (3, [.int (nI (u 0)), .int (nI (u 1)), .int (nI (u 2)), .int (nI (u 3)), .int (nI (u 4)), .int (nI (u 5))]))])) hP hD hS hA [0] [] rfl rfl (by decide +kernel) (by decide +kernel) (va_runV (As := [.int (nI ch)]) (rest := []) ⟨hx, hb, hml, hown, hts⟩ (mX3_takesFace l D y _ h q ch (by first | assumption | rfl | omega | decide) (by first | assumption | rfl | omega | decide) (h9)) (cwV 1 hts (zgV tw_104 tw_105 tw_106 tw_95 tw_107) rfl rfl rfl (by decide +kernel) ⟨Nat.le_of_ble_eq_true rfl, Nat.le_of_ble_eq_true rfl⟩) (zRW_preV hKN hP hD (ci := 3) (q0 := 0) rfl rfl [0] rfl (by decide)) rfl rfl hl.1 rfl (lv_room (Nat.le_of_ble_eq_true rfl)) dX3_takes_58 ⟨Nat.zero_le _, Nat.zero_le _⟩) (fun r_5 u_6 H locs hw_58 hP hD hS => ?_)
    have hP : va_P D vwCl [((h 0), .inr (3, [.int (nI (u_6 0)), .int (nI (u_6 1)), .int (nI (u_6 2)), .int (nI (u_6 3)), .int (nI (u_6 4)), .int (nI (u_6 5))]))] H := hP
    have hD : va_D A [((h 0), .inr (3, [.int (nI (u_6 0)), .int (nI (u_6 1)), .int (nI (u_6 2)), .int (nI (u_6 3)), .int (nI (u_6 4)), .int (nI (u_6 5))]))] := hD
    try dsimp only at hw_58
    refine W.widen (k := 0) (n := 0) (by first | exact Nat.le_of_ble_eq_true rfl | omega) (by first | exact Nat.le_of_ble_eq_true rfl | omega) ?_
    exact W.zret (v := r_5) hx hb hr (rTk_bit hw_58) (fun t ht hW => ⟨⟨r_5, u_6, rfl, hw_58, ⟨by rw [ht]; exact hP, hD⟩⟩, hS.F ht⟩) hS.2.2 dX3_takes_61
  · refine zz_top (y := 3) (congrArg nI h9) ?_
    refine lv_tableIn (tgt := 62) (off := 58) hx hb dX3_takes_4 (by decide) (by decide) rfl (by decide) ?_
    refine lv_aload_n hx hb dX3_takes_62 rfl (lv_at hl 0 rfl) ?_
    refine lv_iload_n hx hb dX3_takes_63 rfl (lv_at hl 1 rfl) ?_
    refine zw_calli (wr := []) (w1 := (fun u : (Nat → Nat) => [((h 0), .inr (3, [.int (nI (u 0)), .int (nI (u 1)), .int (nI (u 2)), .int (nI (u 3)), .int (nI (u 4)), .int (nI (u 5))]))])) hP hD hS hA [0] [] rfl rfl (by decide +kernel) (by decide +kernel) (va_runV (As := [.int (nI ch)]) (rest := []) ⟨hx, hb, hml, hown, hts⟩ (mX3_takesEquals l D y _ h q ch (by first | assumption | rfl | omega | decide) (by first | assumption | rfl | omega | decide) (h9)) (cwV 1 hts (zgV tw_108 tw_109 tw_110 tw_95 tw_111) rfl rfl rfl (by decide +kernel) ⟨Nat.le_of_ble_eq_true rfl, Nat.le_of_ble_eq_true rfl⟩) (zRW_preV hKN hP hD (ci := 3) (q0 := 0) rfl rfl [0] rfl (by decide)) rfl rfl hl.1 rfl (lv_room (Nat.le_of_ble_eq_true rfl)) dX3_takes_64 ⟨Nat.zero_le _, Nat.zero_le _⟩) (fun r_7 u_8 H locs hw_64 hP hD hS => ?_)
    have hP : va_P D vwCl [((h 0), .inr (3, [.int (nI (u_8 0)), .int (nI (u_8 1)), .int (nI (u_8 2)), .int (nI (u_8 3)), .int (nI (u_8 4)), .int (nI (u_8 5))]))] H := hP
    have hD : va_D A [((h 0), .inr (3, [.int (nI (u_8 0)), .int (nI (u_8 1)), .int (nI (u_8 2)), .int (nI (u_8 3)), .int (nI (u_8 4)), .int (nI (u_8 5))]))] := hD
    try dsimp only at hw_64
    refine W.widen (k := 0) (n := 0) (by first | exact Nat.le_of_ble_eq_true rfl | omega) (by first | exact Nat.le_of_ble_eq_true rfl | omega) ?_
    exact W.zret (v := r_7) hx hb hr (rTk_bit hw_64) (fun t ht hW => ⟨⟨r_7, u_8, rfl, hw_64, ⟨by rw [ht]; exact hP, hD⟩⟩, hS.F ht⟩) hS.2.2 dX3_takes_67
  · refine zz_top (y := 4) (congrArg nI h9) ?_
    refine lv_tableIn (tgt := 68) (off := 64) hx hb dX3_takes_4 (by decide) (by decide) rfl (by decide) ?_
    refine lv_aload_n hx hb dX3_takes_68 rfl (lv_at hl 0 rfl) ?_
    refine lv_iload_n hx hb dX3_takes_69 rfl (lv_at hl 1 rfl) ?_
    refine zw_calli (wr := []) (w1 := (fun u : (Nat → Nat) => [((h 0), .inr (3, [.int (nI (u 0)), .int (nI (u 1)), .int (nI (u 2)), .int (nI (u 3)), .int (nI (u 4)), .int (nI (u 5))]))])) hP hD hS hA [0] [] rfl rfl (by decide +kernel) (by decide +kernel) (va_runV (As := [.int (nI ch)]) (rest := []) ⟨hx, hb, hml, hown, hts⟩ (mX3_takesFirstOfReading l D y _ h q ch (by first | assumption | rfl | omega | decide) (by first | assumption | rfl | omega | decide) (h9)) (cwV 1 hts (zgV tw_112 tw_113 tw_114 tw_95 tw_115) rfl rfl rfl (by decide +kernel) ⟨Nat.le_of_ble_eq_true rfl, Nat.le_of_ble_eq_true rfl⟩) (zRW_preV hKN hP hD (ci := 3) (q0 := 0) rfl rfl [0] rfl (by decide)) rfl rfl hl.1 rfl (lv_room (Nat.le_of_ble_eq_true rfl)) dX3_takes_70 ⟨Nat.zero_le _, Nat.zero_le _⟩) (fun r_9 u_10 H locs hw_70 hP hD hS => ?_)
    have hP : va_P D vwCl [((h 0), .inr (3, [.int (nI (u_10 0)), .int (nI (u_10 1)), .int (nI (u_10 2)), .int (nI (u_10 3)), .int (nI (u_10 4)), .int (nI (u_10 5))]))] H := hP
    have hD : va_D A [((h 0), .inr (3, [.int (nI (u_10 0)), .int (nI (u_10 1)), .int (nI (u_10 2)), .int (nI (u_10 3)), .int (nI (u_10 4)), .int (nI (u_10 5))]))] := hD
    try dsimp only at hw_70
    refine W.widen (k := 0) (n := 0) (by first | exact Nat.le_of_ble_eq_true rfl | omega) (by first | exact Nat.le_of_ble_eq_true rfl | omega) ?_
    exact W.zret (v := r_9) hx hb hr (rTk_bit hw_70) (fun t ht hW => ⟨⟨r_9, u_10, rfl, hw_70, ⟨by rw [ht]; exact hP, hD⟩⟩, hS.F ht⟩) hS.2.2 dX3_takes_73
  · refine zz_top (y := 5) (congrArg nI h9) ?_
    refine lv_tableIn (tgt := 74) (off := 70) hx hb dX3_takes_4 (by decide) (by decide) rfl (by decide) ?_
    refine lv_iload_n hx hb dX3_takes_74 rfl (lv_at hl 1 rfl) ?_
    refine lv_bipush (v := 48) hx hb dX3_takes_75 (by decide) ?_
    refine lv_icmp_eq (tgt := 92) hx hb dX3_takes_77 (by decide) (fun c_77 => ?_) (fun c_77 => ?_)
    · replace c_77 : ch = 48 := (nI_eq (a := ch) (b := 48) (by omega) (by omega)).mp c_77
      refine lv_iconst (v := 0) hx hb dX3_takes_92 (by decide) ?_
      refine W.widen (k := 0) (n := 0) (by first | exact Nat.le_of_ble_eq_true rfl | omega) (by first | exact Nat.le_of_ble_eq_true rfl | omega) ?_
      exact W.zret (v := 0) hx hb hr (rfl) (fun t ht hW => ⟨⟨0, q, rfl, rTk_n hg (fun h => ((rOk_5 h9).mp h).1 c_77), ⟨by rw [ht]; exact hP, hD⟩⟩, hS.F ht⟩) hS.2.2 dX3_takes_93
    · replace c_77 : ¬ ch = 48 := fun h => c_77 ((nI_eq (a := ch) (b := 48) (by omega) (by omega)).mpr h)
      refine lv_aload_n hx hb dX3_takes_80 rfl (lv_at hl 0 rfl) ?_
      refine lv_iload_n hx hb dX3_takes_81 rfl (lv_at hl 1 rfl) ?_
      refine zw_calli (wr := []) (w1 := (fun u : (Nat → Nat) => [((h 0), .inr (3, [.int (nI (u 0)), .int (nI (u 1)), .int (nI (u 2)), .int (nI (u 3)), .int (nI (u 4)), .int (nI (u 5))]))])) hP hD hS hA [0] [] rfl rfl (by decide +kernel) (by decide +kernel) (va_runV (As := [.int (nI ch)]) (rest := []) ⟨hx, hb, hml, hown, hts⟩ (mX3_takesFirstOfNumber l D y _ h q ch (by first | assumption | rfl | omega | decide) (by first | assumption | rfl | omega | decide)) (cwV 1 hts (zgV tw_116 tw_117 tw_118 tw_95 tw_119) rfl rfl rfl (by decide +kernel) ⟨Nat.le_of_ble_eq_true rfl, Nat.le_of_ble_eq_true rfl⟩) (zRW_preV hKN hP hD (ci := 3) (q0 := 0) rfl rfl [0] rfl (by decide)) rfl rfl hl.1 rfl (lv_room (Nat.le_of_ble_eq_true rfl)) dX3_takes_82 ⟨Nat.zero_le _, Nat.zero_le _⟩) (fun r_11 u_12 H locs hw_82 hP hD hS => ?_)
      have hP : va_P D vwCl [((h 0), .inr (3, [.int (nI (u_12 0)), .int (nI (u_12 1)), .int (nI (u_12 2)), .int (nI (u_12 3)), .int (nI (u_12 4)), .int (nI (u_12 5))]))] H := hP
      have hD : va_D A [((h 0), .inr (3, [.int (nI (u_12 0)), .int (nI (u_12 1)), .int (nI (u_12 2)), .int (nI (u_12 3)), .int (nI (u_12 4)), .int (nI (u_12 5))]))] := hD
      try dsimp only at hw_82
      refine lv_if_eq (tgt := 92) hx hb dX3_takes_85 (by decide) (fun c_85 => ?_) (fun c_85 => ?_)
      · refine lv_iconst (v := 0) hx hb dX3_takes_92 (by decide) ?_
        refine W.widen (k := 0) (n := 0) (by first | exact Nat.le_of_ble_eq_true rfl | omega) (by first | exact Nat.le_of_ble_eq_true rfl | omega) ?_
        exact W.zret (v := 0) hx hb hr (rfl) (fun t ht hW => ⟨⟨0, u_12, rfl, zfr5n hg h9 c_77 c_85 hw_82, ⟨by rw [ht]; exact hP, hD⟩⟩, hS.F ht⟩) hS.2.2 dX3_takes_93
      · refine lv_iconst (v := 1) hx hb dX3_takes_88 (by decide) ?_
        refine lv_goto (tgt := 93) hx hb dX3_takes_89 (by decide) ?_
        refine W.widen (k := 0) (n := 0) (by first | exact Nat.le_of_ble_eq_true rfl | omega) (by first | exact Nat.le_of_ble_eq_true rfl | omega) ?_
        exact W.zret (v := 1) hx hb hr (rfl) (fun t ht hW => ⟨⟨1, u_12, rfl, zfr5y hg h9 c_77 c_85 hw_82, ⟨by rw [ht]; exact hP, hD⟩⟩, hS.F ht⟩) hS.2.2 dX3_takes_93
  · refine zz_top (y := 6) (congrArg nI h9) ?_
    refine lv_tableOut (tgt := 94) hx hb dX3_takes_4 (by decide) (by decide) ?_
    refine lv_aload_n hx hb dX3_takes_94 rfl (lv_at hl 0 rfl) ?_
    refine lv_iload_n hx hb dX3_takes_95 rfl (lv_at hl 1 rfl) ?_
    refine zw_calli (wr := []) (w1 := (fun u : (Nat → Nat) => [((h 0), .inr (3, [.int (nI (u 0)), .int (nI (u 1)), .int (nI (u 2)), .int (nI (u 3)), .int (nI (u 4)), .int (nI (u 5))]))])) hP hD hS hA [0] [] rfl rfl (by decide +kernel) (by decide +kernel) (va_runV (As := [.int (nI ch)]) (rest := []) ⟨hx, hb, hml, hown, hts⟩ (mX3_takesInNumber l D y _ h q ch (by first | assumption | rfl | omega | decide) (by first | assumption | rfl | omega | decide) (h9)) (cwV 1 hts (zgV tw_120 tw_121 tw_122 tw_95 tw_123) rfl rfl rfl (by decide +kernel) ⟨Nat.le_of_ble_eq_true rfl, Nat.le_of_ble_eq_true rfl⟩) (zRW_preV hKN hP hD (ci := 3) (q0 := 0) rfl rfl [0] rfl (by decide)) rfl rfl hl.1 rfl (lv_room (Nat.le_of_ble_eq_true rfl)) dX3_takes_96 ⟨Nat.zero_le _, Nat.zero_le _⟩) (fun r_13 u_14 H locs hw_96 hP hD hS => ?_)
    have hP : va_P D vwCl [((h 0), .inr (3, [.int (nI (u_14 0)), .int (nI (u_14 1)), .int (nI (u_14 2)), .int (nI (u_14 3)), .int (nI (u_14 4)), .int (nI (u_14 5))]))] H := hP
    have hD : va_D A [((h 0), .inr (3, [.int (nI (u_14 0)), .int (nI (u_14 1)), .int (nI (u_14 2)), .int (nI (u_14 3)), .int (nI (u_14 4)), .int (nI (u_14 5))]))] := hD
    try dsimp only at hw_96
    refine W.widen (k := 0) (n := 0) (by first | exact Nat.le_of_ble_eq_true rfl | omega) (by first | exact Nat.le_of_ble_eq_true rfl | omega) ?_
    exact W.zret (v := r_13) hx hb hr (rTk_bit hw_96) (fun t ht hW => ⟨⟨r_13, u_14, rfl, hw_96, ⟨by rw [ht]; exact hP, hD⟩⟩, hS.F ht⟩) hS.2.2 dX3_takes_99
