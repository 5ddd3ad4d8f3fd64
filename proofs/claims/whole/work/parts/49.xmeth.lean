/-! the class's public methods where they throw -/
theorem zix_i {v n m : Int32} (h : ¬ n < v) (hm : n + 1 = m := by decide) (hn : n < m := by decide) : v < m := by
  rw [Int32.lt_iff_toInt_lt] at h hn ⊢
  rw [← hm] at hn ⊢
  have h1 := n.toInt_lt; have h2 := n.le_toInt
  rw [Int32.toInt_add] at hn ⊢
  rw [show (1 : Int32).toInt = 1 by decide] at hn ⊢
  have h3 : (n.toInt + 1).bmod (2 ^ 32) = n.toInt + 1 := by
    by_cases e : n.toInt + 1 < 2147483648
    · exact Int.bmod_eq_of_le (by omega) (by omega)
    · exfalso
      have e2 : n.toInt = 2147483647 := by omega
      rw [e2] at hn
      revert hn; decide
  omega
theorem zix_x {v n m : Int32} (h : ¬ (¬ v < 0 ∧ ¬ n < v)) (hm : n + 1 = m := by decide) (hn : n < m := by decide) : v < 0 ∨ ¬ v < m := by
  by_cases h0 : v < 0
  · exact Or.inl h0
  · refine Or.inr (fun h1 => h ⟨h0, fun h2 => ?_⟩)
    have h3 : ¬ m ≤ v := Int32.not_le.mpr h1
    refine h3 ?_
    rw [Int32.le_iff_toInt_le]
    rw [Int32.lt_iff_toInt_lt] at h2 hn
    have h4 : m.toInt = n.toInt + 1 := by
      rw [← hm] at hn ⊢
      have h1 := n.toInt_lt; have h2 := n.le_toInt
      rw [Int32.toInt_add] at hn ⊢
      rw [show (1 : Int32).toInt = 1 by decide] at hn ⊢
      by_cases e : n.toInt + 1 < 2147483648
      · exact Int.bmod_eq_of_le (by omega) (by omega)
      · exfalso
        have e2 : n.toInt = 2147483647 := by omega
        rw [e2] at hn
        revert hn; decide
    omega
theorem zsu_l {S : Nat → Int32} {n : Nat} (h : S 1 = nI n) (h6 : n ≤ 6) : (S 1 - 1).toInt = (n : Int) - 1 ∧ (S 1).toInt = (n : Int) := by
  rw [h]
  rcases (show n = 0 ∨ n = 1 ∨ n = 2 ∨ n = 3 ∨ n = 4 ∨ n = 5 ∨ n = 6 by omega) with rfl | rfl | rfl | rfl | rfl | rfl | rfl <;> decide
theorem zsu_i {S : Nat → Int32} {n : Nat} {v : Int32} (h : S 1 = nI n) (h6 : n ≤ 6) (k : ¬ v < 0 ∧ ¬ (S 1 - 1) < v) : v < S 1 := by
  obtain ⟨a, b⟩ := zsu_l h h6
  have k2 := k.2
  rw [Int32.lt_iff_toInt_lt] at k2 ⊢
  omega
theorem zsu_x {S : Nat → Int32} {n : Nat} {v : Int32} (h : S 1 = nI n) (h6 : n ≤ 6) (k : ¬ (¬ v < 0 ∧ ¬ (S 1 - 1) < v)) : v < 0 ∨ ¬ v < S 1 := by
  obtain ⟨a, b⟩ := zsu_l h h6
  by_cases h0 : v < 0
  · exact Or.inl h0
  · refine Or.inr (fun h1 => k ⟨h0, ?_⟩)
    rw [Int32.lt_iff_toInt_lt] at h1 ⊢
    omega

set_option maxHeartbeats 4000000 in
set_option maxRecDepth 100000 in
theorem mX4_needIndex_i (l : Launch) (i : Int32) (n : Int32) (hi0 : ¬ i < 0) (hi1 : i < n) : Met l yX4_needIndex (ws_ yX4_needIndex cX4_needIndex 2 none) ({ frames := 0, cells := 0, slots := 0, locals := 0 }) (va_Pc [.int i, .int n] (fun _ => True)) (va_Qv (fun (_ : Unit) => True) (fun _ _ => True) (fun _ => False)) 0 0 (fun _ => False) := by
  refine Met.ofW (cc := cX4_needIndex) (maxL := 2) (ret := none) (by decide) rfl ?_
  intro p e s m args below meth c s₁ B hml hpre9
  obtain ⟨rfl, -⟩ := hpre9
  have hx := B.exec
  have hb := B.bytes
  have hr := B.returns
  have hts := atoms_spec (ws := (ws_ yX4_needIndex cX4_needIndex 2 none)) B.pre
  have htg : ∀ w ∈ gT, w.before _ s = true := fun w h => hts w (List.mem_cons_of_mem _ h)
  have hown : s.vm.findClass RX4 = some m.cls := findClass_of_methodNamed B.named
  have hlocks := B.notSynchronized
  have hS : va_S (fun _ => False) s.heap s.heap [] := va_S.rf
  have hl := lv_entry ([.int i, .int n]) (n := 2) (Nat.le_of_ble_eq_true rfl)
  rw [lg_entry_eq]
  generalize (lg_sl ([.int i, .int n]) ++ List.replicate (2 - (lg_sl ([.int i, .int n])).length) Slot.unset).toArray = ls at hl ⊢
  have hl : lv_has ls 2 [(0, .int i), (1, .int n)] := hl
  refine lv_iload_n hx hb dX4_needIndex_0 rfl (lv_at hl 0 rfl) ?_
  refine lv_if_lt (tgt := 9) hx hb dX4_needIndex_1 (by decide) (fun c_1 => absurd c_1 (hi0)) (fun _ => ?_)
  refine lv_iload_n hx hb dX4_needIndex_4 rfl (lv_at hl 0 rfl) ?_
  refine lv_iload_n hx hb dX4_needIndex_5 rfl (lv_at hl 1 rfl) ?_
  refine lv_icmp_lt (tgt := 19) hx hb dX4_needIndex_6 (by decide) (fun _ => ?_) (fun c_6 => absurd (hi1) c_6)
  exact W.vret hx hb hr (fun t ht hW => ⟨⟨(), rfl, by first | rfl | trivial | simp_all, trivial⟩, hS.F ht⟩) hS.2.2 dX4_needIndex_19

set_option maxHeartbeats 4000000 in
set_option maxRecDepth 100000 in
theorem mX4_bend_x1 (l : Launch) (hl9 : l.stackTraces = false) (D : va_G) (y : Nat → ClassId) (ad : Nat → Nat) (bn : Int32) (v : Int32) (q : Int32) (x : Int32) (hb1 : ¬ ((¬ v < 0 ∧ ¬ 15 < v) ∧ (¬ q < 0 ∧ ¬ 1 < q))) : vx_Met l yX4_bend (ws_ yX4_bend cX4_bend 5 (some .int)) ({ frames := 7, cells := 1, slots := 6, locals := 103 }) (va_Pc [.ref (ad 0), .int v, .int q, .int x] (zXP D y [((ad 0), .inr (4, [.ref (ad 1), .ref (ad 8), .ref (ad 9), .ref (ad 10), .ref (ad 54), .ref (ad 59), .ref (ad 60), .int bn]))])) (fun _ _ _ _ => False) (zXC zIO) 1 6 (fun _ => False) := by
  refine vx_ofW (cc := cX4_bend) (maxL := 5) (ret := (some .int)) (by decide) rfl ?_
  intro p e s m args below meth c s₁ B hml hnt hpre9
  obtain ⟨rfl, hZ, hP, hKN⟩ := hpre9
  have hK := hKN.1
  have hx := B.exec
  have hb := B.bytes
  have hr := B.returns
  have hts := atoms_spec (ws := (ws_ yX4_bend cX4_bend 5 (some .int))) B.pre
  have htg : ∀ w ∈ gT, w.before _ s = true := fun w h => hts w (List.mem_cons_of_mem _ h)
  have hown : s.vm.findClass RX4 = some m.cls := findClass_of_methodNamed B.named
  have hlocks := B.notSynchronized
  have hS : va_S (fun _ => False) s.heap s.heap [] := va_S.rf
  have hP : va_P D vwCl [((ad 0), .inr (4, [.ref (ad 1), .ref (ad 8), .ref (ad 9), .ref (ad 10), .ref (ad 54), .ref (ad 59), .ref (ad 60), .int bn]))] s.heap := hP
  have hl := lv_entry ([.ref (ad 0), .int v, .int q, .int x]) (n := 5) (Nat.le_of_ble_eq_true rfl)
  rw [lg_entry_eq]
  generalize (lg_sl ([.ref (ad 0), .int v, .int q, .int x]) ++ List.replicate (5 - (lg_sl ([.ref (ad 0), .int v, .int q, .int x])).length) Slot.unset).toArray = ls at hl ⊢
  have hl : lv_has ls 5 [(0, .ref (ad 0)), (1, .int v), (2, .int q), (3, .int x)] := hl
  refine lv_iload_n hx hb dX4_bend_0 rfl (lv_at hl 1 rfl) ?_
  refine lv_bipush (v := 16) hx hb dX4_bend_1 (by decide) ?_
  by_cases k_3 : ¬ v < 0 ∧ ¬ 15 < v
  · refine zr_callv (va_runS (As := [.int v, .int 16]) (rest := []) ⟨hx, hb, hml, hown, hts⟩ (mX4_needIndex_i l v 16 (k_3.1) (zix_i k_3.2)) (va_cwS 2 hts (zgS tw_153 tw_154 tw_23 tw_155) rfl rfl rfl (by decide +kernel) ⟨Nat.le_of_ble_eq_true rfl, Nat.le_of_ble_eq_true rfl⟩) zP_pre rfl rfl hl.1 rfl (lv_room (Nat.le_of_ble_eq_true rfl)) dX4_bend_3 ⟨Nat.zero_le _, Nat.zero_le _⟩) hS (fun H locs hw_3 hT hS => ?_)
    replace hP := hT _ _ hP
    refine lv_iload_n hx hb dX4_bend_6 rfl (lv_at hl 2 rfl) ?_
    refine lv_iconst (v := 2) hx hb dX4_bend_7 (by decide) ?_
    by_cases k_8 : ¬ q < 0 ∧ ¬ 1 < q
    · exact absurd ⟨k_3, k_8⟩ hb1
    · refine zx_call (vx_runS (As := [.int q, .int 2]) (rest := []) ⟨hx, hb, hml, hown, hts⟩ (mX4_needIndex_x l hl9 D y q 2 (zix_x k_8)) (va_cwS 2 hts (zgS tw_153 tw_154 tw_23 tw_155) rfl rfl rfl (by decide +kernel) ⟨Nat.le_of_ble_eq_true rfl, Nat.le_of_ble_eq_true rfl⟩) (zXP_pre hKN hP hZ hS [] rfl) rfl rfl hl.1 rfl (lv_room (Nat.le_of_ble_eq_true rfl)) dX4_bend_8 ⟨by first | exact Nat.le_of_ble_eq_true rfl | omega, by first | exact Nat.le_of_ble_eq_true rfl | omega⟩) hS (fun ce9 q9 H locs hT hS hce9 hcv9 hcl9 => ?_)
      exact vx_out (fun x hx => (hnt x hx).elim) hlocks hce9 hcv9 hcl9 (fun t h1 _ => ⟨rfl, hS.F h1⟩) hS.2.2 (Nat.le_of_ble_eq_true rfl) (Nat.le_of_ble_eq_true rfl)
  · refine zx_call (vx_runS (As := [.int v, .int 16]) (rest := []) ⟨hx, hb, hml, hown, hts⟩ (mX4_needIndex_x l hl9 D y v 16 (zix_x k_3)) (va_cwS 2 hts (zgS tw_153 tw_154 tw_23 tw_155) rfl rfl rfl (by decide +kernel) ⟨Nat.le_of_ble_eq_true rfl, Nat.le_of_ble_eq_true rfl⟩) (zXP_pre hKN hP hZ hS [] rfl) rfl rfl hl.1 rfl (lv_room (Nat.le_of_ble_eq_true rfl)) dX4_bend_3 ⟨by first | exact Nat.le_of_ble_eq_true rfl | omega, by first | exact Nat.le_of_ble_eq_true rfl | omega⟩) hS (fun ce9 q9 H locs hT hS hce9 hcv9 hcl9 => ?_)
    exact vx_out (fun x hx => (hnt x hx).elim) hlocks hce9 hcv9 hcl9 (fun t h1 _ => ⟨rfl, hS.F h1⟩) hS.2.2 (Nat.le_of_ble_eq_true rfl) (Nat.le_of_ble_eq_true rfl)

set_option maxHeartbeats 4000000 in
set_option maxRecDepth 100000 in
theorem mX4_bend_x2 (l : Launch) (hl9 : l.stackTraces = false) (D : va_G) (y : Nat → ClassId) (ad : Nat → Nat) (bn : Int32) (v : Int32) (q : Int32) (x : Int32) (h1 : (¬ v < 0 ∧ ¬ 15 < v) ∧ (¬ q < 0 ∧ ¬ 1 < q)) (hb1 : ¬ (¬ x < (-99) ∧ ¬ 99 < x)) : vx_Met l yX4_bend (ws_ yX4_bend cX4_bend 5 (some .int)) ({ frames := 7, cells := 1, slots := 6, locals := 104 }) (va_Pc [.ref (ad 0), .int v, .int q, .int x] (zXP D y [((ad 0), .inr (4, [.ref (ad 1), .ref (ad 8), .ref (ad 9), .ref (ad 10), .ref (ad 54), .ref (ad 59), .ref (ad 60), .int bn]))])) (fun _ _ _ _ => False) (zXC zIA) 1 6 (fun _ => False) := by
  refine vx_ofW (cc := cX4_bend) (maxL := 5) (ret := (some .int)) (by decide) rfl ?_
  intro p e s m args below meth c s₁ B hml hnt hpre9
  obtain ⟨rfl, hZ, hP, hKN⟩ := hpre9
  have hK := hKN.1
  have hx := B.exec
  have hb := B.bytes
  have hr := B.returns
  have hts := atoms_spec (ws := (ws_ yX4_bend cX4_bend 5 (some .int))) B.pre
  have htg : ∀ w ∈ gT, w.before _ s = true := fun w h => hts w (List.mem_cons_of_mem _ h)
  have hown : s.vm.findClass RX4 = some m.cls := findClass_of_methodNamed B.named
  have hlocks := B.notSynchronized
  have hS : va_S (fun _ => False) s.heap s.heap [] := va_S.rf
  have hP : va_P D vwCl [((ad 0), .inr (4, [.ref (ad 1), .ref (ad 8), .ref (ad 9), .ref (ad 10), .ref (ad 54), .ref (ad 59), .ref (ad 60), .int bn]))] s.heap := hP
  have hl := lv_entry ([.ref (ad 0), .int v, .int q, .int x]) (n := 5) (Nat.le_of_ble_eq_true rfl)
  rw [lg_entry_eq]
  generalize (lg_sl ([.ref (ad 0), .int v, .int q, .int x]) ++ List.replicate (5 - (lg_sl ([.ref (ad 0), .int v, .int q, .int x])).length) Slot.unset).toArray = ls at hl ⊢
  have hl : lv_has ls 5 [(0, .ref (ad 0)), (1, .int v), (2, .int q), (3, .int x)] := hl
  refine lv_iload_n hx hb dX4_bend_0 rfl (lv_at hl 1 rfl) ?_
  refine lv_bipush (v := 16) hx hb dX4_bend_1 (by decide) ?_
  refine zr_callv (va_runS (As := [.int v, .int 16]) (rest := []) ⟨hx, hb, hml, hown, hts⟩ (mX4_needIndex_i l v 16 ((h1.1).1) (zix_i (h1.1).2)) (va_cwS 2 hts (zgS tw_153 tw_154 tw_23 tw_155) rfl rfl rfl (by decide +kernel) ⟨Nat.le_of_ble_eq_true rfl, Nat.le_of_ble_eq_true rfl⟩) zP_pre rfl rfl hl.1 rfl (lv_room (Nat.le_of_ble_eq_true rfl)) dX4_bend_3 ⟨Nat.zero_le _, Nat.zero_le _⟩) hS (fun H locs hw_3 hT hS => ?_)
  replace hP := hT _ _ hP
  refine lv_iload_n hx hb dX4_bend_6 rfl (lv_at hl 2 rfl) ?_
  refine lv_iconst (v := 2) hx hb dX4_bend_7 (by decide) ?_
  refine zr_callv (va_runS (As := [.int q, .int 2]) (rest := []) ⟨hx, hb, hml, hown, hts⟩ (mX4_needIndex_i l q 2 ((h1.2).1) (zix_i (h1.2).2)) (va_cwS 2 hts (zgS tw_153 tw_154 tw_23 tw_155) rfl rfl rfl (by decide +kernel) ⟨Nat.le_of_ble_eq_true rfl, Nat.le_of_ble_eq_true rfl⟩) zP_pre rfl rfl hl.1 rfl (lv_room (Nat.le_of_ble_eq_true rfl)) dX4_bend_8 ⟨Nat.zero_le _, Nat.zero_le _⟩) hS (fun H locs hw_8 hT hS => ?_)
  replace hP := hT _ _ hP
  refine lv_iload_n hx hb dX4_bend_11 rfl (lv_at hl 3 rfl) ?_
  refine lv_bipush (v := (-99)) hx hb dX4_bend_12 (by decide) ?_
  refine lv_bipush (v := 99) hx hb dX4_bend_14 (by decide) ?_
  refine zx_call (vx_runS (As := [.int x, .int (-99), .int 99]) (rest := []) ⟨hx, hb, hml, hown, hts⟩ (mX4_needRange_x l hl9 D y x (-99) 99 (hb1)) (va_cwS 3 hts (zgS tw_158 tw_159 tw_23 tw_160) rfl rfl rfl (by decide +kernel) ⟨Nat.le_of_ble_eq_true rfl, Nat.le_of_ble_eq_true rfl⟩) (zXP_pre hKN hP hZ hS [] rfl) rfl rfl hl.1 rfl (lv_room (Nat.le_of_ble_eq_true rfl)) dX4_bend_16 ⟨by first | exact Nat.le_of_ble_eq_true rfl | omega, by first | exact Nat.le_of_ble_eq_true rfl | omega⟩) hS (fun ce9 q9 H locs hT hS hce9 hcv9 hcl9 => ?_)
  exact vx_out (fun x hx => (hnt x hx).elim) hlocks hce9 hcv9 hcl9 (fun t h1 _ => ⟨rfl, hS.F h1⟩) hS.2.2 (Nat.le_of_ble_eq_true rfl) (Nat.le_of_ble_eq_true rfl)

set_option maxHeartbeats 4000000 in
set_option maxRecDepth 100000 in
theorem mX4_slide_x1 (l : Launch) (hl9 : l.stackTraces = false) (D : va_G) (y : Nat → ClassId) (ad : Nat → Nat) (bn : Int32) (v : Int32) (q : Int32) (x : Int32) (hb1 : ¬ ((¬ v < 0 ∧ ¬ 15 < v) ∧ (¬ q < 0 ∧ ¬ 1 < q))) : vx_Met l yX4_slide (ws_ yX4_slide cX4_slide 6 (some .int)) ({ frames := 7, cells := 1, slots := 6, locals := 103 }) (va_Pc [.ref (ad 0), .int v, .int q, .int x] (zXP D y [((ad 0), .inr (4, [.ref (ad 1), .ref (ad 8), .ref (ad 9), .ref (ad 10), .ref (ad 54), .ref (ad 59), .ref (ad 60), .int bn]))])) (fun _ _ _ _ => False) (zXC zIO) 1 6 (fun _ => False) := by
  refine vx_ofW (cc := cX4_slide) (maxL := 6) (ret := (some .int)) (by decide) rfl ?_
  intro p e s m args below meth c s₁ B hml hnt hpre9
  obtain ⟨rfl, hZ, hP, hKN⟩ := hpre9
  have hK := hKN.1
  have hx := B.exec
  have hb := B.bytes
  have hr := B.returns
  have hts := atoms_spec (ws := (ws_ yX4_slide cX4_slide 6 (some .int))) B.pre
  have htg : ∀ w ∈ gT, w.before _ s = true := fun w h => hts w (List.mem_cons_of_mem _ h)
  have hown : s.vm.findClass RX4 = some m.cls := findClass_of_methodNamed B.named
  have hlocks := B.notSynchronized
  have hS : va_S (fun _ => False) s.heap s.heap [] := va_S.rf
  have hP : va_P D vwCl [((ad 0), .inr (4, [.ref (ad 1), .ref (ad 8), .ref (ad 9), .ref (ad 10), .ref (ad 54), .ref (ad 59), .ref (ad 60), .int bn]))] s.heap := hP
  have hl := lv_entry ([.ref (ad 0), .int v, .int q, .int x]) (n := 6) (Nat.le_of_ble_eq_true rfl)
  rw [lg_entry_eq]
  generalize (lg_sl ([.ref (ad 0), .int v, .int q, .int x]) ++ List.replicate (6 - (lg_sl ([.ref (ad 0), .int v, .int q, .int x])).length) Slot.unset).toArray = ls at hl ⊢
  have hl : lv_has ls 6 [(0, .ref (ad 0)), (1, .int v), (2, .int q), (3, .int x)] := hl
  refine lv_iload_n hx hb dX4_slide_0 rfl (lv_at hl 1 rfl) ?_
  refine lv_bipush (v := 16) hx hb dX4_slide_1 (by decide) ?_
  by_cases k_3 : ¬ v < 0 ∧ ¬ 15 < v
  · refine zr_callv (va_runS (As := [.int v, .int 16]) (rest := []) ⟨hx, hb, hml, hown, hts⟩ (mX4_needIndex_i l v 16 (k_3.1) (zix_i k_3.2)) (va_cwS 2 hts (zgS tw_153 tw_154 tw_23 tw_155) rfl rfl rfl (by decide +kernel) ⟨Nat.le_of_ble_eq_true rfl, Nat.le_of_ble_eq_true rfl⟩) zP_pre rfl rfl hl.1 rfl (lv_room (Nat.le_of_ble_eq_true rfl)) dX4_slide_3 ⟨Nat.zero_le _, Nat.zero_le _⟩) hS (fun H locs hw_3 hT hS => ?_)
    replace hP := hT _ _ hP
    refine lv_iload_n hx hb dX4_slide_6 rfl (lv_at hl 2 rfl) ?_
    refine lv_iconst (v := 2) hx hb dX4_slide_7 (by decide) ?_
    by_cases k_8 : ¬ q < 0 ∧ ¬ 1 < q
    · exact absurd ⟨k_3, k_8⟩ hb1
    · refine zx_call (vx_runS (As := [.int q, .int 2]) (rest := []) ⟨hx, hb, hml, hown, hts⟩ (mX4_needIndex_x l hl9 D y q 2 (zix_x k_8)) (va_cwS 2 hts (zgS tw_153 tw_154 tw_23 tw_155) rfl rfl rfl (by decide +kernel) ⟨Nat.le_of_ble_eq_true rfl, Nat.le_of_ble_eq_true rfl⟩) (zXP_pre hKN hP hZ hS [] rfl) rfl rfl hl.1 rfl (lv_room (Nat.le_of_ble_eq_true rfl)) dX4_slide_8 ⟨by first | exact Nat.le_of_ble_eq_true rfl | omega, by first | exact Nat.le_of_ble_eq_true rfl | omega⟩) hS (fun ce9 q9 H locs hT hS hce9 hcv9 hcl9 => ?_)
      exact vx_out (fun x hx => (hnt x hx).elim) hlocks hce9 hcv9 hcl9 (fun t h1 _ => ⟨rfl, hS.F h1⟩) hS.2.2 (Nat.le_of_ble_eq_true rfl) (Nat.le_of_ble_eq_true rfl)
  · refine zx_call (vx_runS (As := [.int v, .int 16]) (rest := []) ⟨hx, hb, hml, hown, hts⟩ (mX4_needIndex_x l hl9 D y v 16 (zix_x k_3)) (va_cwS 2 hts (zgS tw_153 tw_154 tw_23 tw_155) rfl rfl rfl (by decide +kernel) ⟨Nat.le_of_ble_eq_true rfl, Nat.le_of_ble_eq_true rfl⟩) (zXP_pre hKN hP hZ hS [] rfl) rfl rfl hl.1 rfl (lv_room (Nat.le_of_ble_eq_true rfl)) dX4_slide_3 ⟨by first | exact Nat.le_of_ble_eq_true rfl | omega, by first | exact Nat.le_of_ble_eq_true rfl | omega⟩) hS (fun ce9 q9 H locs hT hS hce9 hcv9 hcl9 => ?_)
    exact vx_out (fun x hx => (hnt x hx).elim) hlocks hce9 hcv9 hcl9 (fun t h1 _ => ⟨rfl, hS.F h1⟩) hS.2.2 (Nat.le_of_ble_eq_true rfl) (Nat.le_of_ble_eq_true rfl)

set_option maxHeartbeats 4000000 in
set_option maxRecDepth 100000 in
theorem mX4_slide_x2 (l : Launch) (hl9 : l.stackTraces = false) (D : va_G) (y : Nat → ClassId) (ad : Nat → Nat) (bn : Int32) (v : Int32) (q : Int32) (x : Int32) (h1 : (¬ v < 0 ∧ ¬ 15 < v) ∧ (¬ q < 0 ∧ ¬ 1 < q)) (hb1 : ¬ (¬ x < (-99) ∧ ¬ 99 < x)) : vx_Met l yX4_slide (ws_ yX4_slide cX4_slide 6 (some .int)) ({ frames := 7, cells := 1, slots := 6, locals := 104 }) (va_Pc [.ref (ad 0), .int v, .int q, .int x] (zXP D y [((ad 0), .inr (4, [.ref (ad 1), .ref (ad 8), .ref (ad 9), .ref (ad 10), .ref (ad 54), .ref (ad 59), .ref (ad 60), .int bn]))])) (fun _ _ _ _ => False) (zXC zIA) 1 6 (fun _ => False) := by
  refine vx_ofW (cc := cX4_slide) (maxL := 6) (ret := (some .int)) (by decide) rfl ?_
  intro p e s m args below meth c s₁ B hml hnt hpre9
  obtain ⟨rfl, hZ, hP, hKN⟩ := hpre9
  have hK := hKN.1
  have hx := B.exec
  have hb := B.bytes
  have hr := B.returns
  have hts := atoms_spec (ws := (ws_ yX4_slide cX4_slide 6 (some .int))) B.pre
  have htg : ∀ w ∈ gT, w.before _ s = true := fun w h => hts w (List.mem_cons_of_mem _ h)
  have hown : s.vm.findClass RX4 = some m.cls := findClass_of_methodNamed B.named
  have hlocks := B.notSynchronized
  have hS : va_S (fun _ => False) s.heap s.heap [] := va_S.rf
  have hP : va_P D vwCl [((ad 0), .inr (4, [.ref (ad 1), .ref (ad 8), .ref (ad 9), .ref (ad 10), .ref (ad 54), .ref (ad 59), .ref (ad 60), .int bn]))] s.heap := hP
  have hl := lv_entry ([.ref (ad 0), .int v, .int q, .int x]) (n := 6) (Nat.le_of_ble_eq_true rfl)
  rw [lg_entry_eq]
  generalize (lg_sl ([.ref (ad 0), .int v, .int q, .int x]) ++ List.replicate (6 - (lg_sl ([.ref (ad 0), .int v, .int q, .int x])).length) Slot.unset).toArray = ls at hl ⊢
  have hl : lv_has ls 6 [(0, .ref (ad 0)), (1, .int v), (2, .int q), (3, .int x)] := hl
  refine lv_iload_n hx hb dX4_slide_0 rfl (lv_at hl 1 rfl) ?_
  refine lv_bipush (v := 16) hx hb dX4_slide_1 (by decide) ?_
  refine zr_callv (va_runS (As := [.int v, .int 16]) (rest := []) ⟨hx, hb, hml, hown, hts⟩ (mX4_needIndex_i l v 16 ((h1.1).1) (zix_i (h1.1).2)) (va_cwS 2 hts (zgS tw_153 tw_154 tw_23 tw_155) rfl rfl rfl (by decide +kernel) ⟨Nat.le_of_ble_eq_true rfl, Nat.le_of_ble_eq_true rfl⟩) zP_pre rfl rfl hl.1 rfl (lv_room (Nat.le_of_ble_eq_true rfl)) dX4_slide_3 ⟨Nat.zero_le _, Nat.zero_le _⟩) hS (fun H locs hw_3 hT hS => ?_)
  replace hP := hT _ _ hP
  refine lv_iload_n hx hb dX4_slide_6 rfl (lv_at hl 2 rfl) ?_
  refine lv_iconst (v := 2) hx hb dX4_slide_7 (by decide) ?_
  refine zr_callv (va_runS (As := [.int q, .int 2]) (rest := []) ⟨hx, hb, hml, hown, hts⟩ (mX4_needIndex_i l q 2 ((h1.2).1) (zix_i (h1.2).2)) (va_cwS 2 hts (zgS tw_153 tw_154 tw_23 tw_155) rfl rfl rfl (by decide +kernel) ⟨Nat.le_of_ble_eq_true rfl, Nat.le_of_ble_eq_true rfl⟩) zP_pre rfl rfl hl.1 rfl (lv_room (Nat.le_of_ble_eq_true rfl)) dX4_slide_8 ⟨Nat.zero_le _, Nat.zero_le _⟩) hS (fun H locs hw_8 hT hS => ?_)
  replace hP := hT _ _ hP
  refine lv_iload_n hx hb dX4_slide_11 rfl (lv_at hl 3 rfl) ?_
  refine lv_bipush (v := (-99)) hx hb dX4_slide_12 (by decide) ?_
  refine lv_bipush (v := 99) hx hb dX4_slide_14 (by decide) ?_
  refine zx_call (vx_runS (As := [.int x, .int (-99), .int 99]) (rest := []) ⟨hx, hb, hml, hown, hts⟩ (mX4_needRange_x l hl9 D y x (-99) 99 (hb1)) (va_cwS 3 hts (zgS tw_158 tw_159 tw_23 tw_160) rfl rfl rfl (by decide +kernel) ⟨Nat.le_of_ble_eq_true rfl, Nat.le_of_ble_eq_true rfl⟩) (zXP_pre hKN hP hZ hS [] rfl) rfl rfl hl.1 rfl (lv_room (Nat.le_of_ble_eq_true rfl)) dX4_slide_16 ⟨by first | exact Nat.le_of_ble_eq_true rfl | omega, by first | exact Nat.le_of_ble_eq_true rfl | omega⟩) hS (fun ce9 q9 H locs hT hS hce9 hcv9 hcl9 => ?_)
  exact vx_out (fun x hx => (hnt x hx).elim) hlocks hce9 hcv9 hcl9 (fun t h1 _ => ⟨rfl, hS.F h1⟩) hS.2.2 (Nat.le_of_ble_eq_true rfl) (Nat.le_of_ble_eq_true rfl)

set_option maxHeartbeats 4000000 in
set_option maxRecDepth 100000 in
theorem mX4_turn_x1 (l : Launch) (hl9 : l.stackTraces = false) (D : va_G) (y : Nat → ClassId) (ad : Nat → Nat) (bn : Int32) (v : Int32) (x : Int32) (hb1 : ¬ (¬ v < 0 ∧ ¬ 15 < v)) : vx_Met l yX4_turn (ws_ yX4_turn cX4_turn 4 (some .int)) ({ frames := 7, cells := 1, slots := 6, locals := 103 }) (va_Pc [.ref (ad 0), .int v, .int x] (zXP D y [((ad 0), .inr (4, [.ref (ad 1), .ref (ad 8), .ref (ad 9), .ref (ad 10), .ref (ad 54), .ref (ad 59), .ref (ad 60), .int bn]))])) (fun _ _ _ _ => False) (zXC zIO) 1 6 (fun _ => False) := by
  refine vx_ofW (cc := cX4_turn) (maxL := 4) (ret := (some .int)) (by decide) rfl ?_
  intro p e s m args below meth c s₁ B hml hnt hpre9
  obtain ⟨rfl, hZ, hP, hKN⟩ := hpre9
  have hK := hKN.1
  have hx := B.exec
  have hb := B.bytes
  have hr := B.returns
  have hts := atoms_spec (ws := (ws_ yX4_turn cX4_turn 4 (some .int))) B.pre
  have htg : ∀ w ∈ gT, w.before _ s = true := fun w h => hts w (List.mem_cons_of_mem _ h)
  have hown : s.vm.findClass RX4 = some m.cls := findClass_of_methodNamed B.named
  have hlocks := B.notSynchronized
  have hS : va_S (fun _ => False) s.heap s.heap [] := va_S.rf
  have hP : va_P D vwCl [((ad 0), .inr (4, [.ref (ad 1), .ref (ad 8), .ref (ad 9), .ref (ad 10), .ref (ad 54), .ref (ad 59), .ref (ad 60), .int bn]))] s.heap := hP
  have hl := lv_entry ([.ref (ad 0), .int v, .int x]) (n := 4) (Nat.le_of_ble_eq_true rfl)
  rw [lg_entry_eq]
  generalize (lg_sl ([.ref (ad 0), .int v, .int x]) ++ List.replicate (4 - (lg_sl ([.ref (ad 0), .int v, .int x])).length) Slot.unset).toArray = ls at hl ⊢
  have hl : lv_has ls 4 [(0, .ref (ad 0)), (1, .int v), (2, .int x)] := hl
  refine lv_iload_n hx hb dX4_turn_0 rfl (lv_at hl 1 rfl) ?_
  refine lv_bipush (v := 16) hx hb dX4_turn_1 (by decide) ?_
  refine zx_call (vx_runS (As := [.int v, .int 16]) (rest := []) ⟨hx, hb, hml, hown, hts⟩ (mX4_needIndex_x l hl9 D y v 16 (zix_x (hb1))) (va_cwS 2 hts (zgS tw_153 tw_154 tw_23 tw_155) rfl rfl rfl (by decide +kernel) ⟨Nat.le_of_ble_eq_true rfl, Nat.le_of_ble_eq_true rfl⟩) (zXP_pre hKN hP hZ hS [] rfl) rfl rfl hl.1 rfl (lv_room (Nat.le_of_ble_eq_true rfl)) dX4_turn_3 ⟨by first | exact Nat.le_of_ble_eq_true rfl | omega, by first | exact Nat.le_of_ble_eq_true rfl | omega⟩) hS (fun ce9 q9 H locs hT hS hce9 hcv9 hcl9 => ?_)
  exact vx_out (fun x hx => (hnt x hx).elim) hlocks hce9 hcv9 hcl9 (fun t h1 _ => ⟨rfl, hS.F h1⟩) hS.2.2 (Nat.le_of_ble_eq_true rfl) (Nat.le_of_ble_eq_true rfl)

set_option maxHeartbeats 4000000 in
set_option maxRecDepth 100000 in
theorem mX4_turn_x2 (l : Launch) (hl9 : l.stackTraces = false) (D : va_G) (y : Nat → ClassId) (ad : Nat → Nat) (bn : Int32) (v : Int32) (x : Int32) (h1 : ¬ v < 0 ∧ ¬ 15 < v) (hb1 : ¬ (¬ x < 0 ∧ ¬ 3 < x)) : vx_Met l yX4_turn (ws_ yX4_turn cX4_turn 4 (some .int)) ({ frames := 7, cells := 1, slots := 6, locals := 104 }) (va_Pc [.ref (ad 0), .int v, .int x] (zXP D y [((ad 0), .inr (4, [.ref (ad 1), .ref (ad 8), .ref (ad 9), .ref (ad 10), .ref (ad 54), .ref (ad 59), .ref (ad 60), .int bn]))])) (fun _ _ _ _ => False) (zXC zIA) 1 6 (fun _ => False) := by
  refine vx_ofW (cc := cX4_turn) (maxL := 4) (ret := (some .int)) (by decide) rfl ?_
  intro p e s m args below meth c s₁ B hml hnt hpre9
  obtain ⟨rfl, hZ, hP, hKN⟩ := hpre9
  have hK := hKN.1
  have hx := B.exec
  have hb := B.bytes
  have hr := B.returns
  have hts := atoms_spec (ws := (ws_ yX4_turn cX4_turn 4 (some .int))) B.pre
  have htg : ∀ w ∈ gT, w.before _ s = true := fun w h => hts w (List.mem_cons_of_mem _ h)
  have hown : s.vm.findClass RX4 = some m.cls := findClass_of_methodNamed B.named
  have hlocks := B.notSynchronized
  have hS : va_S (fun _ => False) s.heap s.heap [] := va_S.rf
  have hP : va_P D vwCl [((ad 0), .inr (4, [.ref (ad 1), .ref (ad 8), .ref (ad 9), .ref (ad 10), .ref (ad 54), .ref (ad 59), .ref (ad 60), .int bn]))] s.heap := hP
  have hl := lv_entry ([.ref (ad 0), .int v, .int x]) (n := 4) (Nat.le_of_ble_eq_true rfl)
  rw [lg_entry_eq]
  generalize (lg_sl ([.ref (ad 0), .int v, .int x]) ++ List.replicate (4 - (lg_sl ([.ref (ad 0), .int v, .int x])).length) Slot.unset).toArray = ls at hl ⊢
  have hl : lv_has ls 4 [(0, .ref (ad 0)), (1, .int v), (2, .int x)] := hl
  refine lv_iload_n hx hb dX4_turn_0 rfl (lv_at hl 1 rfl) ?_
  refine lv_bipush (v := 16) hx hb dX4_turn_1 (by decide) ?_
  refine zr_callv (va_runS (As := [.int v, .int 16]) (rest := []) ⟨hx, hb, hml, hown, hts⟩ (mX4_needIndex_i l v 16 ((h1).1) (zix_i (h1).2)) (va_cwS 2 hts (zgS tw_153 tw_154 tw_23 tw_155) rfl rfl rfl (by decide +kernel) ⟨Nat.le_of_ble_eq_true rfl, Nat.le_of_ble_eq_true rfl⟩) zP_pre rfl rfl hl.1 rfl (lv_room (Nat.le_of_ble_eq_true rfl)) dX4_turn_3 ⟨Nat.zero_le _, Nat.zero_le _⟩) hS (fun H locs hw_3 hT hS => ?_)
  replace hP := hT _ _ hP
  refine lv_iload_n hx hb dX4_turn_6 rfl (lv_at hl 2 rfl) ?_
  refine lv_iconst (v := 0) hx hb dX4_turn_7 (by decide) ?_
  refine lv_iconst (v := 3) hx hb dX4_turn_8 (by decide) ?_
  refine zx_call (vx_runS (As := [.int x, .int 0, .int 3]) (rest := []) ⟨hx, hb, hml, hown, hts⟩ (mX4_needRange_x l hl9 D y x 0 3 (hb1)) (va_cwS 3 hts (zgS tw_158 tw_159 tw_23 tw_160) rfl rfl rfl (by decide +kernel) ⟨Nat.le_of_ble_eq_true rfl, Nat.le_of_ble_eq_true rfl⟩) (zXP_pre hKN hP hZ hS [] rfl) rfl rfl hl.1 rfl (lv_room (Nat.le_of_ble_eq_true rfl)) dX4_turn_9 ⟨by first | exact Nat.le_of_ble_eq_true rfl | omega, by first | exact Nat.le_of_ble_eq_true rfl | omega⟩) hS (fun ce9 q9 H locs hT hS hce9 hcv9 hcl9 => ?_)
  exact vx_out (fun x hx => (hnt x hx).elim) hlocks hce9 hcv9 hcl9 (fun t h1 _ => ⟨rfl, hS.F h1⟩) hS.2.2 (Nat.le_of_ble_eq_true rfl) (Nat.le_of_ble_eq_true rfl)

set_option maxHeartbeats 4000000 in
set_option maxRecDepth 100000 in
theorem mX4_bias_x1 (l : Launch) (hl9 : l.stackTraces = false) (D : va_G) (y : Nat → ClassId) (ad : Nat → Nat) (bn : Int32) (v : Int32) (x : Int32) (hb1 : ¬ (¬ v < 0 ∧ ¬ 1 < v)) : vx_Met l yX4_bias (ws_ yX4_bias cX4_bias 4 (some .int)) ({ frames := 7, cells := 1, slots := 6, locals := 103 }) (va_Pc [.ref (ad 0), .int v, .int x] (zXP D y [((ad 0), .inr (4, [.ref (ad 1), .ref (ad 8), .ref (ad 9), .ref (ad 10), .ref (ad 54), .ref (ad 59), .ref (ad 60), .int bn]))])) (fun _ _ _ _ => False) (zXC zIO) 1 6 (fun _ => False) := by
  refine vx_ofW (cc := cX4_bias) (maxL := 4) (ret := (some .int)) (by decide) rfl ?_
  intro p e s m args below meth c s₁ B hml hnt hpre9
  obtain ⟨rfl, hZ, hP, hKN⟩ := hpre9
  have hK := hKN.1
  have hx := B.exec
  have hb := B.bytes
  have hr := B.returns
  have hts := atoms_spec (ws := (ws_ yX4_bias cX4_bias 4 (some .int))) B.pre
  have htg : ∀ w ∈ gT, w.before _ s = true := fun w h => hts w (List.mem_cons_of_mem _ h)
  have hown : s.vm.findClass RX4 = some m.cls := findClass_of_methodNamed B.named
  have hlocks := B.notSynchronized
  have hS : va_S (fun _ => False) s.heap s.heap [] := va_S.rf
  have hP : va_P D vwCl [((ad 0), .inr (4, [.ref (ad 1), .ref (ad 8), .ref (ad 9), .ref (ad 10), .ref (ad 54), .ref (ad 59), .ref (ad 60), .int bn]))] s.heap := hP
  have hl := lv_entry ([.ref (ad 0), .int v, .int x]) (n := 4) (Nat.le_of_ble_eq_true rfl)
  rw [lg_entry_eq]
  generalize (lg_sl ([.ref (ad 0), .int v, .int x]) ++ List.replicate (4 - (lg_sl ([.ref (ad 0), .int v, .int x])).length) Slot.unset).toArray = ls at hl ⊢
  have hl : lv_has ls 4 [(0, .ref (ad 0)), (1, .int v), (2, .int x)] := hl
  refine lv_iload_n hx hb dX4_bias_0 rfl (lv_at hl 1 rfl) ?_
  refine lv_iconst (v := 2) hx hb dX4_bias_1 (by decide) ?_
  refine zx_call (vx_runS (As := [.int v, .int 2]) (rest := []) ⟨hx, hb, hml, hown, hts⟩ (mX4_needIndex_x l hl9 D y v 2 (zix_x (hb1))) (va_cwS 2 hts (zgS tw_153 tw_154 tw_23 tw_155) rfl rfl rfl (by decide +kernel) ⟨Nat.le_of_ble_eq_true rfl, Nat.le_of_ble_eq_true rfl⟩) (zXP_pre hKN hP hZ hS [] rfl) rfl rfl hl.1 rfl (lv_room (Nat.le_of_ble_eq_true rfl)) dX4_bias_2 ⟨by first | exact Nat.le_of_ble_eq_true rfl | omega, by first | exact Nat.le_of_ble_eq_true rfl | omega⟩) hS (fun ce9 q9 H locs hT hS hce9 hcv9 hcl9 => ?_)
  exact vx_out (fun x hx => (hnt x hx).elim) hlocks hce9 hcv9 hcl9 (fun t h1 _ => ⟨rfl, hS.F h1⟩) hS.2.2 (Nat.le_of_ble_eq_true rfl) (Nat.le_of_ble_eq_true rfl)

set_option maxHeartbeats 4000000 in
set_option maxRecDepth 100000 in
theorem mX4_bias_x2 (l : Launch) (hl9 : l.stackTraces = false) (D : va_G) (y : Nat → ClassId) (ad : Nat → Nat) (bn : Int32) (v : Int32) (x : Int32) (h1 : ¬ v < 0 ∧ ¬ 1 < v) (hb1 : ¬ (¬ x < (-50) ∧ ¬ 50 < x)) : vx_Met l yX4_bias (ws_ yX4_bias cX4_bias 4 (some .int)) ({ frames := 7, cells := 1, slots := 6, locals := 104 }) (va_Pc [.ref (ad 0), .int v, .int x] (zXP D y [((ad 0), .inr (4, [.ref (ad 1), .ref (ad 8), .ref (ad 9), .ref (ad 10), .ref (ad 54), .ref (ad 59), .ref (ad 60), .int bn]))])) (fun _ _ _ _ => False) (zXC zIA) 1 6 (fun _ => False) := by
  refine vx_ofW (cc := cX4_bias) (maxL := 4) (ret := (some .int)) (by decide) rfl ?_
  intro p e s m args below meth c s₁ B hml hnt hpre9
  obtain ⟨rfl, hZ, hP, hKN⟩ := hpre9
  have hK := hKN.1
  have hx := B.exec
  have hb := B.bytes
  have hr := B.returns
  have hts := atoms_spec (ws := (ws_ yX4_bias cX4_bias 4 (some .int))) B.pre
  have htg : ∀ w ∈ gT, w.before _ s = true := fun w h => hts w (List.mem_cons_of_mem _ h)
  have hown : s.vm.findClass RX4 = some m.cls := findClass_of_methodNamed B.named
  have hlocks := B.notSynchronized
  have hS : va_S (fun _ => False) s.heap s.heap [] := va_S.rf
  have hP : va_P D vwCl [((ad 0), .inr (4, [.ref (ad 1), .ref (ad 8), .ref (ad 9), .ref (ad 10), .ref (ad 54), .ref (ad 59), .ref (ad 60), .int bn]))] s.heap := hP
  have hl := lv_entry ([.ref (ad 0), .int v, .int x]) (n := 4) (Nat.le_of_ble_eq_true rfl)
  rw [lg_entry_eq]
  generalize (lg_sl ([.ref (ad 0), .int v, .int x]) ++ List.replicate (4 - (lg_sl ([.ref (ad 0), .int v, .int x])).length) Slot.unset).toArray = ls at hl ⊢
  have hl : lv_has ls 4 [(0, .ref (ad 0)), (1, .int v), (2, .int x)] := hl
  refine lv_iload_n hx hb dX4_bias_0 rfl (lv_at hl 1 rfl) ?_
  refine lv_iconst (v := 2) hx hb dX4_bias_1 (by decide) ?_
  refine zr_callv (va_runS (As := [.int v, .int 2]) (rest := []) ⟨hx, hb, hml, hown, hts⟩ (mX4_needIndex_i l v 2 ((h1).1) (zix_i (h1).2)) (va_cwS 2 hts (zgS tw_153 tw_154 tw_23 tw_155) rfl rfl rfl (by decide +kernel) ⟨Nat.le_of_ble_eq_true rfl, Nat.le_of_ble_eq_true rfl⟩) zP_pre rfl rfl hl.1 rfl (lv_room (Nat.le_of_ble_eq_true rfl)) dX4_bias_2 ⟨Nat.zero_le _, Nat.zero_le _⟩) hS (fun H locs hw_2 hT hS => ?_)
  replace hP := hT _ _ hP
  refine lv_iload_n hx hb dX4_bias_5 rfl (lv_at hl 2 rfl) ?_
  refine lv_bipush (v := (-50)) hx hb dX4_bias_6 (by decide) ?_
  refine lv_bipush (v := 50) hx hb dX4_bias_8 (by decide) ?_
  refine zx_call (vx_runS (As := [.int x, .int (-50), .int 50]) (rest := []) ⟨hx, hb, hml, hown, hts⟩ (mX4_needRange_x l hl9 D y x (-50) 50 (hb1)) (va_cwS 3 hts (zgS tw_158 tw_159 tw_23 tw_160) rfl rfl rfl (by decide +kernel) ⟨Nat.le_of_ble_eq_true rfl, Nat.le_of_ble_eq_true rfl⟩) (zXP_pre hKN hP hZ hS [] rfl) rfl rfl hl.1 rfl (lv_room (Nat.le_of_ble_eq_true rfl)) dX4_bias_10 ⟨by first | exact Nat.le_of_ble_eq_true rfl | omega, by first | exact Nat.le_of_ble_eq_true rfl | omega⟩) hS (fun ce9 q9 H locs hT hS hce9 hcv9 hcl9 => ?_)
  exact vx_out (fun x hx => (hnt x hx).elim) hlocks hce9 hcv9 hcl9 (fun t h1 _ => ⟨rfl, hS.F h1⟩) hS.2.2 (Nat.le_of_ble_eq_true rfl) (Nat.le_of_ble_eq_true rfl)

set_option maxHeartbeats 4000000 in
set_option maxRecDepth 100000 in
theorem mX4_set_x1 (l : Launch) (hl9 : l.stackTraces = false) (D : va_G) (y : Nat → ClassId) (ad : Nat → Nat) (bn : Int32) (v : Int32) (x : Int32) (hb1 : ¬ (¬ v < 0 ∧ ¬ 2 < v)) : vx_Met l yX4_set (ws_ yX4_set cX4_set 4 (some .int)) ({ frames := 7, cells := 1, slots := 6, locals := 103 }) (va_Pc [.ref (ad 0), .int v, .int x] (zXP D y [((ad 0), .inr (4, [.ref (ad 1), .ref (ad 8), .ref (ad 9), .ref (ad 10), .ref (ad 54), .ref (ad 59), .ref (ad 60), .int bn]))])) (fun _ _ _ _ => False) (zXC zIO) 1 6 (fun _ => False) := by
  refine vx_ofW (cc := cX4_set) (maxL := 4) (ret := (some .int)) (by decide) rfl ?_
  intro p e s m args below meth c s₁ B hml hnt hpre9
  obtain ⟨rfl, hZ, hP, hKN⟩ := hpre9
  have hK := hKN.1
  have hx := B.exec
  have hb := B.bytes
  have hr := B.returns
  have hts := atoms_spec (ws := (ws_ yX4_set cX4_set 4 (some .int))) B.pre
  have htg : ∀ w ∈ gT, w.before _ s = true := fun w h => hts w (List.mem_cons_of_mem _ h)
  have hown : s.vm.findClass RX4 = some m.cls := findClass_of_methodNamed B.named
  have hlocks := B.notSynchronized
  have hS : va_S (fun _ => False) s.heap s.heap [] := va_S.rf
  have hP : va_P D vwCl [((ad 0), .inr (4, [.ref (ad 1), .ref (ad 8), .ref (ad 9), .ref (ad 10), .ref (ad 54), .ref (ad 59), .ref (ad 60), .int bn]))] s.heap := hP
  have hl := lv_entry ([.ref (ad 0), .int v, .int x]) (n := 4) (Nat.le_of_ble_eq_true rfl)
  rw [lg_entry_eq]
  generalize (lg_sl ([.ref (ad 0), .int v, .int x]) ++ List.replicate (4 - (lg_sl ([.ref (ad 0), .int v, .int x])).length) Slot.unset).toArray = ls at hl ⊢
  have hl : lv_has ls 4 [(0, .ref (ad 0)), (1, .int v), (2, .int x)] := hl
  refine lv_iload_n hx hb dX4_set_0 rfl (lv_at hl 1 rfl) ?_
  refine lv_iconst (v := 3) hx hb dX4_set_1 (by decide) ?_
  refine zx_call (vx_runS (As := [.int v, .int 3]) (rest := []) ⟨hx, hb, hml, hown, hts⟩ (mX4_needIndex_x l hl9 D y v 3 (zix_x (hb1))) (va_cwS 2 hts (zgS tw_153 tw_154 tw_23 tw_155) rfl rfl rfl (by decide +kernel) ⟨Nat.le_of_ble_eq_true rfl, Nat.le_of_ble_eq_true rfl⟩) (zXP_pre hKN hP hZ hS [] rfl) rfl rfl hl.1 rfl (lv_room (Nat.le_of_ble_eq_true rfl)) dX4_set_2 ⟨by first | exact Nat.le_of_ble_eq_true rfl | omega, by first | exact Nat.le_of_ble_eq_true rfl | omega⟩) hS (fun ce9 q9 H locs hT hS hce9 hcv9 hcl9 => ?_)
  exact vx_out (fun x hx => (hnt x hx).elim) hlocks hce9 hcv9 hcl9 (fun t h1 _ => ⟨rfl, hS.F h1⟩) hS.2.2 (Nat.le_of_ble_eq_true rfl) (Nat.le_of_ble_eq_true rfl)

set_option maxHeartbeats 4000000 in
set_option maxRecDepth 100000 in
theorem mX4_set_x2 (l : Launch) (hl9 : l.stackTraces = false) (D : va_G) (y : Nat → ClassId) (ad : Nat → Nat) (bn : Int32) (v : Int32) (x : Int32) (h1 : ¬ v < 0 ∧ ¬ 2 < v) (hb1 : ¬ (¬ x < 0 ∧ ¬ (if v = 0 then (99 : Int32) else 1) < x)) : vx_Met l yX4_set (ws_ yX4_set cX4_set 4 (some .int)) ({ frames := 7, cells := 1, slots := 6, locals := 104 }) (va_Pc [.ref (ad 0), .int v, .int x] (zXP D y [((ad 0), .inr (4, [.ref (ad 1), .ref (ad 8), .ref (ad 9), .ref (ad 10), .ref (ad 54), .ref (ad 59), .ref (ad 60), .int bn]))])) (fun _ _ _ _ => False) (zXC zIA) 1 6 (fun _ => False) := by
  refine vx_ofW (cc := cX4_set) (maxL := 4) (ret := (some .int)) (by decide) rfl ?_
  intro p e s m args below meth c s₁ B hml hnt hpre9
  obtain ⟨rfl, hZ, hP, hKN⟩ := hpre9
  have hK := hKN.1
  have hx := B.exec
  have hb := B.bytes
  have hr := B.returns
  have hts := atoms_spec (ws := (ws_ yX4_set cX4_set 4 (some .int))) B.pre
  have htg : ∀ w ∈ gT, w.before _ s = true := fun w h => hts w (List.mem_cons_of_mem _ h)
  have hown : s.vm.findClass RX4 = some m.cls := findClass_of_methodNamed B.named
  have hlocks := B.notSynchronized
  have hS : va_S (fun _ => False) s.heap s.heap [] := va_S.rf
  have hP : va_P D vwCl [((ad 0), .inr (4, [.ref (ad 1), .ref (ad 8), .ref (ad 9), .ref (ad 10), .ref (ad 54), .ref (ad 59), .ref (ad 60), .int bn]))] s.heap := hP
  have hl := lv_entry ([.ref (ad 0), .int v, .int x]) (n := 4) (Nat.le_of_ble_eq_true rfl)
  rw [lg_entry_eq]
  generalize (lg_sl ([.ref (ad 0), .int v, .int x]) ++ List.replicate (4 - (lg_sl ([.ref (ad 0), .int v, .int x])).length) Slot.unset).toArray = ls at hl ⊢
  have hl : lv_has ls 4 [(0, .ref (ad 0)), (1, .int v), (2, .int x)] := hl
  refine lv_iload_n hx hb dX4_set_0 rfl (lv_at hl 1 rfl) ?_
  refine lv_iconst (v := 3) hx hb dX4_set_1 (by decide) ?_
  refine zr_callv (va_runS (As := [.int v, .int 3]) (rest := []) ⟨hx, hb, hml, hown, hts⟩ (mX4_needIndex_i l v 3 ((h1).1) (zix_i (h1).2)) (va_cwS 2 hts (zgS tw_153 tw_154 tw_23 tw_155) rfl rfl rfl (by decide +kernel) ⟨Nat.le_of_ble_eq_true rfl, Nat.le_of_ble_eq_true rfl⟩) zP_pre rfl rfl hl.1 rfl (lv_room (Nat.le_of_ble_eq_true rfl)) dX4_set_2 ⟨Nat.zero_le _, Nat.zero_le _⟩) hS (fun H locs hw_2 hT hS => ?_)
  replace hP := hT _ _ hP
  refine lv_iload_n hx hb dX4_set_5 rfl (lv_at hl 2 rfl) ?_
  refine lv_iconst (v := 0) hx hb dX4_set_6 (by decide) ?_
  refine lv_iload_n hx hb dX4_set_7 rfl (lv_at hl 1 rfl) ?_
  refine lv_if_ne (tgt := 16) hx hb dX4_set_8 (by decide) (fun c_8 => ?_) (fun c_8 => ?_)
  · rw [if_neg c_8] at hb1
    refine lv_iconst (v := 1) hx hb dX4_set_16 (by decide) ?_
    refine zx_call (vx_runS (As := [.int x, .int 0, .int 1]) (rest := []) ⟨hx, hb, hml, hown, hts⟩ (mX4_needRange_x l hl9 D y x 0 1 (hb1)) (va_cwS 3 hts (zgS tw_158 tw_159 tw_23 tw_160) rfl rfl rfl (by decide +kernel) ⟨Nat.le_of_ble_eq_true rfl, Nat.le_of_ble_eq_true rfl⟩) (zXP_pre hKN hP hZ hS [] rfl) rfl rfl hl.1 rfl (lv_room (Nat.le_of_ble_eq_true rfl)) dX4_set_17 ⟨by first | exact Nat.le_of_ble_eq_true rfl | omega, by first | exact Nat.le_of_ble_eq_true rfl | omega⟩) hS (fun ce9 q9 H locs hT hS hce9 hcv9 hcl9 => ?_)
    exact vx_out (fun x hx => (hnt x hx).elim) hlocks hce9 hcv9 hcl9 (fun t h1 _ => ⟨rfl, hS.F h1⟩) hS.2.2 (Nat.le_of_ble_eq_true rfl) (Nat.le_of_ble_eq_true rfl)
  · rw [if_pos c_8] at hb1
    refine lv_bipush (v := 99) hx hb dX4_set_11 (by decide) ?_
    refine lv_goto (tgt := 17) hx hb dX4_set_13 (by decide) ?_
    refine zx_call (vx_runS (As := [.int x, .int 0, .int 99]) (rest := []) ⟨hx, hb, hml, hown, hts⟩ (mX4_needRange_x l hl9 D y x 0 99 (hb1)) (va_cwS 3 hts (zgS tw_158 tw_159 tw_23 tw_160) rfl rfl rfl (by decide +kernel) ⟨Nat.le_of_ble_eq_true rfl, Nat.le_of_ble_eq_true rfl⟩) (zXP_pre hKN hP hZ hS [] rfl) rfl rfl hl.1 rfl (lv_room (Nat.le_of_ble_eq_true rfl)) dX4_set_17 ⟨by first | exact Nat.le_of_ble_eq_true rfl | omega, by first | exact Nat.le_of_ble_eq_true rfl | omega⟩) hS (fun ce9 q9 H locs hT hS hce9 hcv9 hcl9 => ?_)
    exact vx_out (fun x hx => (hnt x hx).elim) hlocks hce9 hcv9 hcl9 (fun t h1 _ => ⟨rfl, hS.F h1⟩) hS.2.2 (Nat.le_of_ble_eq_true rfl) (Nat.le_of_ble_eq_true rfl)

set_option maxHeartbeats 4000000 in
set_option maxRecDepth 100000 in
theorem mX4_pass_x1 (l : Launch) (hl9 : l.stackTraces = false) (D : va_G) (y : Nat → ClassId) (ad : Nat → Nat) (S : Nat → Int32) (bn : Int32) (x : Int32) (hb1 : ¬ (¬ x < 1 ∧ ¬ 99 < x)) : vx_Met l yX4_pass (ws_ yX4_pass cX4_pass 2 (some .int)) ({ frames := 7, cells := 1, slots := 6, locals := 104 }) (va_Pc [.ref (ad 0), .int x] (zXP D y [((ad 0), .inr (4, [.ref (ad 1), .ref (ad 8), .ref (ad 9), .ref (ad 10), .ref (ad 54), .ref (ad 59), .ref (ad 60), .int bn])), ((ad 1), .inr (2, [.ref (ad 2), .ref (ad 3), .ref (ad 4), .ref (ad 5), .ref (ad 6), .ref (ad 7), .int (S 0), .int (S 1), .int (S 4), .int (S 5)]))])) (fun _ _ _ _ => False) (zXC zIA) 1 6 (fun _ => False) := by
  refine vx_ofW (cc := cX4_pass) (maxL := 2) (ret := (some .int)) (by decide) rfl ?_
  intro p e s m args below meth c s₁ B hml hnt hpre9
  obtain ⟨rfl, hZ, hP, hKN⟩ := hpre9
  have hK := hKN.1
  have hx := B.exec
  have hb := B.bytes
  have hr := B.returns
  have hts := atoms_spec (ws := (ws_ yX4_pass cX4_pass 2 (some .int))) B.pre
  have htg : ∀ w ∈ gT, w.before _ s = true := fun w h => hts w (List.mem_cons_of_mem _ h)
  have hown : s.vm.findClass RX4 = some m.cls := findClass_of_methodNamed B.named
  have hlocks := B.notSynchronized
  have hS : va_S (fun _ => False) s.heap s.heap [] := va_S.rf
  have hP : va_P D vwCl [((ad 0), .inr (4, [.ref (ad 1), .ref (ad 8), .ref (ad 9), .ref (ad 10), .ref (ad 54), .ref (ad 59), .ref (ad 60), .int bn])), ((ad 1), .inr (2, [.ref (ad 2), .ref (ad 3), .ref (ad 4), .ref (ad 5), .ref (ad 6), .ref (ad 7), .int (S 0), .int (S 1), .int (S 4), .int (S 5)]))] s.heap := hP
  have hl := lv_entry ([.ref (ad 0), .int x]) (n := 2) (Nat.le_of_ble_eq_true rfl)
  rw [lg_entry_eq]
  generalize (lg_sl ([.ref (ad 0), .int x]) ++ List.replicate (2 - (lg_sl ([.ref (ad 0), .int x])).length) Slot.unset).toArray = ls at hl ⊢
  have hl : lv_has ls 2 [(0, .ref (ad 0)), (1, .int x)] := hl
  refine lv_iload_n hx hb dX4_pass_0 rfl (lv_at hl 1 rfl) ?_
  refine lv_iconst (v := 1) hx hb dX4_pass_1 (by decide) ?_
  refine lv_bipush (v := 99) hx hb dX4_pass_2 (by decide) ?_
  refine zx_call (vx_runS (As := [.int x, .int 1, .int 99]) (rest := []) ⟨hx, hb, hml, hown, hts⟩ (mX4_needRange_x l hl9 D y x 1 99 (hb1)) (va_cwS 3 hts (zgS tw_158 tw_159 tw_23 tw_160) rfl rfl rfl (by decide +kernel) ⟨Nat.le_of_ble_eq_true rfl, Nat.le_of_ble_eq_true rfl⟩) (zXP_pre hKN hP hZ hS [] rfl) rfl rfl hl.1 rfl (lv_room (Nat.le_of_ble_eq_true rfl)) dX4_pass_4 ⟨by first | exact Nat.le_of_ble_eq_true rfl | omega, by first | exact Nat.le_of_ble_eq_true rfl | omega⟩) hS (fun ce9 q9 H locs hT hS hce9 hcv9 hcl9 => ?_)
  exact vx_out (fun x hx => (hnt x hx).elim) hlocks hce9 hcv9 hcl9 (fun t h1 _ => ⟨rfl, hS.F h1⟩) hS.2.2 (Nat.le_of_ble_eq_true rfl) (Nat.le_of_ble_eq_true rfl)

set_option maxHeartbeats 4000000 in
set_option maxRecDepth 100000 in
theorem mX4_pass_x2 (l : Launch) (hl9 : l.stackTraces = false) (D : va_G) (y : Nat → ClassId) (ad : Nat → Nat) (S : Nat → Int32) (bn : Int32) (x : Int32) (h1 : ¬ x < 1 ∧ ¬ 99 < x) (hb1 : 9999 < S 0 + x) : vx_Met l yX4_pass (ws_ yX4_pass cX4_pass 2 (some .int)) ({ frames := 7, cells := 1, slots := 6, locals := 102 }) (va_Pc [.ref (ad 0), .int x] (zXP D y [((ad 0), .inr (4, [.ref (ad 1), .ref (ad 8), .ref (ad 9), .ref (ad 10), .ref (ad 54), .ref (ad 59), .ref (ad 60), .int bn])), ((ad 1), .inr (2, [.ref (ad 2), .ref (ad 3), .ref (ad 4), .ref (ad 5), .ref (ad 6), .ref (ad 7), .int (S 0), .int (S 1), .int (S 4), .int (S 5)]))])) (fun _ _ _ _ => False) (zXC zIS) 1 6 (fun _ => False) := by
  refine vx_ofW (cc := cX4_pass) (maxL := 2) (ret := (some .int)) (by decide) rfl ?_
  intro p e s m args below meth c s₁ B hml hnt hpre9
  obtain ⟨rfl, hZ, hP, hKN⟩ := hpre9
  have hK := hKN.1
  have hx := B.exec
  have hb := B.bytes
  have hr := B.returns
  have hts := atoms_spec (ws := (ws_ yX4_pass cX4_pass 2 (some .int))) B.pre
  have htg : ∀ w ∈ gT, w.before _ s = true := fun w h => hts w (List.mem_cons_of_mem _ h)
  have hown : s.vm.findClass RX4 = some m.cls := findClass_of_methodNamed B.named
  have hlocks := B.notSynchronized
  have hS : va_S (fun _ => False) s.heap s.heap [] := va_S.rf
  have hP : va_P D vwCl [((ad 0), .inr (4, [.ref (ad 1), .ref (ad 8), .ref (ad 9), .ref (ad 10), .ref (ad 54), .ref (ad 59), .ref (ad 60), .int bn])), ((ad 1), .inr (2, [.ref (ad 2), .ref (ad 3), .ref (ad 4), .ref (ad 5), .ref (ad 6), .ref (ad 7), .int (S 0), .int (S 1), .int (S 4), .int (S 5)]))] s.heap := hP
  have hl := lv_entry ([.ref (ad 0), .int x]) (n := 2) (Nat.le_of_ble_eq_true rfl)
  rw [lg_entry_eq]
  generalize (lg_sl ([.ref (ad 0), .int x]) ++ List.replicate (2 - (lg_sl ([.ref (ad 0), .int x])).length) Slot.unset).toArray = ls at hl ⊢
  have hl : lv_has ls 2 [(0, .ref (ad 0)), (1, .int x)] := hl
  refine lv_iload_n hx hb dX4_pass_0 rfl (lv_at hl 1 rfl) ?_
  refine lv_iconst (v := 1) hx hb dX4_pass_1 (by decide) ?_
  refine lv_bipush (v := 99) hx hb dX4_pass_2 (by decide) ?_
  refine zr_callv (va_runS (As := [.int x, .int 1, .int 99]) (rest := []) ⟨hx, hb, hml, hown, hts⟩ (mX4_needRange l x 1 99 (h1)) (va_cwS 3 hts (zgS tw_158 tw_159 tw_23 tw_160) rfl rfl rfl (by decide +kernel) ⟨Nat.le_of_ble_eq_true rfl, Nat.le_of_ble_eq_true rfl⟩) zP_pre rfl rfl hl.1 rfl (lv_room (Nat.le_of_ble_eq_true rfl)) dX4_pass_4 ⟨Nat.zero_le _, Nat.zero_le _⟩) hS (fun H locs hw_4 hT hS => ?_)
  replace hP := hT _ _ hP
  refine lv_aload_n hx hb dX4_pass_7 rfl (lv_at hl 0 rfl) ?_
  refine va_get (D := D) (ci := 4) (v := .ref (ad 1)) (C := RX4) (T := TX4) (N := 8) hx hb htg iX4 hown hK hP 0 rfl rfl 0 (by decide) (htg _ tw_127) (fun _ h9 => h9) rfl dX4_pass_8 ?_
  refine va_get (D := D) (ci := 2) (v := .int (S 0)) (C := RX2) (T := TX2) (N := 10) hx hb htg iX2 hown hK hP 1 rfl rfl 6 (by decide) (htg _ tw_188) (fun _ h9 => h9) rfl dX4_pass_11 ?_
  refine lv_iload_n hx hb dX4_pass_14 rfl (lv_at hl 1 rfl) ?_
  refine lv_iadd hx hb dX4_pass_15 ?_
  refine lv_sipush (v := 9999) hx hb dX4_pass_16 (by decide) ?_
  refine lv_icmp_gt (tgt := 26) hx hb dX4_pass_19 (by decide) (fun _ => ?_) (fun c_19 => absurd (hb1) c_19)
  refine lv_iconst (v := 0) hx hb dX4_pass_26 (by decide) ?_
  refine zx_call (vx_runS (As := [.int 0]) (rest := []) ⟨hx, hb, hml, hown, hts⟩ (mX4_needState_x l hl9 D y 0 (rfl)) (va_cwS 1 hts (zgS tw_189 tw_190 tw_23 tw_191) rfl rfl rfl (by decide +kernel) ⟨Nat.le_of_ble_eq_true rfl, Nat.le_of_ble_eq_true rfl⟩) (zXP_pre hKN hP hZ hS [] rfl) rfl rfl hl.1 rfl (lv_room (Nat.le_of_ble_eq_true rfl)) dX4_pass_27 ⟨by first | exact Nat.le_of_ble_eq_true rfl | omega, by first | exact Nat.le_of_ble_eq_true rfl | omega⟩) hS (fun ce9 q9 H locs hT hS hce9 hcv9 hcl9 => ?_)
  exact vx_out (fun x hx => (hnt x hx).elim) hlocks hce9 hcv9 hcl9 (fun t h1 _ => ⟨rfl, hS.F h1⟩) hS.2.2 (Nat.le_of_ble_eq_true rfl) (Nat.le_of_ble_eq_true rfl)

set_option maxHeartbeats 4000000 in
set_option maxRecDepth 100000 in
theorem mX4_survey_x1 (l : Launch) (hl9 : l.stackTraces = false) (D : va_G) (y : Nat → ClassId) (ad : Nat → Nat) (S : Nat → Int32) (bn : Int32) (hb1 : S 1 = 6) : vx_Met l yX4_survey (ws_ yX4_survey cX4_survey 5 (some .int)) ({ frames := 7, cells := 1, slots := 6, locals := 102 }) (va_Pc [.ref (ad 0)] (zXP D y [((ad 0), .inr (4, [.ref (ad 1), .ref (ad 8), .ref (ad 9), .ref (ad 10), .ref (ad 54), .ref (ad 59), .ref (ad 60), .int bn])), ((ad 1), .inr (2, [.ref (ad 2), .ref (ad 3), .ref (ad 4), .ref (ad 5), .ref (ad 6), .ref (ad 7), .int (S 0), .int (S 1), .int (S 4), .int (S 5)]))])) (fun _ _ _ _ => False) (zXC zIS) 1 6 (fun _ => False) := by
  refine vx_ofW (cc := cX4_survey) (maxL := 5) (ret := (some .int)) (by decide) rfl ?_
  intro p e s m args below meth c s₁ B hml hnt hpre9
  obtain ⟨rfl, hZ, hP, hKN⟩ := hpre9
  have hK := hKN.1
  have hx := B.exec
  have hb := B.bytes
  have hr := B.returns
  have hts := atoms_spec (ws := (ws_ yX4_survey cX4_survey 5 (some .int))) B.pre
  have htg : ∀ w ∈ gT, w.before _ s = true := fun w h => hts w (List.mem_cons_of_mem _ h)
  have hown : s.vm.findClass RX4 = some m.cls := findClass_of_methodNamed B.named
  have hlocks := B.notSynchronized
  have hS : va_S (fun _ => False) s.heap s.heap [] := va_S.rf
  have hP : va_P D vwCl [((ad 0), .inr (4, [.ref (ad 1), .ref (ad 8), .ref (ad 9), .ref (ad 10), .ref (ad 54), .ref (ad 59), .ref (ad 60), .int bn])), ((ad 1), .inr (2, [.ref (ad 2), .ref (ad 3), .ref (ad 4), .ref (ad 5), .ref (ad 6), .ref (ad 7), .int (S 0), .int (S 1), .int (S 4), .int (S 5)]))] s.heap := hP
  have hl := lv_entry ([.ref (ad 0)]) (n := 5) (Nat.le_of_ble_eq_true rfl)
  rw [lg_entry_eq]
  generalize (lg_sl ([.ref (ad 0)]) ++ List.replicate (5 - (lg_sl ([.ref (ad 0)])).length) Slot.unset).toArray = ls at hl ⊢
  have hl : lv_has ls 5 [(0, .ref (ad 0))] := hl
  refine lv_aload_n hx hb dX4_survey_0 rfl (lv_at hl 0 rfl) ?_
  refine va_get (D := D) (ci := 4) (v := .ref (ad 1)) (C := RX4) (T := TX4) (N := 8) hx hb htg iX4 hown hK hP 0 rfl rfl 0 (by decide) (htg _ tw_127) (fun _ h9 => h9) rfl dX4_survey_1 ?_
  refine va_get (D := D) (ci := 2) (v := .int (S 1)) (C := RX2) (T := TX2) (N := 10) hx hb htg iX2 hown hK hP 1 rfl rfl 7 (by decide) (htg _ tw_195) (fun _ h9 => h9) rfl dX4_survey_4 ?_
  refine lv_bipush (v := 6) hx hb dX4_survey_7 (by decide) ?_
  refine lv_icmp_ge (tgt := 16) hx hb dX4_survey_9 (by decide) (fun _ => ?_) (fun c_9 => absurd (by rw [hb1]; decide) c_9)
  refine lv_iconst (v := 0) hx hb dX4_survey_16 (by decide) ?_
  refine zx_call (vx_runS (As := [.int 0]) (rest := []) ⟨hx, hb, hml, hown, hts⟩ (mX4_needState_x l hl9 D y 0 (rfl)) (va_cwS 1 hts (zgS tw_189 tw_190 tw_23 tw_191) rfl rfl rfl (by decide +kernel) ⟨Nat.le_of_ble_eq_true rfl, Nat.le_of_ble_eq_true rfl⟩) (zXP_pre hKN hP hZ hS [] rfl) rfl rfl hl.1 rfl (lv_room (Nat.le_of_ble_eq_true rfl)) dX4_survey_17 ⟨by first | exact Nat.le_of_ble_eq_true rfl | omega, by first | exact Nat.le_of_ble_eq_true rfl | omega⟩) hS (fun ce9 q9 H locs hT hS hce9 hcv9 hcl9 => ?_)
  exact vx_out (fun x hx => (hnt x hx).elim) hlocks hce9 hcv9 hcl9 (fun t h1 _ => ⟨rfl, hS.F h1⟩) hS.2.2 (Nat.le_of_ble_eq_true rfl) (Nat.le_of_ble_eq_true rfl)

set_option maxHeartbeats 4000000 in
set_option maxRecDepth 100000 in
theorem mX4_drop_x1 (l : Launch) (hl9 : l.stackTraces = false) (D : va_G) (y : Nat → ClassId) (ad : Nat → Nat) (S : Nat → Int32) (bn : Int32) (hb1 : S 1 = 0) : vx_Met l yX4_drop (ws_ yX4_drop cX4_drop 1 (some .int)) ({ frames := 7, cells := 1, slots := 6, locals := 102 }) (va_Pc [.ref (ad 0)] (zXP D y [((ad 0), .inr (4, [.ref (ad 1), .ref (ad 8), .ref (ad 9), .ref (ad 10), .ref (ad 54), .ref (ad 59), .ref (ad 60), .int bn])), ((ad 1), .inr (2, [.ref (ad 2), .ref (ad 3), .ref (ad 4), .ref (ad 5), .ref (ad 6), .ref (ad 7), .int (S 0), .int (S 1), .int (S 4), .int (S 5)]))])) (fun _ _ _ _ => False) (zXC zIS) 1 6 (fun _ => False) := by
  refine vx_ofW (cc := cX4_drop) (maxL := 1) (ret := (some .int)) (by decide) rfl ?_
  intro p e s m args below meth c s₁ B hml hnt hpre9
  obtain ⟨rfl, hZ, hP, hKN⟩ := hpre9
  have hK := hKN.1
  have hx := B.exec
  have hb := B.bytes
  have hr := B.returns
  have hts := atoms_spec (ws := (ws_ yX4_drop cX4_drop 1 (some .int))) B.pre
  have htg : ∀ w ∈ gT, w.before _ s = true := fun w h => hts w (List.mem_cons_of_mem _ h)
  have hown : s.vm.findClass RX4 = some m.cls := findClass_of_methodNamed B.named
  have hlocks := B.notSynchronized
  have hS : va_S (fun _ => False) s.heap s.heap [] := va_S.rf
  have hP : va_P D vwCl [((ad 0), .inr (4, [.ref (ad 1), .ref (ad 8), .ref (ad 9), .ref (ad 10), .ref (ad 54), .ref (ad 59), .ref (ad 60), .int bn])), ((ad 1), .inr (2, [.ref (ad 2), .ref (ad 3), .ref (ad 4), .ref (ad 5), .ref (ad 6), .ref (ad 7), .int (S 0), .int (S 1), .int (S 4), .int (S 5)]))] s.heap := hP
  have hl := lv_entry ([.ref (ad 0)]) (n := 1) (Nat.le_of_ble_eq_true rfl)
  rw [lg_entry_eq]
  generalize (lg_sl ([.ref (ad 0)]) ++ List.replicate (1 - (lg_sl ([.ref (ad 0)])).length) Slot.unset).toArray = ls at hl ⊢
  have hl : lv_has ls 1 [(0, .ref (ad 0))] := hl
  refine lv_aload_n hx hb dX4_drop_0 rfl (lv_at hl 0 rfl) ?_
  refine va_get (D := D) (ci := 4) (v := .ref (ad 1)) (C := RX4) (T := TX4) (N := 8) hx hb htg iX4 hown hK hP 0 rfl rfl 0 (by decide) (htg _ tw_127) (fun _ h9 => h9) rfl dX4_drop_1 ?_
  refine va_get (D := D) (ci := 2) (v := .int (S 1)) (C := RX2) (T := TX2) (N := 10) hx hb htg iX2 hown hK hP 1 rfl rfl 7 (by decide) (htg _ tw_195) (fun _ h9 => h9) rfl dX4_drop_4 ?_
  refine lv_if_le (tgt := 14) hx hb dX4_drop_7 (by decide) (fun _ => ?_) (fun c_7 => absurd (by rw [hb1]; decide) c_7)
  refine lv_iconst (v := 0) hx hb dX4_drop_14 (by decide) ?_
  refine zx_call (vx_runS (As := [.int 0]) (rest := []) ⟨hx, hb, hml, hown, hts⟩ (mX4_needState_x l hl9 D y 0 (rfl)) (va_cwS 1 hts (zgS tw_189 tw_190 tw_23 tw_191) rfl rfl rfl (by decide +kernel) ⟨Nat.le_of_ble_eq_true rfl, Nat.le_of_ble_eq_true rfl⟩) (zXP_pre hKN hP hZ hS [] rfl) rfl rfl hl.1 rfl (lv_room (Nat.le_of_ble_eq_true rfl)) dX4_drop_15 ⟨by first | exact Nat.le_of_ble_eq_true rfl | omega, by first | exact Nat.le_of_ble_eq_true rfl | omega⟩) hS (fun ce9 q9 H locs hT hS hce9 hcv9 hcl9 => ?_)
  exact vx_out (fun x hx => (hnt x hx).elim) hlocks hce9 hcv9 hcl9 (fun t h1 _ => ⟨rfl, hS.F h1⟩) hS.2.2 (Nat.le_of_ble_eq_true rfl) (Nat.le_of_ble_eq_true rfl)

set_option maxHeartbeats 4000000 in
set_option maxRecDepth 100000 in
theorem mX4_load_x1 (l : Launch) (hl9 : l.stackTraces = false) (D : va_G) (y : Nat → ClassId) (ad : Nat → Nat) (S : Nat → Int32) (bn : Int32) (hb1 : S 1 = 0) : vx_Met l yX4_load (ws_ yX4_load cX4_load 2 (some .int)) ({ frames := 7, cells := 1, slots := 6, locals := 102 }) (va_Pc [.ref (ad 0)] (zXP D y [((ad 0), .inr (4, [.ref (ad 1), .ref (ad 8), .ref (ad 9), .ref (ad 10), .ref (ad 54), .ref (ad 59), .ref (ad 60), .int bn])), ((ad 1), .inr (2, [.ref (ad 2), .ref (ad 3), .ref (ad 4), .ref (ad 5), .ref (ad 6), .ref (ad 7), .int (S 0), .int (S 1), .int (S 4), .int (S 5)]))])) (fun _ _ _ _ => False) (zXC zIS) 1 6 (fun _ => False) := by
  refine vx_ofW (cc := cX4_load) (maxL := 2) (ret := (some .int)) (by decide) rfl ?_
  intro p e s m args below meth c s₁ B hml hnt hpre9
  obtain ⟨rfl, hZ, hP, hKN⟩ := hpre9
  have hK := hKN.1
  have hx := B.exec
  have hb := B.bytes
  have hr := B.returns
  have hts := atoms_spec (ws := (ws_ yX4_load cX4_load 2 (some .int))) B.pre
  have htg : ∀ w ∈ gT, w.before _ s = true := fun w h => hts w (List.mem_cons_of_mem _ h)
  have hown : s.vm.findClass RX4 = some m.cls := findClass_of_methodNamed B.named
  have hlocks := B.notSynchronized
  have hS : va_S (fun _ => False) s.heap s.heap [] := va_S.rf
  have hP : va_P D vwCl [((ad 0), .inr (4, [.ref (ad 1), .ref (ad 8), .ref (ad 9), .ref (ad 10), .ref (ad 54), .ref (ad 59), .ref (ad 60), .int bn])), ((ad 1), .inr (2, [.ref (ad 2), .ref (ad 3), .ref (ad 4), .ref (ad 5), .ref (ad 6), .ref (ad 7), .int (S 0), .int (S 1), .int (S 4), .int (S 5)]))] s.heap := hP
  have hl := lv_entry ([.ref (ad 0)]) (n := 2) (Nat.le_of_ble_eq_true rfl)
  rw [lg_entry_eq]
  generalize (lg_sl ([.ref (ad 0)]) ++ List.replicate (2 - (lg_sl ([.ref (ad 0)])).length) Slot.unset).toArray = ls at hl ⊢
  have hl : lv_has ls 2 [(0, .ref (ad 0))] := hl
  refine lv_aload_n hx hb dX4_load_0 rfl (lv_at hl 0 rfl) ?_
  refine va_get (D := D) (ci := 4) (v := .ref (ad 1)) (C := RX4) (T := TX4) (N := 8) hx hb htg iX4 hown hK hP 0 rfl rfl 0 (by decide) (htg _ tw_127) (fun _ h9 => h9) rfl dX4_load_1 ?_
  refine va_get (D := D) (ci := 2) (v := .int (S 1)) (C := RX2) (T := TX2) (N := 10) hx hb htg iX2 hown hK hP 1 rfl rfl 7 (by decide) (htg _ tw_195) (fun _ h9 => h9) rfl dX4_load_4 ?_
  refine lv_if_le (tgt := 14) hx hb dX4_load_7 (by decide) (fun _ => ?_) (fun c_7 => absurd (by rw [hb1]; decide) c_7)
  refine lv_iconst (v := 0) hx hb dX4_load_14 (by decide) ?_
  refine zx_call (vx_runS (As := [.int 0]) (rest := []) ⟨hx, hb, hml, hown, hts⟩ (mX4_needState_x l hl9 D y 0 (rfl)) (va_cwS 1 hts (zgS tw_189 tw_190 tw_23 tw_191) rfl rfl rfl (by decide +kernel) ⟨Nat.le_of_ble_eq_true rfl, Nat.le_of_ble_eq_true rfl⟩) (zXP_pre hKN hP hZ hS [] rfl) rfl rfl hl.1 rfl (lv_room (Nat.le_of_ble_eq_true rfl)) dX4_load_15 ⟨by first | exact Nat.le_of_ble_eq_true rfl | omega, by first | exact Nat.le_of_ble_eq_true rfl | omega⟩) hS (fun ce9 q9 H locs hT hS hce9 hcv9 hcl9 => ?_)
  exact vx_out (fun x hx => (hnt x hx).elim) hlocks hce9 hcv9 hcl9 (fun t h1 _ => ⟨rfl, hS.F h1⟩) hS.2.2 (Nat.le_of_ble_eq_true rfl) (Nat.le_of_ble_eq_true rfl)

set_option maxHeartbeats 4000000 in
set_option maxRecDepth 100000 in
theorem mX4_spoil_x1 (l : Launch) (hl9 : l.stackTraces = false) (D : va_G) (y : Nat → ClassId) (ad : Nat → Nat) (bn : Int32) (v : Int32) (q : Int32) (f : Int32) (x : Int32) (hb1 : ¬ ((¬ v < 0 ∧ ¬ 15 < v) ∧ (¬ q < 0 ∧ ¬ 1 < q) ∧ (¬ f < 0 ∧ ¬ 1 < f))) : vx_Met l yX4_spoil (ws_ yX4_spoil cX4_spoil 7 (some .int)) ({ frames := 7, cells := 1, slots := 6, locals := 103 }) (va_Pc [.ref (ad 0), .int v, .int q, .int f, .int x] (zXP D y [((ad 0), .inr (4, [.ref (ad 1), .ref (ad 8), .ref (ad 9), .ref (ad 10), .ref (ad 54), .ref (ad 59), .ref (ad 60), .int bn]))])) (fun _ _ _ _ => False) (zXC zIO) 1 6 (fun _ => False) := by
  refine vx_ofW (cc := cX4_spoil) (maxL := 7) (ret := (some .int)) (by decide) rfl ?_
  intro p e s m args below meth c s₁ B hml hnt hpre9
  obtain ⟨rfl, hZ, hP, hKN⟩ := hpre9
  have hK := hKN.1
  have hx := B.exec
  have hb := B.bytes
  have hr := B.returns
  have hts := atoms_spec (ws := (ws_ yX4_spoil cX4_spoil 7 (some .int))) B.pre
  have htg : ∀ w ∈ gT, w.before _ s = true := fun w h => hts w (List.mem_cons_of_mem _ h)
  have hown : s.vm.findClass RX4 = some m.cls := findClass_of_methodNamed B.named
  have hlocks := B.notSynchronized
  have hS : va_S (fun _ => False) s.heap s.heap [] := va_S.rf
  have hP : va_P D vwCl [((ad 0), .inr (4, [.ref (ad 1), .ref (ad 8), .ref (ad 9), .ref (ad 10), .ref (ad 54), .ref (ad 59), .ref (ad 60), .int bn]))] s.heap := hP
  have hl := lv_entry ([.ref (ad 0), .int v, .int q, .int f, .int x]) (n := 7) (Nat.le_of_ble_eq_true rfl)
  rw [lg_entry_eq]
  generalize (lg_sl ([.ref (ad 0), .int v, .int q, .int f, .int x]) ++ List.replicate (7 - (lg_sl ([.ref (ad 0), .int v, .int q, .int f, .int x])).length) Slot.unset).toArray = ls at hl ⊢
  have hl : lv_has ls 7 [(0, .ref (ad 0)), (1, .int v), (2, .int q), (3, .int f), (4, .int x)] := hl
  refine lv_iload_n hx hb dX4_spoil_0 rfl (lv_at hl 1 rfl) ?_
  refine lv_bipush (v := 16) hx hb dX4_spoil_1 (by decide) ?_
  by_cases k_3 : ¬ v < 0 ∧ ¬ 15 < v
  · refine zr_callv (va_runS (As := [.int v, .int 16]) (rest := []) ⟨hx, hb, hml, hown, hts⟩ (mX4_needIndex_i l v 16 (k_3.1) (zix_i k_3.2)) (va_cwS 2 hts (zgS tw_153 tw_154 tw_23 tw_155) rfl rfl rfl (by decide +kernel) ⟨Nat.le_of_ble_eq_true rfl, Nat.le_of_ble_eq_true rfl⟩) zP_pre rfl rfl hl.1 rfl (lv_room (Nat.le_of_ble_eq_true rfl)) dX4_spoil_3 ⟨Nat.zero_le _, Nat.zero_le _⟩) hS (fun H locs hw_3 hT hS => ?_)
    replace hP := hT _ _ hP
    refine lv_iload_n hx hb dX4_spoil_6 rfl (lv_at hl 2 rfl) ?_
    refine lv_iconst (v := 2) hx hb dX4_spoil_7 (by decide) ?_
    by_cases k_8 : ¬ q < 0 ∧ ¬ 1 < q
    · refine zr_callv (va_runS (As := [.int q, .int 2]) (rest := []) ⟨hx, hb, hml, hown, hts⟩ (mX4_needIndex_i l q 2 (k_8.1) (zix_i k_8.2)) (va_cwS 2 hts (zgS tw_153 tw_154 tw_23 tw_155) rfl rfl rfl (by decide +kernel) ⟨Nat.le_of_ble_eq_true rfl, Nat.le_of_ble_eq_true rfl⟩) zP_pre rfl rfl hl.1 rfl (lv_room (Nat.le_of_ble_eq_true rfl)) dX4_spoil_8 ⟨Nat.zero_le _, Nat.zero_le _⟩) hS (fun H locs hw_8 hT hS => ?_)
      replace hP := hT _ _ hP
      refine lv_iload_n hx hb dX4_spoil_11 rfl (lv_at hl 3 rfl) ?_
      refine lv_iconst (v := 2) hx hb dX4_spoil_12 (by decide) ?_
      by_cases k_13 : ¬ f < 0 ∧ ¬ 1 < f
      · exact absurd ⟨k_3, k_8, k_13⟩ hb1
      · refine zx_call (vx_runS (As := [.int f, .int 2]) (rest := []) ⟨hx, hb, hml, hown, hts⟩ (mX4_needIndex_x l hl9 D y f 2 (zix_x k_13)) (va_cwS 2 hts (zgS tw_153 tw_154 tw_23 tw_155) rfl rfl rfl (by decide +kernel) ⟨Nat.le_of_ble_eq_true rfl, Nat.le_of_ble_eq_true rfl⟩) (zXP_pre hKN hP hZ hS [] rfl) rfl rfl hl.1 rfl (lv_room (Nat.le_of_ble_eq_true rfl)) dX4_spoil_13 ⟨by first | exact Nat.le_of_ble_eq_true rfl | omega, by first | exact Nat.le_of_ble_eq_true rfl | omega⟩) hS (fun ce9 q9 H locs hT hS hce9 hcv9 hcl9 => ?_)
        exact vx_out (fun x hx => (hnt x hx).elim) hlocks hce9 hcv9 hcl9 (fun t h1 _ => ⟨rfl, hS.F h1⟩) hS.2.2 (Nat.le_of_ble_eq_true rfl) (Nat.le_of_ble_eq_true rfl)
    · refine zx_call (vx_runS (As := [.int q, .int 2]) (rest := []) ⟨hx, hb, hml, hown, hts⟩ (mX4_needIndex_x l hl9 D y q 2 (zix_x k_8)) (va_cwS 2 hts (zgS tw_153 tw_154 tw_23 tw_155) rfl rfl rfl (by decide +kernel) ⟨Nat.le_of_ble_eq_true rfl, Nat.le_of_ble_eq_true rfl⟩) (zXP_pre hKN hP hZ hS [] rfl) rfl rfl hl.1 rfl (lv_room (Nat.le_of_ble_eq_true rfl)) dX4_spoil_8 ⟨by first | exact Nat.le_of_ble_eq_true rfl | omega, by first | exact Nat.le_of_ble_eq_true rfl | omega⟩) hS (fun ce9 q9 H locs hT hS hce9 hcv9 hcl9 => ?_)
      exact vx_out (fun x hx => (hnt x hx).elim) hlocks hce9 hcv9 hcl9 (fun t h1 _ => ⟨rfl, hS.F h1⟩) hS.2.2 (Nat.le_of_ble_eq_true rfl) (Nat.le_of_ble_eq_true rfl)
  · refine zx_call (vx_runS (As := [.int v, .int 16]) (rest := []) ⟨hx, hb, hml, hown, hts⟩ (mX4_needIndex_x l hl9 D y v 16 (zix_x k_3)) (va_cwS 2 hts (zgS tw_153 tw_154 tw_23 tw_155) rfl rfl rfl (by decide +kernel) ⟨Nat.le_of_ble_eq_true rfl, Nat.le_of_ble_eq_true rfl⟩) (zXP_pre hKN hP hZ hS [] rfl) rfl rfl hl.1 rfl (lv_room (Nat.le_of_ble_eq_true rfl)) dX4_spoil_3 ⟨by first | exact Nat.le_of_ble_eq_true rfl | omega, by first | exact Nat.le_of_ble_eq_true rfl | omega⟩) hS (fun ce9 q9 H locs hT hS hce9 hcv9 hcl9 => ?_)
    exact vx_out (fun x hx => (hnt x hx).elim) hlocks hce9 hcv9 hcl9 (fun t h1 _ => ⟨rfl, hS.F h1⟩) hS.2.2 (Nat.le_of_ble_eq_true rfl) (Nat.le_of_ble_eq_true rfl)

set_option maxHeartbeats 4000000 in
set_option maxRecDepth 100000 in
theorem mX4_spoil_x2 (l : Launch) (hl9 : l.stackTraces = false) (D : va_G) (y : Nat → ClassId) (ad : Nat → Nat) (S : Nat → Int32) (bn : Int32) (n : Nat) (v : Nat) (q : Nat) (f : Nat) (x : Int32) (hlv : v < 16) (hq : q < 2) (hf : f < 2) (hb1 : ¬ (¬ x < (-99) ∧ ¬ 99 < x)) : vx_Met l yX4_spoil (ws_ yX4_spoil cX4_spoil 7 (some .int)) ({ frames := 7, cells := 1, slots := 6, locals := 104 }) (va_Pc [.ref (ad 0), .int (nI v), .int (nI q), .int (nI f), .int x] (zXP D y [((ad 0), .inr (4, [.ref (ad 1), .ref (ad 8), .ref (ad 9), .ref (ad 10), .ref (ad 54), .ref (ad 59), .ref (ad 60), .int bn])), ((ad 1), .inr (2, [.ref (ad 2), .ref (ad 3), .ref (ad 4), .ref (ad 5), .ref (ad 6), .ref (ad 7), .int (S 0), .int (S 1), .int (S 4), .int (S 5)])), ((ad 2), .inl (y 0, 32, .inl (zT S))), ((ad 3), .inl (y 0, 16, .inl (zU S))), ((ad 4), .inl (y 0, 2, .inl (zB S))), ((ad 5), .inl (y 0, 3, .inl (zE S))), ((ad 6), .inl (y 0, 384, .inl (zR S))), ((ad 7), .inl (y 0, 6, .inl (zY S)))])) (fun _ _ _ _ => False) (zXC zIA) 1 6 (fun _ => False) := by
  refine vx_ofW (cc := cX4_spoil) (maxL := 7) (ret := (some .int)) (by decide) rfl ?_
  intro p e s m args below meth c s₁ B hml hnt hpre9
  obtain ⟨rfl, hZ, hP, hKN⟩ := hpre9
  have hK := hKN.1
  have hx := B.exec
  have hb := B.bytes
  have hr := B.returns
  have hts := atoms_spec (ws := (ws_ yX4_spoil cX4_spoil 7 (some .int))) B.pre
  have htg : ∀ w ∈ gT, w.before _ s = true := fun w h => hts w (List.mem_cons_of_mem _ h)
  have hown : s.vm.findClass RX4 = some m.cls := findClass_of_methodNamed B.named
  have hlocks := B.notSynchronized
  have hS : va_S (fun _ => False) s.heap s.heap [] := va_S.rf
  have hP : va_P D vwCl [((ad 0), .inr (4, [.ref (ad 1), .ref (ad 8), .ref (ad 9), .ref (ad 10), .ref (ad 54), .ref (ad 59), .ref (ad 60), .int bn])), ((ad 1), .inr (2, [.ref (ad 2), .ref (ad 3), .ref (ad 4), .ref (ad 5), .ref (ad 6), .ref (ad 7), .int (S 0), .int (S 1), .int (S 4), .int (S 5)])), ((ad 2), .inl (y 0, 32, .inl (zT S))), ((ad 3), .inl (y 0, 16, .inl (zU S))), ((ad 4), .inl (y 0, 2, .inl (zB S))), ((ad 5), .inl (y 0, 3, .inl (zE S))), ((ad 6), .inl (y 0, 384, .inl (zR S))), ((ad 7), .inl (y 0, 6, .inl (zY S)))] s.heap := hP
  have hl := lv_entry ([.ref (ad 0), .int (nI v), .int (nI q), .int (nI f), .int x]) (n := 7) (Nat.le_of_ble_eq_true rfl)
  rw [lg_entry_eq]
  generalize (lg_sl ([.ref (ad 0), .int (nI v), .int (nI q), .int (nI f), .int x]) ++ List.replicate (7 - (lg_sl ([.ref (ad 0), .int (nI v), .int (nI q), .int (nI f), .int x])).length) Slot.unset).toArray = ls at hl ⊢
  have hl : lv_has ls 7 [(0, .ref (ad 0)), (1, .int (nI v)), (2, .int (nI q)), (3, .int (nI f)), (4, .int x)] := hl
  refine lv_iload_n hx hb dX4_spoil_0 rfl (lv_at hl 1 rfl) ?_
  refine lv_bipush (v := 16) hx hb dX4_spoil_1 (by decide) ?_
  refine zr_callv (va_runS (As := [.int (nI v), .int 16]) (rest := []) ⟨hx, hb, hml, hown, hts⟩ (mX4_needIndex_i l (nI v) 16 (nI_pos (n := v) (by omega)) (nI_lt (a := v) (b := 16) (by omega) (by omega))) (va_cwS 2 hts (zgS tw_153 tw_154 tw_23 tw_155) rfl rfl rfl (by decide +kernel) ⟨Nat.le_of_ble_eq_true rfl, Nat.le_of_ble_eq_true rfl⟩) zP_pre rfl rfl hl.1 rfl (lv_room (Nat.le_of_ble_eq_true rfl)) dX4_spoil_3 ⟨Nat.zero_le _, Nat.zero_le _⟩) hS (fun H locs hw_3 hT hS => ?_)
  replace hP := hT _ _ hP
  refine lv_iload_n hx hb dX4_spoil_6 rfl (lv_at hl 2 rfl) ?_
  refine lv_iconst (v := 2) hx hb dX4_spoil_7 (by decide) ?_
  refine zr_callv (va_runS (As := [.int (nI q), .int 2]) (rest := []) ⟨hx, hb, hml, hown, hts⟩ (mX4_needIndex_i l (nI q) 2 (nI_pos (n := q) (by omega)) (nI_lt (a := q) (b := 2) (by omega) (by omega))) (va_cwS 2 hts (zgS tw_153 tw_154 tw_23 tw_155) rfl rfl rfl (by decide +kernel) ⟨Nat.le_of_ble_eq_true rfl, Nat.le_of_ble_eq_true rfl⟩) zP_pre rfl rfl hl.1 rfl (lv_room (Nat.le_of_ble_eq_true rfl)) dX4_spoil_8 ⟨Nat.zero_le _, Nat.zero_le _⟩) hS (fun H locs hw_8 hT hS => ?_)
  replace hP := hT _ _ hP
  refine lv_iload_n hx hb dX4_spoil_11 rfl (lv_at hl 3 rfl) ?_
  refine lv_iconst (v := 2) hx hb dX4_spoil_12 (by decide) ?_
  refine zr_callv (va_runS (As := [.int (nI f), .int 2]) (rest := []) ⟨hx, hb, hml, hown, hts⟩ (mX4_needIndex_i l (nI f) 2 (nI_pos (n := f) (by omega)) (nI_lt (a := f) (b := 2) (by omega) (by omega))) (va_cwS 2 hts (zgS tw_153 tw_154 tw_23 tw_155) rfl rfl rfl (by decide +kernel) ⟨Nat.le_of_ble_eq_true rfl, Nat.le_of_ble_eq_true rfl⟩) zP_pre rfl rfl hl.1 rfl (lv_room (Nat.le_of_ble_eq_true rfl)) dX4_spoil_13 ⟨Nat.zero_le _, Nat.zero_le _⟩) hS (fun H locs hw_13 hT hS => ?_)
  replace hP := hT _ _ hP
  refine lv_iload hx hb dX4_spoil_16 (lv_at hl 4 rfl) ?_
  refine lv_bipush (v := (-99)) hx hb dX4_spoil_18 (by decide) ?_
  refine lv_bipush (v := 99) hx hb dX4_spoil_20 (by decide) ?_
  refine zx_call (vx_runS (As := [.int x, .int (-99), .int 99]) (rest := []) ⟨hx, hb, hml, hown, hts⟩ (mX4_needRange_x l hl9 D y x (-99) 99 (hb1)) (va_cwS 3 hts (zgS tw_158 tw_159 tw_23 tw_160) rfl rfl rfl (by decide +kernel) ⟨Nat.le_of_ble_eq_true rfl, Nat.le_of_ble_eq_true rfl⟩) (zXP_pre hKN hP hZ hS [] rfl) rfl rfl hl.1 rfl (lv_room (Nat.le_of_ble_eq_true rfl)) dX4_spoil_22 ⟨by first | exact Nat.le_of_ble_eq_true rfl | omega, by first | exact Nat.le_of_ble_eq_true rfl | omega⟩) hS (fun ce9 q9 H locs hT hS hce9 hcv9 hcl9 => ?_)
  exact vx_out (fun x hx => (hnt x hx).elim) hlocks hce9 hcv9 hcl9 (fun t h1 _ => ⟨rfl, hS.F h1⟩) hS.2.2 (Nat.le_of_ble_eq_true rfl) (Nat.le_of_ble_eq_true rfl)

set_option maxHeartbeats 4000000 in
set_option maxRecDepth 100000 in
theorem mX4_spoil_x3 (l : Launch) (hl9 : l.stackTraces = false) (D : va_G) (y : Nat → ClassId) (ad : Nat → Nat) (S : Nat → Int32) (bn : Int32) (n : Nat) (v : Nat) (q : Nat) (f : Nat) (x : Int32) (hn6 : n ≤ 6) (hS1 : S 1 = nI n) (hlv : v < 16) (hq : q < 2) (hf : f < 2) (hx1 : ¬ x < (-99) ∧ ¬ 99 < x) (hb1 : ¬ (0 < n ∧ (¬ (S (58 + 65 * (n - 1) + 4 * v + 2 * q + f) + x) < (-900) ∧ ¬ 900 < (S (58 + 65 * (n - 1) + 4 * v + 2 * q + f) + x)))) : vx_Met l yX4_spoil (ws_ yX4_spoil cX4_spoil 7 (some .int)) ({ frames := 7, cells := 1, slots := 6, locals := 102 }) (va_Pc [.ref (ad 0), .int (nI v), .int (nI q), .int (nI f), .int x] (zXP D y [((ad 0), .inr (4, [.ref (ad 1), .ref (ad 8), .ref (ad 9), .ref (ad 10), .ref (ad 54), .ref (ad 59), .ref (ad 60), .int bn])), ((ad 1), .inr (2, [.ref (ad 2), .ref (ad 3), .ref (ad 4), .ref (ad 5), .ref (ad 6), .ref (ad 7), .int (S 0), .int (S 1), .int (S 4), .int (S 5)])), ((ad 2), .inl (y 0, 32, .inl (zT S))), ((ad 3), .inl (y 0, 16, .inl (zU S))), ((ad 4), .inl (y 0, 2, .inl (zB S))), ((ad 5), .inl (y 0, 3, .inl (zE S))), ((ad 6), .inl (y 0, 384, .inl (zR S))), ((ad 7), .inl (y 0, 6, .inl (zY S)))])) (fun _ _ _ _ => False) (zXC zIS) 1 6 (fun _ => False) := by
  refine vx_ofW (cc := cX4_spoil) (maxL := 7) (ret := (some .int)) (by decide) rfl ?_
  intro p e s m args below meth c s₁ B hml hnt hpre9
  obtain ⟨rfl, hZ, hP, hKN⟩ := hpre9
  have hK := hKN.1
  have hx := B.exec
  have hb := B.bytes
  have hr := B.returns
  have hts := atoms_spec (ws := (ws_ yX4_spoil cX4_spoil 7 (some .int))) B.pre
  have htg : ∀ w ∈ gT, w.before _ s = true := fun w h => hts w (List.mem_cons_of_mem _ h)
  have hown : s.vm.findClass RX4 = some m.cls := findClass_of_methodNamed B.named
  have hlocks := B.notSynchronized
  have hS : va_S (fun _ => False) s.heap s.heap [] := va_S.rf
  have hP : va_P D vwCl [((ad 0), .inr (4, [.ref (ad 1), .ref (ad 8), .ref (ad 9), .ref (ad 10), .ref (ad 54), .ref (ad 59), .ref (ad 60), .int bn])), ((ad 1), .inr (2, [.ref (ad 2), .ref (ad 3), .ref (ad 4), .ref (ad 5), .ref (ad 6), .ref (ad 7), .int (S 0), .int (S 1), .int (S 4), .int (S 5)])), ((ad 2), .inl (y 0, 32, .inl (zT S))), ((ad 3), .inl (y 0, 16, .inl (zU S))), ((ad 4), .inl (y 0, 2, .inl (zB S))), ((ad 5), .inl (y 0, 3, .inl (zE S))), ((ad 6), .inl (y 0, 384, .inl (zR S))), ((ad 7), .inl (y 0, 6, .inl (zY S)))] s.heap := hP
  have hl := lv_entry ([.ref (ad 0), .int (nI v), .int (nI q), .int (nI f), .int x]) (n := 7) (Nat.le_of_ble_eq_true rfl)
  rw [lg_entry_eq]
  generalize (lg_sl ([.ref (ad 0), .int (nI v), .int (nI q), .int (nI f), .int x]) ++ List.replicate (7 - (lg_sl ([.ref (ad 0), .int (nI v), .int (nI q), .int (nI f), .int x])).length) Slot.unset).toArray = ls at hl ⊢
  have hl : lv_has ls 7 [(0, .ref (ad 0)), (1, .int (nI v)), (2, .int (nI q)), (3, .int (nI f)), (4, .int x)] := hl
  refine lv_iload_n hx hb dX4_spoil_0 rfl (lv_at hl 1 rfl) ?_
  refine lv_bipush (v := 16) hx hb dX4_spoil_1 (by decide) ?_
  refine zr_callv (va_runS (As := [.int (nI v), .int 16]) (rest := []) ⟨hx, hb, hml, hown, hts⟩ (mX4_needIndex_i l (nI v) 16 (nI_pos (n := v) (by omega)) (nI_lt (a := v) (b := 16) (by omega) (by omega))) (va_cwS 2 hts (zgS tw_153 tw_154 tw_23 tw_155) rfl rfl rfl (by decide +kernel) ⟨Nat.le_of_ble_eq_true rfl, Nat.le_of_ble_eq_true rfl⟩) zP_pre rfl rfl hl.1 rfl (lv_room (Nat.le_of_ble_eq_true rfl)) dX4_spoil_3 ⟨Nat.zero_le _, Nat.zero_le _⟩) hS (fun H locs hw_3 hT hS => ?_)
  replace hP := hT _ _ hP
  refine lv_iload_n hx hb dX4_spoil_6 rfl (lv_at hl 2 rfl) ?_
  refine lv_iconst (v := 2) hx hb dX4_spoil_7 (by decide) ?_
  refine zr_callv (va_runS (As := [.int (nI q), .int 2]) (rest := []) ⟨hx, hb, hml, hown, hts⟩ (mX4_needIndex_i l (nI q) 2 (nI_pos (n := q) (by omega)) (nI_lt (a := q) (b := 2) (by omega) (by omega))) (va_cwS 2 hts (zgS tw_153 tw_154 tw_23 tw_155) rfl rfl rfl (by decide +kernel) ⟨Nat.le_of_ble_eq_true rfl, Nat.le_of_ble_eq_true rfl⟩) zP_pre rfl rfl hl.1 rfl (lv_room (Nat.le_of_ble_eq_true rfl)) dX4_spoil_8 ⟨Nat.zero_le _, Nat.zero_le _⟩) hS (fun H locs hw_8 hT hS => ?_)
  replace hP := hT _ _ hP
  refine lv_iload_n hx hb dX4_spoil_11 rfl (lv_at hl 3 rfl) ?_
  refine lv_iconst (v := 2) hx hb dX4_spoil_12 (by decide) ?_
  refine zr_callv (va_runS (As := [.int (nI f), .int 2]) (rest := []) ⟨hx, hb, hml, hown, hts⟩ (mX4_needIndex_i l (nI f) 2 (nI_pos (n := f) (by omega)) (nI_lt (a := f) (b := 2) (by omega) (by omega))) (va_cwS 2 hts (zgS tw_153 tw_154 tw_23 tw_155) rfl rfl rfl (by decide +kernel) ⟨Nat.le_of_ble_eq_true rfl, Nat.le_of_ble_eq_true rfl⟩) zP_pre rfl rfl hl.1 rfl (lv_room (Nat.le_of_ble_eq_true rfl)) dX4_spoil_13 ⟨Nat.zero_le _, Nat.zero_le _⟩) hS (fun H locs hw_13 hT hS => ?_)
  replace hP := hT _ _ hP
  refine lv_iload hx hb dX4_spoil_16 (lv_at hl 4 rfl) ?_
  refine lv_bipush (v := (-99)) hx hb dX4_spoil_18 (by decide) ?_
  refine lv_bipush (v := 99) hx hb dX4_spoil_20 (by decide) ?_
  refine zr_callv (va_runS (As := [.int x, .int (-99), .int 99]) (rest := []) ⟨hx, hb, hml, hown, hts⟩ (mX4_needRange l x (-99) 99 (hx1)) (va_cwS 3 hts (zgS tw_158 tw_159 tw_23 tw_160) rfl rfl rfl (by decide +kernel) ⟨Nat.le_of_ble_eq_true rfl, Nat.le_of_ble_eq_true rfl⟩) zP_pre rfl rfl hl.1 rfl (lv_room (Nat.le_of_ble_eq_true rfl)) dX4_spoil_22 ⟨Nat.zero_le _, Nat.zero_le _⟩) hS (fun H locs hw_22 hT hS => ?_)
  replace hP := hT _ _ hP
  refine lv_aload_n hx hb dX4_spoil_25 rfl (lv_at hl 0 rfl) ?_
  refine va_get (D := D) (ci := 4) (v := .ref (ad 1)) (C := RX4) (T := TX4) (N := 8) hx hb htg iX4 hown hK hP 0 rfl rfl 0 (by decide) (htg _ tw_127) (fun _ h9 => h9) rfl dX4_spoil_26 ?_
  refine va_get (D := D) (ci := 2) (v := .int (S 1)) (C := RX2) (T := TX2) (N := 10) hx hb htg iX2 hown hK hP 1 rfl rfl 7 (by decide) (htg _ tw_195) (fun _ h9 => h9) rfl dX4_spoil_29 ?_
  refine zz_top (y := nI n) (hS1) ?_
  refine lv_if_le (tgt := 39) hx hb dX4_spoil_32 (by decide) (fun c_32 => ?_) (fun c_32 => ?_)
  · replace c_32 : n ≤ 0 := (nI_leI (a := n) (b := 0) (by omega) (by omega)).mp c_32
    refine lv_iconst (v := 0) hx hb dX4_spoil_39 (by decide) ?_
    refine zx_call (vx_runS (As := [.int 0]) (rest := []) ⟨hx, hb, hml, hown, hts⟩ (mX4_needState_x l hl9 D y 0 (rfl)) (va_cwS 1 hts (zgS tw_189 tw_190 tw_23 tw_191) rfl rfl rfl (by decide +kernel) ⟨Nat.le_of_ble_eq_true rfl, Nat.le_of_ble_eq_true rfl⟩) (zXP_pre hKN hP hZ hS [] rfl) rfl rfl hl.1 rfl (lv_room (Nat.le_of_ble_eq_true rfl)) dX4_spoil_40 ⟨by first | exact Nat.le_of_ble_eq_true rfl | omega, by first | exact Nat.le_of_ble_eq_true rfl | omega⟩) hS (fun ce9 q9 H locs hT hS hce9 hcv9 hcl9 => ?_)
    exact vx_out (fun x hx => (hnt x hx).elim) hlocks hce9 hcv9 hcl9 (fun t h1 _ => ⟨rfl, hS.F h1⟩) hS.2.2 (Nat.le_of_ble_eq_true rfl) (Nat.le_of_ble_eq_true rfl)
  · replace c_32 : ¬ n ≤ 0 := fun h => c_32 ((nI_leI (a := n) (b := 0) (by omega) (by omega)).mpr h)
    refine lv_iconst (v := 1) hx hb dX4_spoil_35 (by decide) ?_
    refine lv_goto (tgt := 40) hx hb dX4_spoil_36 (by decide) ?_
    refine zr_callv (va_runS (As := [.int 1]) (rest := []) ⟨hx, hb, hml, hown, hts⟩ (mX4_needState l 1 (by decide)) (va_cwS 1 hts (zgS tw_189 tw_190 tw_23 tw_191) rfl rfl rfl (by decide +kernel) ⟨Nat.le_of_ble_eq_true rfl, Nat.le_of_ble_eq_true rfl⟩) zP_pre rfl rfl hl.1 rfl (lv_room (Nat.le_of_ble_eq_true rfl)) dX4_spoil_40 ⟨Nat.zero_le _, Nat.zero_le _⟩) hS (fun H locs hw_40 hT hS => ?_)
    replace hP := hT _ _ hP
    refine lv_aload_n hx hb dX4_spoil_43 rfl (lv_at hl 0 rfl) ?_
    refine va_get (D := D) (ci := 4) (v := .ref (ad 1)) (C := RX4) (T := TX4) (N := 8) hx hb htg iX4 hown hK hP 0 rfl rfl 0 (by decide) (htg _ tw_127) (fun _ h9 => h9) rfl dX4_spoil_44 ?_
    refine va_get (D := D) (ci := 2) (v := .int (S 1)) (C := RX2) (T := TX2) (N := 10) hx hb htg iX2 hown hK hP 1 rfl rfl 7 (by decide) (htg _ tw_195) (fun _ h9 => h9) rfl dX4_spoil_47 ?_
    refine zz_top (y := nI n) (hS1) ?_
    refine lv_iconst (v := 1) hx hb dX4_spoil_50 (by decide) ?_
    refine lv_isub hx hb dX4_spoil_51 ?_
    refine zz_top (y := nI (n - 1)) (pk_sub (a := n) (b := 1) (by omega)) ?_
    refine lv_iload_n hx hb dX4_spoil_52 rfl (lv_at hl 1 rfl) ?_
    refine lv_iload_n hx hb dX4_spoil_53 rfl (lv_at hl 2 rfl) ?_
    refine lv_iload_n hx hb dX4_spoil_54 rfl (lv_at hl 3 rfl) ?_
    refine zr_calli (va_runS (As := [.int (nI (n - 1)), .int (nI v), .int (nI q), .int (nI f)]) (rest := []) ⟨hx, hb, hml, hown, hts⟩ (mX4_readingAt l (n - 1) v q f) (va_cwS 4 hts (zgS tw_26 tw_27 tw_23 tw_28) rfl rfl rfl (by decide +kernel) ⟨Nat.le_of_ble_eq_true rfl, Nat.le_of_ble_eq_true rfl⟩) zP_pre rfl rfl hl.1 rfl (lv_room (Nat.le_of_ble_eq_true rfl)) dX4_spoil_55 ⟨Nat.zero_le _, Nat.zero_le _⟩) hS (fun r_1 H locs hw_55 hT hS => ?_)
    replace hP := hT _ _ hP
    obtain rfl : r_1 = nI (64 * (n - 1) + 4 * v + 2 * q + f) := hw_55
    refine lv_istore (lv' := [(5, .int (nI (64 * (n - 1) + 4 * v + 2 * q + f))), (0, .ref (ad 0)), (1, .int (nI v)), (2, .int (nI q)), (3, .int (nI f)), (4, .int x)]) hx hb dX4_spoil_58 hl (by decide) rfl (fun ls hl => ?_)
    refine lv_aload_n hx hb dX4_spoil_60 rfl (lv_at hl 1 rfl) ?_
    refine va_get (D := D) (ci := 4) (v := .ref (ad 1)) (C := RX4) (T := TX4) (N := 8) hx hb htg iX4 hown hK hP 0 rfl rfl 0 (by decide) (htg _ tw_127) (fun _ h9 => h9) rfl dX4_spoil_61 ?_
    refine va_get (D := D) (ci := 2) (v := .ref (ad 6)) (C := RX2) (T := TX2) (N := 10) hx hb htg iX2 hown hK hP 1 rfl rfl 4 (by decide) (htg _ tw_25) (fun _ h9 => h9) rfl dX4_spoil_64 ?_
    refine lv_iload hx hb dX4_spoil_67 (lv_at hl 0 rfl) ?_
    refine va_iald hx hb hK hP 6 0 rfl rfl (vp_in_nI (by omega) (by decide)) dX4_spoil_69 ?_
    refine zz_top (y := (zR S) (64 * (n - 1) + 4 * v + 2 * q + f)) (congrArg (zR S) (nI_clamp (by omega))) ?_
    refine zz_top (y := S (58 + 65 * (n - 1) + 4 * v + 2 * q + f)) (congrArg S (by omega)) ?_
    refine lv_iload hx hb dX4_spoil_70 (lv_at hl 5 rfl) ?_
    refine lv_iadd hx hb dX4_spoil_72 ?_
    refine lv_istore (lv' := [(6, .int ((S (58 + 65 * (n - 1) + 4 * v + 2 * q + f)) + x)), (5, .int (nI (64 * (n - 1) + 4 * v + 2 * q + f))), (0, .ref (ad 0)), (1, .int (nI v)), (2, .int (nI q)), (3, .int (nI f)), (4, .int x)]) hx hb dX4_spoil_73 hl (by decide) rfl (fun ls hl => ?_)
    refine lv_iload hx hb dX4_spoil_75 (lv_at hl 0 rfl) ?_
    refine lv_sipush (v := (-900)) hx hb dX4_spoil_77 (by decide) ?_
    refine lv_sipush (v := 900) hx hb dX4_spoil_80 (by decide) ?_
    refine zr_calli (va_runS (As := [.int ((S (58 + 65 * (n - 1) + 4 * v + 2 * q + f)) + x), .int (-900), .int 900]) (rest := []) ⟨hx, hb, hml, hown, hts⟩ (mX4_isWithin l ((S (58 + 65 * (n - 1) + 4 * v + 2 * q + f)) + x) (-900) 900) (va_cwS 3 hts (zgS tw_163 tw_164 tw_23 tw_165) rfl rfl rfl (by decide +kernel) ⟨Nat.le_of_ble_eq_true rfl, Nat.le_of_ble_eq_true rfl⟩) zP_pre rfl rfl hl.1 rfl (lv_room (Nat.le_of_ble_eq_true rfl)) dX4_spoil_83 ⟨Nat.zero_le _, Nat.zero_le _⟩) hS (fun r_2 H locs hw_83 hT hS => ?_)
    replace hP := hT _ _ hP
    obtain rfl : r_2 = (if ¬ ((S (58 + 65 * (n - 1) + 4 * v + 2 * q + f)) + x) < (-900) ∧ ¬ 900 < ((S (58 + 65 * (n - 1) + 4 * v + 2 * q + f)) + x) then (1 : Int32) else 0) := hw_83
    refine zx_call (vx_runS (As := [.int (if ¬ ((S (58 + 65 * (n - 1) + 4 * v + 2 * q + f)) + x) < (-900) ∧ ¬ 900 < ((S (58 + 65 * (n - 1) + 4 * v + 2 * q + f)) + x) then (1 : Int32) else 0)]) (rest := []) ⟨hx, hb, hml, hown, hts⟩ (mX4_needState_x l hl9 D y (if ¬ ((S (58 + 65 * (n - 1) + 4 * v + 2 * q + f)) + x) < (-900) ∧ ¬ 900 < ((S (58 + 65 * (n - 1) + 4 * v + 2 * q + f)) + x) then (1 : Int32) else 0) (zb0.mpr (fun h => hb1 ⟨by omega, h⟩))) (va_cwS 1 hts (zgS tw_189 tw_190 tw_23 tw_191) rfl rfl rfl (by decide +kernel) ⟨Nat.le_of_ble_eq_true rfl, Nat.le_of_ble_eq_true rfl⟩) (zXP_pre hKN hP hZ hS [] rfl) rfl rfl hl.1 rfl (lv_room (Nat.le_of_ble_eq_true rfl)) dX4_spoil_86 ⟨by first | exact Nat.le_of_ble_eq_true rfl | omega, by first | exact Nat.le_of_ble_eq_true rfl | omega⟩) hS (fun ce9 q9 H locs hT hS hce9 hcv9 hcl9 => ?_)
    exact vx_out (fun x hx => (hnt x hx).elim) hlocks hce9 hcv9 hcl9 (fun t h1 _ => ⟨rfl, hS.F h1⟩) hS.2.2 (Nat.le_of_ble_eq_true rfl) (Nat.le_of_ble_eq_true rfl)

set_option maxHeartbeats 4000000 in
set_option maxRecDepth 100000 in
theorem mX4_append_x1 (l : Launch) (hl9 : l.stackTraces = false) (D : va_G) (y : Nat → ClassId) (ad : Nat → Nat) (bn : Int32) (x : Int32) (hb1 : ¬ (¬ x < 33 ∧ ¬ 126 < x)) : vx_Met l yX4_append (ws_ yX4_append cX4_append 2 (some .int)) ({ frames := 7, cells := 1, slots := 6, locals := 104 }) (va_Pc [.ref (ad 0), .int x] (zXP D y [((ad 0), .inr (4, [.ref (ad 1), .ref (ad 8), .ref (ad 9), .ref (ad 10), .ref (ad 54), .ref (ad 59), .ref (ad 60), .int bn]))])) (fun _ _ _ _ => False) (zXC zIA) 1 6 (fun _ => False) := by
  refine vx_ofW (cc := cX4_append) (maxL := 2) (ret := (some .int)) (by decide) rfl ?_
  intro p e s m args below meth c s₁ B hml hnt hpre9
  obtain ⟨rfl, hZ, hP, hKN⟩ := hpre9
  have hK := hKN.1
  have hx := B.exec
  have hb := B.bytes
  have hr := B.returns
  have hts := atoms_spec (ws := (ws_ yX4_append cX4_append 2 (some .int))) B.pre
  have htg : ∀ w ∈ gT, w.before _ s = true := fun w h => hts w (List.mem_cons_of_mem _ h)
  have hown : s.vm.findClass RX4 = some m.cls := findClass_of_methodNamed B.named
  have hlocks := B.notSynchronized
  have hS : va_S (fun _ => False) s.heap s.heap [] := va_S.rf
  have hP : va_P D vwCl [((ad 0), .inr (4, [.ref (ad 1), .ref (ad 8), .ref (ad 9), .ref (ad 10), .ref (ad 54), .ref (ad 59), .ref (ad 60), .int bn]))] s.heap := hP
  have hl := lv_entry ([.ref (ad 0), .int x]) (n := 2) (Nat.le_of_ble_eq_true rfl)
  rw [lg_entry_eq]
  generalize (lg_sl ([.ref (ad 0), .int x]) ++ List.replicate (2 - (lg_sl ([.ref (ad 0), .int x])).length) Slot.unset).toArray = ls at hl ⊢
  have hl : lv_has ls 2 [(0, .ref (ad 0)), (1, .int x)] := hl
  refine lv_iload_n hx hb dX4_append_0 rfl (lv_at hl 1 rfl) ?_
  refine lv_bipush (v := 33) hx hb dX4_append_1 (by decide) ?_
  refine lv_bipush (v := 126) hx hb dX4_append_3 (by decide) ?_
  refine zx_call (vx_runS (As := [.int x, .int 33, .int 126]) (rest := []) ⟨hx, hb, hml, hown, hts⟩ (mX4_needRange_x l hl9 D y x 33 126 (hb1)) (va_cwS 3 hts (zgS tw_158 tw_159 tw_23 tw_160) rfl rfl rfl (by decide +kernel) ⟨Nat.le_of_ble_eq_true rfl, Nat.le_of_ble_eq_true rfl⟩) (zXP_pre hKN hP hZ hS [] rfl) rfl rfl hl.1 rfl (lv_room (Nat.le_of_ble_eq_true rfl)) dX4_append_5 ⟨by first | exact Nat.le_of_ble_eq_true rfl | omega, by first | exact Nat.le_of_ble_eq_true rfl | omega⟩) hS (fun ce9 q9 H locs hT hS hce9 hcv9 hcl9 => ?_)
  exact vx_out (fun x hx => (hnt x hx).elim) hlocks hce9 hcv9 hcl9 (fun t h1 _ => ⟨rfl, hS.F h1⟩) hS.2.2 (Nat.le_of_ble_eq_true rfl) (Nat.le_of_ble_eq_true rfl)

set_option maxHeartbeats 4000000 in
set_option maxRecDepth 100000 in
theorem mX4_append_x2 (l : Launch) (hl9 : l.stackTraces = false) (D : va_G) (y : Nat → ClassId) (ad : Nat → Nat) (ln : Nat) (x : Int32) (h1 : ¬ x < 33 ∧ ¬ 126 < x) (hl9c : ln = 60) : vx_Met l yX4_append (ws_ yX4_append cX4_append 2 (some .int)) ({ frames := 7, cells := 1, slots := 6, locals := 102 }) (va_Pc [.ref (ad 0), .int x] (zXP D y [((ad 0), .inr (4, [.ref (ad 1), .ref (ad 8), .ref (ad 9), .ref (ad 10), .ref (ad 54), .ref (ad 59), .ref (ad 60), .int (nI ln)]))])) (fun _ _ _ _ => False) (zXC zIS) 1 6 (fun _ => False) := by
  refine vx_ofW (cc := cX4_append) (maxL := 2) (ret := (some .int)) (by decide) rfl ?_
  intro p e s m args below meth c s₁ B hml hnt hpre9
  obtain ⟨rfl, hZ, hP, hKN⟩ := hpre9
  have hK := hKN.1
  have hx := B.exec
  have hb := B.bytes
  have hr := B.returns
  have hts := atoms_spec (ws := (ws_ yX4_append cX4_append 2 (some .int))) B.pre
  have htg : ∀ w ∈ gT, w.before _ s = true := fun w h => hts w (List.mem_cons_of_mem _ h)
  have hown : s.vm.findClass RX4 = some m.cls := findClass_of_methodNamed B.named
  have hlocks := B.notSynchronized
  have hS : va_S (fun _ => False) s.heap s.heap [] := va_S.rf
  have hP : va_P D vwCl [((ad 0), .inr (4, [.ref (ad 1), .ref (ad 8), .ref (ad 9), .ref (ad 10), .ref (ad 54), .ref (ad 59), .ref (ad 60), .int (nI ln)]))] s.heap := hP
  have hl := lv_entry ([.ref (ad 0), .int x]) (n := 2) (Nat.le_of_ble_eq_true rfl)
  rw [lg_entry_eq]
  generalize (lg_sl ([.ref (ad 0), .int x]) ++ List.replicate (2 - (lg_sl ([.ref (ad 0), .int x])).length) Slot.unset).toArray = ls at hl ⊢
  have hl : lv_has ls 2 [(0, .ref (ad 0)), (1, .int x)] := hl
  refine lv_iload_n hx hb dX4_append_0 rfl (lv_at hl 1 rfl) ?_
  refine lv_bipush (v := 33) hx hb dX4_append_1 (by decide) ?_
  refine lv_bipush (v := 126) hx hb dX4_append_3 (by decide) ?_
  refine zr_callv (va_runS (As := [.int x, .int 33, .int 126]) (rest := []) ⟨hx, hb, hml, hown, hts⟩ (mX4_needRange l x 33 126 (h1)) (va_cwS 3 hts (zgS tw_158 tw_159 tw_23 tw_160) rfl rfl rfl (by decide +kernel) ⟨Nat.le_of_ble_eq_true rfl, Nat.le_of_ble_eq_true rfl⟩) zP_pre rfl rfl hl.1 rfl (lv_room (Nat.le_of_ble_eq_true rfl)) dX4_append_5 ⟨Nat.zero_le _, Nat.zero_le _⟩) hS (fun H locs hw_5 hT hS => ?_)
  replace hP := hT _ _ hP
  refine lv_aload_n hx hb dX4_append_8 rfl (lv_at hl 0 rfl) ?_
  refine va_get (D := D) (ci := 4) (v := .int (nI ln)) (C := RX4) (T := TX4) (N := 8) hx hb htg iX4 hown hK hP 0 rfl rfl 7 (by decide) (htg _ tw_143) (fun _ h9 => h9) rfl dX4_append_9 ?_
  refine lv_bipush (v := 60) hx hb dX4_append_12 (by decide) ?_
  refine lv_icmp_ge (tgt := 21) hx hb dX4_append_14 (by decide) (fun _ => ?_) (fun c_14 => absurd (by rw [hl9c]; decide) c_14)
  refine lv_iconst (v := 0) hx hb dX4_append_21 (by decide) ?_
  refine zx_call (vx_runS (As := [.int 0]) (rest := []) ⟨hx, hb, hml, hown, hts⟩ (mX4_needState_x l hl9 D y 0 (rfl)) (va_cwS 1 hts (zgS tw_189 tw_190 tw_23 tw_191) rfl rfl rfl (by decide +kernel) ⟨Nat.le_of_ble_eq_true rfl, Nat.le_of_ble_eq_true rfl⟩) (zXP_pre hKN hP hZ hS [] rfl) rfl rfl hl.1 rfl (lv_room (Nat.le_of_ble_eq_true rfl)) dX4_append_22 ⟨by first | exact Nat.le_of_ble_eq_true rfl | omega, by first | exact Nat.le_of_ble_eq_true rfl | omega⟩) hS (fun ce9 q9 H locs hT hS hce9 hcv9 hcl9 => ?_)
  exact vx_out (fun x hx => (hnt x hx).elim) hlocks hce9 hcv9 hcl9 (fun t h1 _ => ⟨rfl, hS.F h1⟩) hS.2.2 (Nat.le_of_ble_eq_true rfl) (Nat.le_of_ble_eq_true rfl)

set_option maxHeartbeats 4000000 in
set_option maxRecDepth 100000 in
theorem mX4_keep_x1 (l : Launch) (hl9 : l.stackTraces = false) (D : va_G) (y : Nat → ClassId) (ad : Nat → Nat) (bn : Int32) (x : Int32) (hb1 : ¬ (¬ x < 0 ∧ ¬ 1 < x)) : vx_Met l yX4_keep (ws_ yX4_keep cX4_keep 2 (some .int)) ({ frames := 7, cells := 1, slots := 6, locals := 104 }) (va_Pc [.ref (ad 0), .int x] (zXP D y [((ad 0), .inr (4, [.ref (ad 1), .ref (ad 8), .ref (ad 9), .ref (ad 10), .ref (ad 54), .ref (ad 59), .ref (ad 60), .int bn]))])) (fun _ _ _ _ => False) (zXC zIA) 1 6 (fun _ => False) := by
  refine vx_ofW (cc := cX4_keep) (maxL := 2) (ret := (some .int)) (by decide) rfl ?_
  intro p e s m args below meth c s₁ B hml hnt hpre9
  obtain ⟨rfl, hZ, hP, hKN⟩ := hpre9
  have hK := hKN.1
  have hx := B.exec
  have hb := B.bytes
  have hr := B.returns
  have hts := atoms_spec (ws := (ws_ yX4_keep cX4_keep 2 (some .int))) B.pre
  have htg : ∀ w ∈ gT, w.before _ s = true := fun w h => hts w (List.mem_cons_of_mem _ h)
  have hown : s.vm.findClass RX4 = some m.cls := findClass_of_methodNamed B.named
  have hlocks := B.notSynchronized
  have hS : va_S (fun _ => False) s.heap s.heap [] := va_S.rf
  have hP : va_P D vwCl [((ad 0), .inr (4, [.ref (ad 1), .ref (ad 8), .ref (ad 9), .ref (ad 10), .ref (ad 54), .ref (ad 59), .ref (ad 60), .int bn]))] s.heap := hP
  have hl := lv_entry ([.ref (ad 0), .int x]) (n := 2) (Nat.le_of_ble_eq_true rfl)
  rw [lg_entry_eq]
  generalize (lg_sl ([.ref (ad 0), .int x]) ++ List.replicate (2 - (lg_sl ([.ref (ad 0), .int x])).length) Slot.unset).toArray = ls at hl ⊢
  have hl : lv_has ls 2 [(0, .ref (ad 0)), (1, .int x)] := hl
  refine lv_iload_n hx hb dX4_keep_0 rfl (lv_at hl 1 rfl) ?_
  refine lv_iconst (v := 0) hx hb dX4_keep_1 (by decide) ?_
  refine lv_iconst (v := 1) hx hb dX4_keep_2 (by decide) ?_
  refine zx_call (vx_runS (As := [.int x, .int 0, .int 1]) (rest := []) ⟨hx, hb, hml, hown, hts⟩ (mX4_needRange_x l hl9 D y x 0 1 (hb1)) (va_cwS 3 hts (zgS tw_158 tw_159 tw_23 tw_160) rfl rfl rfl (by decide +kernel) ⟨Nat.le_of_ble_eq_true rfl, Nat.le_of_ble_eq_true rfl⟩) (zXP_pre hKN hP hZ hS [] rfl) rfl rfl hl.1 rfl (lv_room (Nat.le_of_ble_eq_true rfl)) dX4_keep_3 ⟨by first | exact Nat.le_of_ble_eq_true rfl | omega, by first | exact Nat.le_of_ble_eq_true rfl | omega⟩) hS (fun ce9 q9 H locs hT hS hce9 hcv9 hcl9 => ?_)
  exact vx_out (fun x hx => (hnt x hx).elim) hlocks hce9 hcv9 hcl9 (fun t h1 _ => ⟨rfl, hS.F h1⟩) hS.2.2 (Nat.le_of_ble_eq_true rfl) (Nat.le_of_ble_eq_true rfl)

set_option maxHeartbeats 4000000 in
set_option maxRecDepth 100000 in
theorem mX4_goBack_x1 (l : Launch) (hl9 : l.stackTraces = false) (D : va_G) (y : Nat → ClassId) (ad : Nat → Nat) (bn : Int32) (x : Int32) (hb1 : ¬ (¬ x < 0 ∧ ¬ 1 < x)) : vx_Met l yX4_goBack (ws_ yX4_goBack cX4_goBack 2 (some .int)) ({ frames := 7, cells := 1, slots := 6, locals := 104 }) (va_Pc [.ref (ad 0), .int x] (zXP D y [((ad 0), .inr (4, [.ref (ad 1), .ref (ad 8), .ref (ad 9), .ref (ad 10), .ref (ad 54), .ref (ad 59), .ref (ad 60), .int bn]))])) (fun _ _ _ _ => False) (zXC zIA) 1 6 (fun _ => False) := by
  refine vx_ofW (cc := cX4_goBack) (maxL := 2) (ret := (some .int)) (by decide) rfl ?_
  intro p e s m args below meth c s₁ B hml hnt hpre9
  obtain ⟨rfl, hZ, hP, hKN⟩ := hpre9
  have hK := hKN.1
  have hx := B.exec
  have hb := B.bytes
  have hr := B.returns
  have hts := atoms_spec (ws := (ws_ yX4_goBack cX4_goBack 2 (some .int))) B.pre
  have htg : ∀ w ∈ gT, w.before _ s = true := fun w h => hts w (List.mem_cons_of_mem _ h)
  have hown : s.vm.findClass RX4 = some m.cls := findClass_of_methodNamed B.named
  have hlocks := B.notSynchronized
  have hS : va_S (fun _ => False) s.heap s.heap [] := va_S.rf
  have hP : va_P D vwCl [((ad 0), .inr (4, [.ref (ad 1), .ref (ad 8), .ref (ad 9), .ref (ad 10), .ref (ad 54), .ref (ad 59), .ref (ad 60), .int bn]))] s.heap := hP
  have hl := lv_entry ([.ref (ad 0), .int x]) (n := 2) (Nat.le_of_ble_eq_true rfl)
  rw [lg_entry_eq]
  generalize (lg_sl ([.ref (ad 0), .int x]) ++ List.replicate (2 - (lg_sl ([.ref (ad 0), .int x])).length) Slot.unset).toArray = ls at hl ⊢
  have hl : lv_has ls 2 [(0, .ref (ad 0)), (1, .int x)] := hl
  refine lv_iload_n hx hb dX4_goBack_0 rfl (lv_at hl 1 rfl) ?_
  refine lv_iconst (v := 0) hx hb dX4_goBack_1 (by decide) ?_
  refine lv_iconst (v := 1) hx hb dX4_goBack_2 (by decide) ?_
  refine zx_call (vx_runS (As := [.int x, .int 0, .int 1]) (rest := []) ⟨hx, hb, hml, hown, hts⟩ (mX4_needRange_x l hl9 D y x 0 1 (hb1)) (va_cwS 3 hts (zgS tw_158 tw_159 tw_23 tw_160) rfl rfl rfl (by decide +kernel) ⟨Nat.le_of_ble_eq_true rfl, Nat.le_of_ble_eq_true rfl⟩) (zXP_pre hKN hP hZ hS [] rfl) rfl rfl hl.1 rfl (lv_room (Nat.le_of_ble_eq_true rfl)) dX4_goBack_3 ⟨by first | exact Nat.le_of_ble_eq_true rfl | omega, by first | exact Nat.le_of_ble_eq_true rfl | omega⟩) hS (fun ce9 q9 H locs hT hS hce9 hcv9 hcl9 => ?_)
  exact vx_out (fun x hx => (hnt x hx).elim) hlocks hce9 hcv9 hcl9 (fun t h1 _ => ⟨rfl, hS.F h1⟩) hS.2.2 (Nat.le_of_ble_eq_true rfl) (Nat.le_of_ble_eq_true rfl)

set_option maxHeartbeats 4000000 in
set_option maxRecDepth 100000 in
theorem mX4_goBack_x2 (l : Launch) (hl9 : l.stackTraces = false) (D : va_G) (y : Nat → ClassId) (ad : Nat → Nat) (bn : Int32) (hd : Nat → Int32) (j : Nat) (hj : j < 2) (hb1 : hd j = 0) : vx_Met l yX4_goBack (ws_ yX4_goBack cX4_goBack 2 (some .int)) ({ frames := 7, cells := 1, slots := 6, locals := 102 }) (va_Pc [.ref (ad 0), .int (nI j)] (zXP D y [((ad 0), .inr (4, [.ref (ad 1), .ref (ad 8), .ref (ad 9), .ref (ad 10), .ref (ad 54), .ref (ad 59), .ref (ad 60), .int bn])), ((ad 9), .inl (y 2, 2, .inl hd))])) (fun _ _ _ _ => False) (zXC zIS) 1 6 (fun _ => False) := by
  refine vx_ofW (cc := cX4_goBack) (maxL := 2) (ret := (some .int)) (by decide) rfl ?_
  intro p e s m args below meth c s₁ B hml hnt hpre9
  obtain ⟨rfl, hZ, hP, hKN⟩ := hpre9
  have hK := hKN.1
  have hx := B.exec
  have hb := B.bytes
  have hr := B.returns
  have hts := atoms_spec (ws := (ws_ yX4_goBack cX4_goBack 2 (some .int))) B.pre
  have htg : ∀ w ∈ gT, w.before _ s = true := fun w h => hts w (List.mem_cons_of_mem _ h)
  have hown : s.vm.findClass RX4 = some m.cls := findClass_of_methodNamed B.named
  have hlocks := B.notSynchronized
  have hS : va_S (fun _ => False) s.heap s.heap [] := va_S.rf
  have hP : va_P D vwCl [((ad 0), .inr (4, [.ref (ad 1), .ref (ad 8), .ref (ad 9), .ref (ad 10), .ref (ad 54), .ref (ad 59), .ref (ad 60), .int bn])), ((ad 9), .inl (y 2, 2, .inl hd))] s.heap := hP
  have hl := lv_entry ([.ref (ad 0), .int (nI j)]) (n := 2) (Nat.le_of_ble_eq_true rfl)
  rw [lg_entry_eq]
  generalize (lg_sl ([.ref (ad 0), .int (nI j)]) ++ List.replicate (2 - (lg_sl ([.ref (ad 0), .int (nI j)])).length) Slot.unset).toArray = ls at hl ⊢
  have hl : lv_has ls 2 [(0, .ref (ad 0)), (1, .int (nI j))] := hl
  refine lv_iload_n hx hb dX4_goBack_0 rfl (lv_at hl 1 rfl) ?_
  refine lv_iconst (v := 0) hx hb dX4_goBack_1 (by decide) ?_
  refine lv_iconst (v := 1) hx hb dX4_goBack_2 (by decide) ?_
  refine zr_callv (va_runS (As := [.int (nI j), .int 0, .int 1]) (rest := []) ⟨hx, hb, hml, hown, hts⟩ (mX4_needRange l (nI j) 0 1 (⟨nI_pos (n := j) (by omega), nI_nlt (a := 1) (b := j) (by omega) (by omega)⟩)) (va_cwS 3 hts (zgS tw_158 tw_159 tw_23 tw_160) rfl rfl rfl (by decide +kernel) ⟨Nat.le_of_ble_eq_true rfl, Nat.le_of_ble_eq_true rfl⟩) zP_pre rfl rfl hl.1 rfl (lv_room (Nat.le_of_ble_eq_true rfl)) dX4_goBack_3 ⟨Nat.zero_le _, Nat.zero_le _⟩) hS (fun H locs hw_3 hT hS => ?_)
  replace hP := hT _ _ hP
  refine lv_aload_n hx hb dX4_goBack_6 rfl (lv_at hl 0 rfl) ?_
  refine va_get (D := D) (ci := 4) (v := .ref (ad 9)) (C := RX4) (T := TX4) (N := 8) hx hb htg iX4 hown hK hP 0 rfl rfl 2 (by decide) (htg _ tw_130) (fun _ h9 => h9) rfl dX4_goBack_7 ?_
  refine lv_iload_n hx hb dX4_goBack_10 rfl (lv_at hl 1 rfl) ?_
  refine va_zald hx hb hK hP 1 2 rfl rfl (vp_in_nI (by omega) (by decide)) dX4_goBack_11 ?_
  refine zz_top (y := hd j) (congrArg hd (nI_clamp (by omega))) ?_
  refine zx_call (vx_runS (As := [.int (hd j)]) (rest := []) ⟨hx, hb, hml, hown, hts⟩ (mX4_needState_x l hl9 D y (hd j) (hb1)) (va_cwS 1 hts (zgS tw_189 tw_190 tw_23 tw_191) rfl rfl rfl (by decide +kernel) ⟨Nat.le_of_ble_eq_true rfl, Nat.le_of_ble_eq_true rfl⟩) (zXP_pre hKN hP hZ hS [] rfl) rfl rfl hl.1 rfl (lv_room (Nat.le_of_ble_eq_true rfl)) dX4_goBack_12 ⟨by first | exact Nat.le_of_ble_eq_true rfl | omega, by first | exact Nat.le_of_ble_eq_true rfl | omega⟩) hS (fun ce9 q9 H locs hT hS hce9 hcv9 hcl9 => ?_)
  exact vx_out (fun x hx => (hnt x hx).elim) hlocks hce9 hcv9 hcl9 (fun t h1 _ => ⟨rfl, hS.F h1⟩) hS.2.2 (Nat.le_of_ble_eq_true rfl) (Nat.le_of_ble_eq_true rfl)

set_option maxHeartbeats 4000000 in
set_option maxRecDepth 100000 in
theorem mX4_undo_x1 (l : Launch) (hl9 : l.stackTraces = false) (D : va_G) (y : Nat → ClassId) (ad : Nat → Nat) (bn : Int32) (ro : Nat) (rv : Nat) (hv0 : rv = 0) : vx_Met l yX4_undo (ws_ yX4_undo cX4_undo 1 (some .int)) ({ frames := 7, cells := 1, slots := 6, locals := 102 }) (va_Pc [.ref (ad 0)] (zXP D y [((ad 0), .inr (4, [.ref (ad 1), .ref (ad 8), .ref (ad 9), .ref (ad 10), .ref (ad 54), .ref (ad 59), .ref (ad 60), .int bn])), ((ad 10), .inr (1, [.ref (ad 11), .int (nI ro), .int (nI rv)]))])) (fun _ _ _ _ => False) (zXC zIS) 1 6 (fun _ => False) := by
  refine vx_ofW (cc := cX4_undo) (maxL := 1) (ret := (some .int)) (by decide) rfl ?_
  intro p e s m args below meth c s₁ B hml hnt hpre9
  obtain ⟨rfl, hZ, hP, hKN⟩ := hpre9
  have hK := hKN.1
  have hx := B.exec
  have hb := B.bytes
  have hr := B.returns
  have hts := atoms_spec (ws := (ws_ yX4_undo cX4_undo 1 (some .int))) B.pre
  have htg : ∀ w ∈ gT, w.before _ s = true := fun w h => hts w (List.mem_cons_of_mem _ h)
  have hown : s.vm.findClass RX4 = some m.cls := findClass_of_methodNamed B.named
  have hlocks := B.notSynchronized
  have hS : va_S (fun _ => False) s.heap s.heap [] := va_S.rf
  have hP : va_P D vwCl [((ad 0), .inr (4, [.ref (ad 1), .ref (ad 8), .ref (ad 9), .ref (ad 10), .ref (ad 54), .ref (ad 59), .ref (ad 60), .int bn])), ((ad 10), .inr (1, [.ref (ad 11), .int (nI ro), .int (nI rv)]))] s.heap := hP
  have hl := lv_entry ([.ref (ad 0)]) (n := 1) (Nat.le_of_ble_eq_true rfl)
  rw [lg_entry_eq]
  generalize (lg_sl ([.ref (ad 0)]) ++ List.replicate (1 - (lg_sl ([.ref (ad 0)])).length) Slot.unset).toArray = ls at hl ⊢
  have hl : lv_has ls 1 [(0, .ref (ad 0))] := hl
  refine lv_aload_n hx hb dX4_undo_0 rfl (lv_at hl 0 rfl) ?_
  refine va_get (D := D) (ci := 4) (v := .ref (ad 10)) (C := RX4) (T := TX4) (N := 8) hx hb htg iX4 hown hK hP 0 rfl rfl 3 (by decide) (htg _ tw_134) (fun _ h9 => h9) rfl dX4_undo_1 ?_
  refine va_get (D := D) (ci := 1) (v := .int (nI rv)) (C := RX1) (T := TX1) (N := 3) hx hb htg iX1 hown hK hP 1 rfl rfl 2 (by decide) (htg _ tw_243) (fun _ h9 => h9) rfl dX4_undo_4 ?_
  refine lv_if_le (tgt := 14) hx hb dX4_undo_7 (by decide) (fun _ => ?_) (fun c_7 => absurd (by rw [hv0]; decide) c_7)
  refine lv_iconst (v := 0) hx hb dX4_undo_14 (by decide) ?_
  refine zx_call (vx_runS (As := [.int 0]) (rest := []) ⟨hx, hb, hml, hown, hts⟩ (mX4_needState_x l hl9 D y 0 (rfl)) (va_cwS 1 hts (zgS tw_189 tw_190 tw_23 tw_191) rfl rfl rfl (by decide +kernel) ⟨Nat.le_of_ble_eq_true rfl, Nat.le_of_ble_eq_true rfl⟩) (zXP_pre hKN hP hZ hS [] rfl) rfl rfl hl.1 rfl (lv_room (Nat.le_of_ble_eq_true rfl)) dX4_undo_15 ⟨by first | exact Nat.le_of_ble_eq_true rfl | omega, by first | exact Nat.le_of_ble_eq_true rfl | omega⟩) hS (fun ce9 q9 H locs hT hS hce9 hcv9 hcl9 => ?_)
  exact vx_out (fun x hx => (hnt x hx).elim) hlocks hce9 hcv9 hcl9 (fun t h1 _ => ⟨rfl, hS.F h1⟩) hS.2.2 (Nat.le_of_ble_eq_true rfl) (Nat.le_of_ble_eq_true rfl)

set_option maxHeartbeats 4000000 in
set_option maxRecDepth 100000 in
theorem mX4_levelOf_x1 (l : Launch) (hl9 : l.stackTraces = false) (D : va_G) (y : Nat → ClassId) (ad : Nat → Nat) (bn : Int32) (v : Int32) (x : Int32) (hb1 : ¬ (¬ v < 0 ∧ ¬ 15 < v)) : vx_Met l yX4_levelOf (ws_ yX4_levelOf cX4_levelOf 3 (some .int)) ({ frames := 7, cells := 1, slots := 6, locals := 103 }) (va_Pc [.ref (ad 0), .int v, .int x] (zXP D y [((ad 0), .inr (4, [.ref (ad 1), .ref (ad 8), .ref (ad 9), .ref (ad 10), .ref (ad 54), .ref (ad 59), .ref (ad 60), .int bn]))])) (fun _ _ _ _ => False) (zXC zIO) 1 6 (fun _ => False) := by
  refine vx_ofW (cc := cX4_levelOf) (maxL := 3) (ret := (some .int)) (by decide) rfl ?_
  intro p e s m args below meth c s₁ B hml hnt hpre9
  obtain ⟨rfl, hZ, hP, hKN⟩ := hpre9
  have hK := hKN.1
  have hx := B.exec
  have hb := B.bytes
  have hr := B.returns
  have hts := atoms_spec (ws := (ws_ yX4_levelOf cX4_levelOf 3 (some .int))) B.pre
  have htg : ∀ w ∈ gT, w.before _ s = true := fun w h => hts w (List.mem_cons_of_mem _ h)
  have hown : s.vm.findClass RX4 = some m.cls := findClass_of_methodNamed B.named
  have hlocks := B.notSynchronized
  have hS : va_S (fun _ => False) s.heap s.heap [] := va_S.rf
  have hP : va_P D vwCl [((ad 0), .inr (4, [.ref (ad 1), .ref (ad 8), .ref (ad 9), .ref (ad 10), .ref (ad 54), .ref (ad 59), .ref (ad 60), .int bn]))] s.heap := hP
  have hl := lv_entry ([.ref (ad 0), .int v, .int x]) (n := 3) (Nat.le_of_ble_eq_true rfl)
  rw [lg_entry_eq]
  generalize (lg_sl ([.ref (ad 0), .int v, .int x]) ++ List.replicate (3 - (lg_sl ([.ref (ad 0), .int v, .int x])).length) Slot.unset).toArray = ls at hl ⊢
  have hl : lv_has ls 3 [(0, .ref (ad 0)), (1, .int v), (2, .int x)] := hl
  refine lv_iload_n hx hb dX4_levelOf_0 rfl (lv_at hl 1 rfl) ?_
  refine lv_bipush (v := 16) hx hb dX4_levelOf_1 (by decide) ?_
  refine zx_call (vx_runS (As := [.int v, .int 16]) (rest := []) ⟨hx, hb, hml, hown, hts⟩ (mX4_needIndex_x l hl9 D y v 16 (zix_x (hb1))) (va_cwS 2 hts (zgS tw_153 tw_154 tw_23 tw_155) rfl rfl rfl (by decide +kernel) ⟨Nat.le_of_ble_eq_true rfl, Nat.le_of_ble_eq_true rfl⟩) (zXP_pre hKN hP hZ hS [] rfl) rfl rfl hl.1 rfl (lv_room (Nat.le_of_ble_eq_true rfl)) dX4_levelOf_3 ⟨by first | exact Nat.le_of_ble_eq_true rfl | omega, by first | exact Nat.le_of_ble_eq_true rfl | omega⟩) hS (fun ce9 q9 H locs hT hS hce9 hcv9 hcl9 => ?_)
  exact vx_out (fun x hx => (hnt x hx).elim) hlocks hce9 hcv9 hcl9 (fun t h1 _ => ⟨rfl, hS.F h1⟩) hS.2.2 (Nat.le_of_ble_eq_true rfl) (Nat.le_of_ble_eq_true rfl)

set_option maxHeartbeats 4000000 in
set_option maxRecDepth 100000 in
theorem mX4_levelOf_x2 (l : Launch) (hl9 : l.stackTraces = false) (D : va_G) (y : Nat → ClassId) (ad : Nat → Nat) (bn : Int32) (v : Int32) (x : Int32) (h1 : ¬ v < 0 ∧ ¬ 15 < v) (hb1 : ¬ (¬ x < 0 ∧ ¬ 6 < x)) : vx_Met l yX4_levelOf (ws_ yX4_levelOf cX4_levelOf 3 (some .int)) ({ frames := 7, cells := 1, slots := 6, locals := 104 }) (va_Pc [.ref (ad 0), .int v, .int x] (zXP D y [((ad 0), .inr (4, [.ref (ad 1), .ref (ad 8), .ref (ad 9), .ref (ad 10), .ref (ad 54), .ref (ad 59), .ref (ad 60), .int bn]))])) (fun _ _ _ _ => False) (zXC zIA) 1 6 (fun _ => False) := by
  refine vx_ofW (cc := cX4_levelOf) (maxL := 3) (ret := (some .int)) (by decide) rfl ?_
  intro p e s m args below meth c s₁ B hml hnt hpre9
  obtain ⟨rfl, hZ, hP, hKN⟩ := hpre9
  have hK := hKN.1
  have hx := B.exec
  have hb := B.bytes
  have hr := B.returns
  have hts := atoms_spec (ws := (ws_ yX4_levelOf cX4_levelOf 3 (some .int))) B.pre
  have htg : ∀ w ∈ gT, w.before _ s = true := fun w h => hts w (List.mem_cons_of_mem _ h)
  have hown : s.vm.findClass RX4 = some m.cls := findClass_of_methodNamed B.named
  have hlocks := B.notSynchronized
  have hS : va_S (fun _ => False) s.heap s.heap [] := va_S.rf
  have hP : va_P D vwCl [((ad 0), .inr (4, [.ref (ad 1), .ref (ad 8), .ref (ad 9), .ref (ad 10), .ref (ad 54), .ref (ad 59), .ref (ad 60), .int bn]))] s.heap := hP
  have hl := lv_entry ([.ref (ad 0), .int v, .int x]) (n := 3) (Nat.le_of_ble_eq_true rfl)
  rw [lg_entry_eq]
  generalize (lg_sl ([.ref (ad 0), .int v, .int x]) ++ List.replicate (3 - (lg_sl ([.ref (ad 0), .int v, .int x])).length) Slot.unset).toArray = ls at hl ⊢
  have hl : lv_has ls 3 [(0, .ref (ad 0)), (1, .int v), (2, .int x)] := hl
  refine lv_iload_n hx hb dX4_levelOf_0 rfl (lv_at hl 1 rfl) ?_
  refine lv_bipush (v := 16) hx hb dX4_levelOf_1 (by decide) ?_
  refine zr_callv (va_runS (As := [.int v, .int 16]) (rest := []) ⟨hx, hb, hml, hown, hts⟩ (mX4_needIndex_i l v 16 ((h1).1) (zix_i (h1).2)) (va_cwS 2 hts (zgS tw_153 tw_154 tw_23 tw_155) rfl rfl rfl (by decide +kernel) ⟨Nat.le_of_ble_eq_true rfl, Nat.le_of_ble_eq_true rfl⟩) zP_pre rfl rfl hl.1 rfl (lv_room (Nat.le_of_ble_eq_true rfl)) dX4_levelOf_3 ⟨Nat.zero_le _, Nat.zero_le _⟩) hS (fun H locs hw_3 hT hS => ?_)
  replace hP := hT _ _ hP
  refine lv_iload_n hx hb dX4_levelOf_6 rfl (lv_at hl 2 rfl) ?_
  refine lv_iconst (v := 0) hx hb dX4_levelOf_7 (by decide) ?_
  refine lv_bipush (v := 6) hx hb dX4_levelOf_8 (by decide) ?_
  refine zx_call (vx_runS (As := [.int x, .int 0, .int 6]) (rest := []) ⟨hx, hb, hml, hown, hts⟩ (mX4_needRange_x l hl9 D y x 0 6 (hb1)) (va_cwS 3 hts (zgS tw_158 tw_159 tw_23 tw_160) rfl rfl rfl (by decide +kernel) ⟨Nat.le_of_ble_eq_true rfl, Nat.le_of_ble_eq_true rfl⟩) (zXP_pre hKN hP hZ hS [] rfl) rfl rfl hl.1 rfl (lv_room (Nat.le_of_ble_eq_true rfl)) dX4_levelOf_10 ⟨by first | exact Nat.le_of_ble_eq_true rfl | omega, by first | exact Nat.le_of_ble_eq_true rfl | omega⟩) hS (fun ce9 q9 H locs hT hS hce9 hcv9 hcl9 => ?_)
  exact vx_out (fun x hx => (hnt x hx).elim) hlocks hce9 hcv9 hcl9 (fun t h1 _ => ⟨rfl, hS.F h1⟩) hS.2.2 (Nat.le_of_ble_eq_true rfl) (Nat.le_of_ble_eq_true rfl)

set_option maxHeartbeats 4000000 in
set_option maxRecDepth 100000 in
theorem mX4_reading_x1 (l : Launch) (hl9 : l.stackTraces = false) (D : va_G) (y : Nat → ClassId) (ad : Nat → Nat) (S : Nat → Int32) (bn : Int32) (n : Nat) (k : Int32) (v : Int32) (o : Int32) (w9 : Int32) (hS1 : S 1 = nI n) (hn6 : n ≤ 6) (hb1 : ¬ ((¬ k < 0 ∧ ¬ (S 1 - 1) < k) ∧ (¬ v < 0 ∧ ¬ 15 < v) ∧ (¬ o < 0 ∧ ¬ 1 < o))) : vx_Met l yX4_reading (ws_ yX4_reading cX4_reading 5 (some .int)) ({ frames := 7, cells := 1, slots := 6, locals := 103 }) (va_Pc [.ref (ad 0), .int k, .int v, .int o, .int w9] (zXP D y [((ad 0), .inr (4, [.ref (ad 1), .ref (ad 8), .ref (ad 9), .ref (ad 10), .ref (ad 54), .ref (ad 59), .ref (ad 60), .int bn])), ((ad 1), .inr (2, [.ref (ad 2), .ref (ad 3), .ref (ad 4), .ref (ad 5), .ref (ad 6), .ref (ad 7), .int (S 0), .int (S 1), .int (S 4), .int (S 5)]))])) (fun _ _ _ _ => False) (zXC zIO) 1 6 (fun _ => False) := by
  refine vx_ofW (cc := cX4_reading) (maxL := 5) (ret := (some .int)) (by decide) rfl ?_
  intro p e s m args below meth c s₁ B hml hnt hpre9
  obtain ⟨rfl, hZ, hP, hKN⟩ := hpre9
  have hK := hKN.1
  have hx := B.exec
  have hb := B.bytes
  have hr := B.returns
  have hts := atoms_spec (ws := (ws_ yX4_reading cX4_reading 5 (some .int))) B.pre
  have htg : ∀ w ∈ gT, w.before _ s = true := fun w h => hts w (List.mem_cons_of_mem _ h)
  have hown : s.vm.findClass RX4 = some m.cls := findClass_of_methodNamed B.named
  have hlocks := B.notSynchronized
  have hS : va_S (fun _ => False) s.heap s.heap [] := va_S.rf
  have hP : va_P D vwCl [((ad 0), .inr (4, [.ref (ad 1), .ref (ad 8), .ref (ad 9), .ref (ad 10), .ref (ad 54), .ref (ad 59), .ref (ad 60), .int bn])), ((ad 1), .inr (2, [.ref (ad 2), .ref (ad 3), .ref (ad 4), .ref (ad 5), .ref (ad 6), .ref (ad 7), .int (S 0), .int (S 1), .int (S 4), .int (S 5)]))] s.heap := hP
  have hl := lv_entry ([.ref (ad 0), .int k, .int v, .int o, .int w9]) (n := 5) (Nat.le_of_ble_eq_true rfl)
  rw [lg_entry_eq]
  generalize (lg_sl ([.ref (ad 0), .int k, .int v, .int o, .int w9]) ++ List.replicate (5 - (lg_sl ([.ref (ad 0), .int k, .int v, .int o, .int w9])).length) Slot.unset).toArray = ls at hl ⊢
  have hl : lv_has ls 5 [(0, .ref (ad 0)), (1, .int k), (2, .int v), (3, .int o), (4, .int w9)] := hl
  refine lv_iload_n hx hb dX4_reading_0 rfl (lv_at hl 1 rfl) ?_
  refine lv_aload_n hx hb dX4_reading_1 rfl (lv_at hl 0 rfl) ?_
  refine va_get (D := D) (ci := 4) (v := .ref (ad 1)) (C := RX4) (T := TX4) (N := 8) hx hb htg iX4 hown hK hP 0 rfl rfl 0 (by decide) (htg _ tw_127) (fun _ h9 => h9) rfl dX4_reading_2 ?_
  refine va_get (D := D) (ci := 2) (v := .int (S 1)) (C := RX2) (T := TX2) (N := 10) hx hb htg iX2 hown hK hP 1 rfl rfl 7 (by decide) (htg _ tw_195) (fun _ h9 => h9) rfl dX4_reading_5 ?_
  by_cases k_8 : ¬ k < 0 ∧ ¬ (S 1 - 1) < k
  · refine zr_callv (va_runS (As := [.int k, .int (S 1)]) (rest := []) ⟨hx, hb, hml, hown, hts⟩ (mX4_needIndex_i l k (S 1) (k_8.1) (zsu_i hS1 hn6 k_8)) (va_cwS 2 hts (zgS tw_153 tw_154 tw_23 tw_155) rfl rfl rfl (by decide +kernel) ⟨Nat.le_of_ble_eq_true rfl, Nat.le_of_ble_eq_true rfl⟩) zP_pre rfl rfl hl.1 rfl (lv_room (Nat.le_of_ble_eq_true rfl)) dX4_reading_8 ⟨Nat.zero_le _, Nat.zero_le _⟩) hS (fun H locs hw_8 hT hS => ?_)
    replace hP := hT _ _ hP
    refine lv_iload_n hx hb dX4_reading_11 rfl (lv_at hl 2 rfl) ?_
    refine lv_bipush (v := 16) hx hb dX4_reading_12 (by decide) ?_
    by_cases k_14 : ¬ v < 0 ∧ ¬ 15 < v
    · refine zr_callv (va_runS (As := [.int v, .int 16]) (rest := []) ⟨hx, hb, hml, hown, hts⟩ (mX4_needIndex_i l v 16 (k_14.1) (zix_i k_14.2)) (va_cwS 2 hts (zgS tw_153 tw_154 tw_23 tw_155) rfl rfl rfl (by decide +kernel) ⟨Nat.le_of_ble_eq_true rfl, Nat.le_of_ble_eq_true rfl⟩) zP_pre rfl rfl hl.1 rfl (lv_room (Nat.le_of_ble_eq_true rfl)) dX4_reading_14 ⟨Nat.zero_le _, Nat.zero_le _⟩) hS (fun H locs hw_14 hT hS => ?_)
      replace hP := hT _ _ hP
      refine lv_iload_n hx hb dX4_reading_17 rfl (lv_at hl 3 rfl) ?_
      refine lv_iconst (v := 2) hx hb dX4_reading_18 (by decide) ?_
      by_cases k_19 : ¬ o < 0 ∧ ¬ 1 < o
      · exact absurd ⟨k_8, k_14, k_19⟩ hb1
      · refine zx_call (vx_runS (As := [.int o, .int 2]) (rest := []) ⟨hx, hb, hml, hown, hts⟩ (mX4_needIndex_x l hl9 D y o 2 (zix_x k_19)) (va_cwS 2 hts (zgS tw_153 tw_154 tw_23 tw_155) rfl rfl rfl (by decide +kernel) ⟨Nat.le_of_ble_eq_true rfl, Nat.le_of_ble_eq_true rfl⟩) (zXP_pre hKN hP hZ hS [] rfl) rfl rfl hl.1 rfl (lv_room (Nat.le_of_ble_eq_true rfl)) dX4_reading_19 ⟨by first | exact Nat.le_of_ble_eq_true rfl | omega, by first | exact Nat.le_of_ble_eq_true rfl | omega⟩) hS (fun ce9 q9 H locs hT hS hce9 hcv9 hcl9 => ?_)
        exact vx_out (fun x hx => (hnt x hx).elim) hlocks hce9 hcv9 hcl9 (fun t h1 _ => ⟨rfl, hS.F h1⟩) hS.2.2 (Nat.le_of_ble_eq_true rfl) (Nat.le_of_ble_eq_true rfl)
    · refine zx_call (vx_runS (As := [.int v, .int 16]) (rest := []) ⟨hx, hb, hml, hown, hts⟩ (mX4_needIndex_x l hl9 D y v 16 (zix_x k_14)) (va_cwS 2 hts (zgS tw_153 tw_154 tw_23 tw_155) rfl rfl rfl (by decide +kernel) ⟨Nat.le_of_ble_eq_true rfl, Nat.le_of_ble_eq_true rfl⟩) (zXP_pre hKN hP hZ hS [] rfl) rfl rfl hl.1 rfl (lv_room (Nat.le_of_ble_eq_true rfl)) dX4_reading_14 ⟨by first | exact Nat.le_of_ble_eq_true rfl | omega, by first | exact Nat.le_of_ble_eq_true rfl | omega⟩) hS (fun ce9 q9 H locs hT hS hce9 hcv9 hcl9 => ?_)
      exact vx_out (fun x hx => (hnt x hx).elim) hlocks hce9 hcv9 hcl9 (fun t h1 _ => ⟨rfl, hS.F h1⟩) hS.2.2 (Nat.le_of_ble_eq_true rfl) (Nat.le_of_ble_eq_true rfl)
  · refine zx_call (vx_runS (As := [.int k, .int (S 1)]) (rest := []) ⟨hx, hb, hml, hown, hts⟩ (mX4_needIndex_x l hl9 D y k (S 1) (zsu_x hS1 hn6 k_8)) (va_cwS 2 hts (zgS tw_153 tw_154 tw_23 tw_155) rfl rfl rfl (by decide +kernel) ⟨Nat.le_of_ble_eq_true rfl, Nat.le_of_ble_eq_true rfl⟩) (zXP_pre hKN hP hZ hS [] rfl) rfl rfl hl.1 rfl (lv_room (Nat.le_of_ble_eq_true rfl)) dX4_reading_8 ⟨by first | exact Nat.le_of_ble_eq_true rfl | omega, by first | exact Nat.le_of_ble_eq_true rfl | omega⟩) hS (fun ce9 q9 H locs hT hS hce9 hcv9 hcl9 => ?_)
    exact vx_out (fun x hx => (hnt x hx).elim) hlocks hce9 hcv9 hcl9 (fun t h1 _ => ⟨rfl, hS.F h1⟩) hS.2.2 (Nat.le_of_ble_eq_true rfl) (Nat.le_of_ble_eq_true rfl)

set_option maxHeartbeats 4000000 in
set_option maxRecDepth 100000 in
theorem mX4_reading_x2 (l : Launch) (hl9 : l.stackTraces = false) (D : va_G) (y : Nat → ClassId) (ad : Nat → Nat) (S : Nat → Int32) (bn : Int32) (n : Nat) (k : Int32) (v : Int32) (o : Int32) (w9 : Int32) (hS1 : S 1 = nI n) (hn6 : n ≤ 6) (h1 : (¬ k < 0 ∧ ¬ (S 1 - 1) < k) ∧ (¬ v < 0 ∧ ¬ 15 < v) ∧ (¬ o < 0 ∧ ¬ 1 < o)) (hb1 : ¬ (¬ w9 < 0 ∧ ¬ 5 < w9)) : vx_Met l yX4_reading (ws_ yX4_reading cX4_reading 5 (some .int)) ({ frames := 7, cells := 1, slots := 6, locals := 104 }) (va_Pc [.ref (ad 0), .int k, .int v, .int o, .int w9] (zXP D y [((ad 0), .inr (4, [.ref (ad 1), .ref (ad 8), .ref (ad 9), .ref (ad 10), .ref (ad 54), .ref (ad 59), .ref (ad 60), .int bn])), ((ad 1), .inr (2, [.ref (ad 2), .ref (ad 3), .ref (ad 4), .ref (ad 5), .ref (ad 6), .ref (ad 7), .int (S 0), .int (S 1), .int (S 4), .int (S 5)]))])) (fun _ _ _ _ => False) (zXC zIA) 1 6 (fun _ => False) := by
  refine vx_ofW (cc := cX4_reading) (maxL := 5) (ret := (some .int)) (by decide) rfl ?_
  intro p e s m args below meth c s₁ B hml hnt hpre9
  obtain ⟨rfl, hZ, hP, hKN⟩ := hpre9
  have hK := hKN.1
  have hx := B.exec
  have hb := B.bytes
  have hr := B.returns
  have hts := atoms_spec (ws := (ws_ yX4_reading cX4_reading 5 (some .int))) B.pre
  have htg : ∀ w ∈ gT, w.before _ s = true := fun w h => hts w (List.mem_cons_of_mem _ h)
  have hown : s.vm.findClass RX4 = some m.cls := findClass_of_methodNamed B.named
  have hlocks := B.notSynchronized
  have hS : va_S (fun _ => False) s.heap s.heap [] := va_S.rf
  have hP : va_P D vwCl [((ad 0), .inr (4, [.ref (ad 1), .ref (ad 8), .ref (ad 9), .ref (ad 10), .ref (ad 54), .ref (ad 59), .ref (ad 60), .int bn])), ((ad 1), .inr (2, [.ref (ad 2), .ref (ad 3), .ref (ad 4), .ref (ad 5), .ref (ad 6), .ref (ad 7), .int (S 0), .int (S 1), .int (S 4), .int (S 5)]))] s.heap := hP
  have hl := lv_entry ([.ref (ad 0), .int k, .int v, .int o, .int w9]) (n := 5) (Nat.le_of_ble_eq_true rfl)
  rw [lg_entry_eq]
  generalize (lg_sl ([.ref (ad 0), .int k, .int v, .int o, .int w9]) ++ List.replicate (5 - (lg_sl ([.ref (ad 0), .int k, .int v, .int o, .int w9])).length) Slot.unset).toArray = ls at hl ⊢
  have hl : lv_has ls 5 [(0, .ref (ad 0)), (1, .int k), (2, .int v), (3, .int o), (4, .int w9)] := hl
  refine lv_iload_n hx hb dX4_reading_0 rfl (lv_at hl 1 rfl) ?_
  refine lv_aload_n hx hb dX4_reading_1 rfl (lv_at hl 0 rfl) ?_
  refine va_get (D := D) (ci := 4) (v := .ref (ad 1)) (C := RX4) (T := TX4) (N := 8) hx hb htg iX4 hown hK hP 0 rfl rfl 0 (by decide) (htg _ tw_127) (fun _ h9 => h9) rfl dX4_reading_2 ?_
  refine va_get (D := D) (ci := 2) (v := .int (S 1)) (C := RX2) (T := TX2) (N := 10) hx hb htg iX2 hown hK hP 1 rfl rfl 7 (by decide) (htg _ tw_195) (fun _ h9 => h9) rfl dX4_reading_5 ?_
  refine zr_callv (va_runS (As := [.int k, .int (S 1)]) (rest := []) ⟨hx, hb, hml, hown, hts⟩ (mX4_needIndex_i l k (S 1) ((h1.1).1) (zsu_i hS1 hn6 (h1.1))) (va_cwS 2 hts (zgS tw_153 tw_154 tw_23 tw_155) rfl rfl rfl (by decide +kernel) ⟨Nat.le_of_ble_eq_true rfl, Nat.le_of_ble_eq_true rfl⟩) zP_pre rfl rfl hl.1 rfl (lv_room (Nat.le_of_ble_eq_true rfl)) dX4_reading_8 ⟨Nat.zero_le _, Nat.zero_le _⟩) hS (fun H locs hw_8 hT hS => ?_)
  replace hP := hT _ _ hP
  refine lv_iload_n hx hb dX4_reading_11 rfl (lv_at hl 2 rfl) ?_
  refine lv_bipush (v := 16) hx hb dX4_reading_12 (by decide) ?_
  refine zr_callv (va_runS (As := [.int v, .int 16]) (rest := []) ⟨hx, hb, hml, hown, hts⟩ (mX4_needIndex_i l v 16 ((h1.2.1).1) (zix_i (h1.2.1).2)) (va_cwS 2 hts (zgS tw_153 tw_154 tw_23 tw_155) rfl rfl rfl (by decide +kernel) ⟨Nat.le_of_ble_eq_true rfl, Nat.le_of_ble_eq_true rfl⟩) zP_pre rfl rfl hl.1 rfl (lv_room (Nat.le_of_ble_eq_true rfl)) dX4_reading_14 ⟨Nat.zero_le _, Nat.zero_le _⟩) hS (fun H locs hw_14 hT hS => ?_)
  replace hP := hT _ _ hP
  refine lv_iload_n hx hb dX4_reading_17 rfl (lv_at hl 3 rfl) ?_
  refine lv_iconst (v := 2) hx hb dX4_reading_18 (by decide) ?_
  refine zr_callv (va_runS (As := [.int o, .int 2]) (rest := []) ⟨hx, hb, hml, hown, hts⟩ (mX4_needIndex_i l o 2 ((h1.2.2).1) (zix_i (h1.2.2).2)) (va_cwS 2 hts (zgS tw_153 tw_154 tw_23 tw_155) rfl rfl rfl (by decide +kernel) ⟨Nat.le_of_ble_eq_true rfl, Nat.le_of_ble_eq_true rfl⟩) zP_pre rfl rfl hl.1 rfl (lv_room (Nat.le_of_ble_eq_true rfl)) dX4_reading_19 ⟨Nat.zero_le _, Nat.zero_le _⟩) hS (fun H locs hw_19 hT hS => ?_)
  replace hP := hT _ _ hP
  refine lv_iload hx hb dX4_reading_22 (lv_at hl 4 rfl) ?_
  refine lv_iconst (v := 0) hx hb dX4_reading_24 (by decide) ?_
  refine lv_iconst (v := 5) hx hb dX4_reading_25 (by decide) ?_
  refine zx_call (vx_runS (As := [.int w9, .int 0, .int 5]) (rest := []) ⟨hx, hb, hml, hown, hts⟩ (mX4_needRange_x l hl9 D y w9 0 5 (hb1)) (va_cwS 3 hts (zgS tw_158 tw_159 tw_23 tw_160) rfl rfl rfl (by decide +kernel) ⟨Nat.le_of_ble_eq_true rfl, Nat.le_of_ble_eq_true rfl⟩) (zXP_pre hKN hP hZ hS [] rfl) rfl rfl hl.1 rfl (lv_room (Nat.le_of_ble_eq_true rfl)) dX4_reading_26 ⟨by first | exact Nat.le_of_ble_eq_true rfl | omega, by first | exact Nat.le_of_ble_eq_true rfl | omega⟩) hS (fun ce9 q9 H locs hT hS hce9 hcv9 hcl9 => ?_)
  exact vx_out (fun x hx => (hnt x hx).elim) hlocks hce9 hcv9 hcl9 (fun t h1 _ => ⟨rfl, hS.F h1⟩) hS.2.2 (Nat.le_of_ble_eq_true rfl) (Nat.le_of_ble_eq_true rfl)

set_option maxHeartbeats 4000000 in
set_option maxRecDepth 100000 in
theorem mX4_surveyOf_x1 (l : Launch) (hl9 : l.stackTraces = false) (D : va_G) (y : Nat → ClassId) (ad : Nat → Nat) (S : Nat → Int32) (bn : Int32) (n : Nat) (k : Int32) (w9 : Int32) (hS1 : S 1 = nI n) (hn6 : n ≤ 6) (hb1 : ¬ (¬ k < 0 ∧ ¬ (S 1 - 1) < k)) : vx_Met l yX4_surveyOf (ws_ yX4_surveyOf cX4_surveyOf 3 (some .int)) ({ frames := 7, cells := 1, slots := 6, locals := 103 }) (va_Pc [.ref (ad 0), .int k, .int w9] (zXP D y [((ad 0), .inr (4, [.ref (ad 1), .ref (ad 8), .ref (ad 9), .ref (ad 10), .ref (ad 54), .ref (ad 59), .ref (ad 60), .int bn])), ((ad 1), .inr (2, [.ref (ad 2), .ref (ad 3), .ref (ad 4), .ref (ad 5), .ref (ad 6), .ref (ad 7), .int (S 0), .int (S 1), .int (S 4), .int (S 5)]))])) (fun _ _ _ _ => False) (zXC zIO) 1 6 (fun _ => False) := by
  refine vx_ofW (cc := cX4_surveyOf) (maxL := 3) (ret := (some .int)) (by decide) rfl ?_
  intro p e s m args below meth c s₁ B hml hnt hpre9
  obtain ⟨rfl, hZ, hP, hKN⟩ := hpre9
  have hK := hKN.1
  have hx := B.exec
  have hb := B.bytes
  have hr := B.returns
  have hts := atoms_spec (ws := (ws_ yX4_surveyOf cX4_surveyOf 3 (some .int))) B.pre
  have htg : ∀ w ∈ gT, w.before _ s = true := fun w h => hts w (List.mem_cons_of_mem _ h)
  have hown : s.vm.findClass RX4 = some m.cls := findClass_of_methodNamed B.named
  have hlocks := B.notSynchronized
  have hS : va_S (fun _ => False) s.heap s.heap [] := va_S.rf
  have hP : va_P D vwCl [((ad 0), .inr (4, [.ref (ad 1), .ref (ad 8), .ref (ad 9), .ref (ad 10), .ref (ad 54), .ref (ad 59), .ref (ad 60), .int bn])), ((ad 1), .inr (2, [.ref (ad 2), .ref (ad 3), .ref (ad 4), .ref (ad 5), .ref (ad 6), .ref (ad 7), .int (S 0), .int (S 1), .int (S 4), .int (S 5)]))] s.heap := hP
  have hl := lv_entry ([.ref (ad 0), .int k, .int w9]) (n := 3) (Nat.le_of_ble_eq_true rfl)
  rw [lg_entry_eq]
  generalize (lg_sl ([.ref (ad 0), .int k, .int w9]) ++ List.replicate (3 - (lg_sl ([.ref (ad 0), .int k, .int w9])).length) Slot.unset).toArray = ls at hl ⊢
  have hl : lv_has ls 3 [(0, .ref (ad 0)), (1, .int k), (2, .int w9)] := hl
  refine lv_iload_n hx hb dX4_surveyOf_0 rfl (lv_at hl 1 rfl) ?_
  refine lv_aload_n hx hb dX4_surveyOf_1 rfl (lv_at hl 0 rfl) ?_
  refine va_get (D := D) (ci := 4) (v := .ref (ad 1)) (C := RX4) (T := TX4) (N := 8) hx hb htg iX4 hown hK hP 0 rfl rfl 0 (by decide) (htg _ tw_127) (fun _ h9 => h9) rfl dX4_surveyOf_2 ?_
  refine va_get (D := D) (ci := 2) (v := .int (S 1)) (C := RX2) (T := TX2) (N := 10) hx hb htg iX2 hown hK hP 1 rfl rfl 7 (by decide) (htg _ tw_195) (fun _ h9 => h9) rfl dX4_surveyOf_5 ?_
  refine zx_call (vx_runS (As := [.int k, .int (S 1)]) (rest := []) ⟨hx, hb, hml, hown, hts⟩ (mX4_needIndex_x l hl9 D y k (S 1) (zsu_x hS1 hn6 (hb1))) (va_cwS 2 hts (zgS tw_153 tw_154 tw_23 tw_155) rfl rfl rfl (by decide +kernel) ⟨Nat.le_of_ble_eq_true rfl, Nat.le_of_ble_eq_true rfl⟩) (zXP_pre hKN hP hZ hS [] rfl) rfl rfl hl.1 rfl (lv_room (Nat.le_of_ble_eq_true rfl)) dX4_surveyOf_8 ⟨by first | exact Nat.le_of_ble_eq_true rfl | omega, by first | exact Nat.le_of_ble_eq_true rfl | omega⟩) hS (fun ce9 q9 H locs hT hS hce9 hcv9 hcl9 => ?_)
  exact vx_out (fun x hx => (hnt x hx).elim) hlocks hce9 hcv9 hcl9 (fun t h1 _ => ⟨rfl, hS.F h1⟩) hS.2.2 (Nat.le_of_ble_eq_true rfl) (Nat.le_of_ble_eq_true rfl)

set_option maxHeartbeats 4000000 in
set_option maxRecDepth 100000 in
theorem mX4_surveyOf_x2 (l : Launch) (hl9 : l.stackTraces = false) (D : va_G) (y : Nat → ClassId) (ad : Nat → Nat) (S : Nat → Int32) (bn : Int32) (n : Nat) (k : Int32) (w9 : Int32) (hS1 : S 1 = nI n) (hn6 : n ≤ 6) (h1 : ¬ k < 0 ∧ ¬ (S 1 - 1) < k) (hb1 : ¬ (¬ w9 < 0 ∧ ¬ 4 < w9)) : vx_Met l yX4_surveyOf (ws_ yX4_surveyOf cX4_surveyOf 3 (some .int)) ({ frames := 7, cells := 1, slots := 6, locals := 104 }) (va_Pc [.ref (ad 0), .int k, .int w9] (zXP D y [((ad 0), .inr (4, [.ref (ad 1), .ref (ad 8), .ref (ad 9), .ref (ad 10), .ref (ad 54), .ref (ad 59), .ref (ad 60), .int bn])), ((ad 1), .inr (2, [.ref (ad 2), .ref (ad 3), .ref (ad 4), .ref (ad 5), .ref (ad 6), .ref (ad 7), .int (S 0), .int (S 1), .int (S 4), .int (S 5)]))])) (fun _ _ _ _ => False) (zXC zIA) 1 6 (fun _ => False) := by
  refine vx_ofW (cc := cX4_surveyOf) (maxL := 3) (ret := (some .int)) (by decide) rfl ?_
  intro p e s m args below meth c s₁ B hml hnt hpre9
  obtain ⟨rfl, hZ, hP, hKN⟩ := hpre9
  have hK := hKN.1
  have hx := B.exec
  have hb := B.bytes
  have hr := B.returns
  have hts := atoms_spec (ws := (ws_ yX4_surveyOf cX4_surveyOf 3 (some .int))) B.pre
  have htg : ∀ w ∈ gT, w.before _ s = true := fun w h => hts w (List.mem_cons_of_mem _ h)
  have hown : s.vm.findClass RX4 = some m.cls := findClass_of_methodNamed B.named
  have hlocks := B.notSynchronized
  have hS : va_S (fun _ => False) s.heap s.heap [] := va_S.rf
  have hP : va_P D vwCl [((ad 0), .inr (4, [.ref (ad 1), .ref (ad 8), .ref (ad 9), .ref (ad 10), .ref (ad 54), .ref (ad 59), .ref (ad 60), .int bn])), ((ad 1), .inr (2, [.ref (ad 2), .ref (ad 3), .ref (ad 4), .ref (ad 5), .ref (ad 6), .ref (ad 7), .int (S 0), .int (S 1), .int (S 4), .int (S 5)]))] s.heap := hP
  have hl := lv_entry ([.ref (ad 0), .int k, .int w9]) (n := 3) (Nat.le_of_ble_eq_true rfl)
  rw [lg_entry_eq]
  generalize (lg_sl ([.ref (ad 0), .int k, .int w9]) ++ List.replicate (3 - (lg_sl ([.ref (ad 0), .int k, .int w9])).length) Slot.unset).toArray = ls at hl ⊢
  have hl : lv_has ls 3 [(0, .ref (ad 0)), (1, .int k), (2, .int w9)] := hl
  refine lv_iload_n hx hb dX4_surveyOf_0 rfl (lv_at hl 1 rfl) ?_
  refine lv_aload_n hx hb dX4_surveyOf_1 rfl (lv_at hl 0 rfl) ?_
  refine va_get (D := D) (ci := 4) (v := .ref (ad 1)) (C := RX4) (T := TX4) (N := 8) hx hb htg iX4 hown hK hP 0 rfl rfl 0 (by decide) (htg _ tw_127) (fun _ h9 => h9) rfl dX4_surveyOf_2 ?_
  refine va_get (D := D) (ci := 2) (v := .int (S 1)) (C := RX2) (T := TX2) (N := 10) hx hb htg iX2 hown hK hP 1 rfl rfl 7 (by decide) (htg _ tw_195) (fun _ h9 => h9) rfl dX4_surveyOf_5 ?_
  refine zr_callv (va_runS (As := [.int k, .int (S 1)]) (rest := []) ⟨hx, hb, hml, hown, hts⟩ (mX4_needIndex_i l k (S 1) ((h1).1) (zsu_i hS1 hn6 (h1))) (va_cwS 2 hts (zgS tw_153 tw_154 tw_23 tw_155) rfl rfl rfl (by decide +kernel) ⟨Nat.le_of_ble_eq_true rfl, Nat.le_of_ble_eq_true rfl⟩) zP_pre rfl rfl hl.1 rfl (lv_room (Nat.le_of_ble_eq_true rfl)) dX4_surveyOf_8 ⟨Nat.zero_le _, Nat.zero_le _⟩) hS (fun H locs hw_8 hT hS => ?_)
  replace hP := hT _ _ hP
  refine lv_iload_n hx hb dX4_surveyOf_11 rfl (lv_at hl 2 rfl) ?_
  refine lv_iconst (v := 0) hx hb dX4_surveyOf_12 (by decide) ?_
  refine lv_iconst (v := 4) hx hb dX4_surveyOf_13 (by decide) ?_
  refine zx_call (vx_runS (As := [.int w9, .int 0, .int 4]) (rest := []) ⟨hx, hb, hml, hown, hts⟩ (mX4_needRange_x l hl9 D y w9 0 4 (hb1)) (va_cwS 3 hts (zgS tw_158 tw_159 tw_23 tw_160) rfl rfl rfl (by decide +kernel) ⟨Nat.le_of_ble_eq_true rfl, Nat.le_of_ble_eq_true rfl⟩) (zXP_pre hKN hP hZ hS [] rfl) rfl rfl hl.1 rfl (lv_room (Nat.le_of_ble_eq_true rfl)) dX4_surveyOf_14 ⟨by first | exact Nat.le_of_ble_eq_true rfl | omega, by first | exact Nat.le_of_ble_eq_true rfl | omega⟩) hS (fun ce9 q9 H locs hT hS hce9 hcv9 hcl9 => ?_)
  exact vx_out (fun x hx => (hnt x hx).elim) hlocks hce9 hcv9 hcl9 (fun t h1 _ => ⟨rfl, hS.F h1⟩) hS.2.2 (Nat.le_of_ble_eq_true rfl) (Nat.le_of_ble_eq_true rfl)

set_option maxHeartbeats 4000000 in
set_option maxRecDepth 100000 in
theorem mX4_place_x1 (l : Launch) (hl9 : l.stackTraces = false) (D : va_G) (y : Nat → ClassId) (ad : Nat → Nat) (S : Nat → Int32) (bn : Int32) (n : Nat) (k : Int32) (v : Int32) (o : Int32) (w9 : Int32) (hS1 : S 1 = nI n) (hn6 : n ≤ 6) (hb1 : ¬ ((¬ k < 0 ∧ ¬ (S 1 - 1) < k) ∧ (¬ v < 0 ∧ ¬ 15 < v) ∧ (¬ o < 0 ∧ ¬ 1 < o))) : vx_Met l yX4_place (ws_ yX4_place cX4_place 5 (some .int)) ({ frames := 7, cells := 1, slots := 6, locals := 103 }) (va_Pc [.ref (ad 0), .int k, .int v, .int o, .int w9] (zXP D y [((ad 0), .inr (4, [.ref (ad 1), .ref (ad 8), .ref (ad 9), .ref (ad 10), .ref (ad 54), .ref (ad 59), .ref (ad 60), .int bn])), ((ad 1), .inr (2, [.ref (ad 2), .ref (ad 3), .ref (ad 4), .ref (ad 5), .ref (ad 6), .ref (ad 7), .int (S 0), .int (S 1), .int (S 4), .int (S 5)]))])) (fun _ _ _ _ => False) (zXC zIO) 1 6 (fun _ => False) := by
  refine vx_ofW (cc := cX4_place) (maxL := 5) (ret := (some .int)) (by decide) rfl ?_
  intro p e s m args below meth c s₁ B hml hnt hpre9
  obtain ⟨rfl, hZ, hP, hKN⟩ := hpre9
  have hK := hKN.1
  have hx := B.exec
  have hb := B.bytes
  have hr := B.returns
  have hts := atoms_spec (ws := (ws_ yX4_place cX4_place 5 (some .int))) B.pre
  have htg : ∀ w ∈ gT, w.before _ s = true := fun w h => hts w (List.mem_cons_of_mem _ h)
  have hown : s.vm.findClass RX4 = some m.cls := findClass_of_methodNamed B.named
  have hlocks := B.notSynchronized
  have hS : va_S (fun _ => False) s.heap s.heap [] := va_S.rf
  have hP : va_P D vwCl [((ad 0), .inr (4, [.ref (ad 1), .ref (ad 8), .ref (ad 9), .ref (ad 10), .ref (ad 54), .ref (ad 59), .ref (ad 60), .int bn])), ((ad 1), .inr (2, [.ref (ad 2), .ref (ad 3), .ref (ad 4), .ref (ad 5), .ref (ad 6), .ref (ad 7), .int (S 0), .int (S 1), .int (S 4), .int (S 5)]))] s.heap := hP
  have hl := lv_entry ([.ref (ad 0), .int k, .int v, .int o, .int w9]) (n := 5) (Nat.le_of_ble_eq_true rfl)
  rw [lg_entry_eq]
  generalize (lg_sl ([.ref (ad 0), .int k, .int v, .int o, .int w9]) ++ List.replicate (5 - (lg_sl ([.ref (ad 0), .int k, .int v, .int o, .int w9])).length) Slot.unset).toArray = ls at hl ⊢
  have hl : lv_has ls 5 [(0, .ref (ad 0)), (1, .int k), (2, .int v), (3, .int o), (4, .int w9)] := hl
  refine lv_iload_n hx hb dX4_place_0 rfl (lv_at hl 1 rfl) ?_
  refine lv_aload_n hx hb dX4_place_1 rfl (lv_at hl 0 rfl) ?_
  refine va_get (D := D) (ci := 4) (v := .ref (ad 1)) (C := RX4) (T := TX4) (N := 8) hx hb htg iX4 hown hK hP 0 rfl rfl 0 (by decide) (htg _ tw_127) (fun _ h9 => h9) rfl dX4_place_2 ?_
  refine va_get (D := D) (ci := 2) (v := .int (S 1)) (C := RX2) (T := TX2) (N := 10) hx hb htg iX2 hown hK hP 1 rfl rfl 7 (by decide) (htg _ tw_195) (fun _ h9 => h9) rfl dX4_place_5 ?_
  by_cases k_8 : ¬ k < 0 ∧ ¬ (S 1 - 1) < k
  · refine zr_callv (va_runS (As := [.int k, .int (S 1)]) (rest := []) ⟨hx, hb, hml, hown, hts⟩ (mX4_needIndex_i l k (S 1) (k_8.1) (zsu_i hS1 hn6 k_8)) (va_cwS 2 hts (zgS tw_153 tw_154 tw_23 tw_155) rfl rfl rfl (by decide +kernel) ⟨Nat.le_of_ble_eq_true rfl, Nat.le_of_ble_eq_true rfl⟩) zP_pre rfl rfl hl.1 rfl (lv_room (Nat.le_of_ble_eq_true rfl)) dX4_place_8 ⟨Nat.zero_le _, Nat.zero_le _⟩) hS (fun H locs hw_8 hT hS => ?_)
    replace hP := hT _ _ hP
    refine lv_iload_n hx hb dX4_place_11 rfl (lv_at hl 2 rfl) ?_
    refine lv_bipush (v := 16) hx hb dX4_place_12 (by decide) ?_
    by_cases k_14 : ¬ v < 0 ∧ ¬ 15 < v
    · refine zr_callv (va_runS (As := [.int v, .int 16]) (rest := []) ⟨hx, hb, hml, hown, hts⟩ (mX4_needIndex_i l v 16 (k_14.1) (zix_i k_14.2)) (va_cwS 2 hts (zgS tw_153 tw_154 tw_23 tw_155) rfl rfl rfl (by decide +kernel) ⟨Nat.le_of_ble_eq_true rfl, Nat.le_of_ble_eq_true rfl⟩) zP_pre rfl rfl hl.1 rfl (lv_room (Nat.le_of_ble_eq_true rfl)) dX4_place_14 ⟨Nat.zero_le _, Nat.zero_le _⟩) hS (fun H locs hw_14 hT hS => ?_)
      replace hP := hT _ _ hP
      refine lv_iload_n hx hb dX4_place_17 rfl (lv_at hl 3 rfl) ?_
      refine lv_iconst (v := 2) hx hb dX4_place_18 (by decide) ?_
      by_cases k_19 : ¬ o < 0 ∧ ¬ 1 < o
      · exact absurd ⟨k_8, k_14, k_19⟩ hb1
      · refine zx_call (vx_runS (As := [.int o, .int 2]) (rest := []) ⟨hx, hb, hml, hown, hts⟩ (mX4_needIndex_x l hl9 D y o 2 (zix_x k_19)) (va_cwS 2 hts (zgS tw_153 tw_154 tw_23 tw_155) rfl rfl rfl (by decide +kernel) ⟨Nat.le_of_ble_eq_true rfl, Nat.le_of_ble_eq_true rfl⟩) (zXP_pre hKN hP hZ hS [] rfl) rfl rfl hl.1 rfl (lv_room (Nat.le_of_ble_eq_true rfl)) dX4_place_19 ⟨by first | exact Nat.le_of_ble_eq_true rfl | omega, by first | exact Nat.le_of_ble_eq_true rfl | omega⟩) hS (fun ce9 q9 H locs hT hS hce9 hcv9 hcl9 => ?_)
        exact vx_out (fun x hx => (hnt x hx).elim) hlocks hce9 hcv9 hcl9 (fun t h1 _ => ⟨rfl, hS.F h1⟩) hS.2.2 (Nat.le_of_ble_eq_true rfl) (Nat.le_of_ble_eq_true rfl)
    · refine zx_call (vx_runS (As := [.int v, .int 16]) (rest := []) ⟨hx, hb, hml, hown, hts⟩ (mX4_needIndex_x l hl9 D y v 16 (zix_x k_14)) (va_cwS 2 hts (zgS tw_153 tw_154 tw_23 tw_155) rfl rfl rfl (by decide +kernel) ⟨Nat.le_of_ble_eq_true rfl, Nat.le_of_ble_eq_true rfl⟩) (zXP_pre hKN hP hZ hS [] rfl) rfl rfl hl.1 rfl (lv_room (Nat.le_of_ble_eq_true rfl)) dX4_place_14 ⟨by first | exact Nat.le_of_ble_eq_true rfl | omega, by first | exact Nat.le_of_ble_eq_true rfl | omega⟩) hS (fun ce9 q9 H locs hT hS hce9 hcv9 hcl9 => ?_)
      exact vx_out (fun x hx => (hnt x hx).elim) hlocks hce9 hcv9 hcl9 (fun t h1 _ => ⟨rfl, hS.F h1⟩) hS.2.2 (Nat.le_of_ble_eq_true rfl) (Nat.le_of_ble_eq_true rfl)
  · refine zx_call (vx_runS (As := [.int k, .int (S 1)]) (rest := []) ⟨hx, hb, hml, hown, hts⟩ (mX4_needIndex_x l hl9 D y k (S 1) (zsu_x hS1 hn6 k_8)) (va_cwS 2 hts (zgS tw_153 tw_154 tw_23 tw_155) rfl rfl rfl (by decide +kernel) ⟨Nat.le_of_ble_eq_true rfl, Nat.le_of_ble_eq_true rfl⟩) (zXP_pre hKN hP hZ hS [] rfl) rfl rfl hl.1 rfl (lv_room (Nat.le_of_ble_eq_true rfl)) dX4_place_8 ⟨by first | exact Nat.le_of_ble_eq_true rfl | omega, by first | exact Nat.le_of_ble_eq_true rfl | omega⟩) hS (fun ce9 q9 H locs hT hS hce9 hcv9 hcl9 => ?_)
    exact vx_out (fun x hx => (hnt x hx).elim) hlocks hce9 hcv9 hcl9 (fun t h1 _ => ⟨rfl, hS.F h1⟩) hS.2.2 (Nat.le_of_ble_eq_true rfl) (Nat.le_of_ble_eq_true rfl)

set_option maxHeartbeats 4000000 in
set_option maxRecDepth 100000 in
theorem mX4_place_x2 (l : Launch) (hl9 : l.stackTraces = false) (D : va_G) (y : Nat → ClassId) (ad : Nat → Nat) (S : Nat → Int32) (bn : Int32) (n : Nat) (k : Int32) (v : Int32) (o : Int32) (w9 : Int32) (hS1 : S 1 = nI n) (hn6 : n ≤ 6) (h1 : (¬ k < 0 ∧ ¬ (S 1 - 1) < k) ∧ (¬ v < 0 ∧ ¬ 15 < v) ∧ (¬ o < 0 ∧ ¬ 1 < o)) (hb1 : ¬ (¬ w9 < 0 ∧ ¬ 1 < w9)) : vx_Met l yX4_place (ws_ yX4_place cX4_place 5 (some .int)) ({ frames := 7, cells := 1, slots := 6, locals := 104 }) (va_Pc [.ref (ad 0), .int k, .int v, .int o, .int w9] (zXP D y [((ad 0), .inr (4, [.ref (ad 1), .ref (ad 8), .ref (ad 9), .ref (ad 10), .ref (ad 54), .ref (ad 59), .ref (ad 60), .int bn])), ((ad 1), .inr (2, [.ref (ad 2), .ref (ad 3), .ref (ad 4), .ref (ad 5), .ref (ad 6), .ref (ad 7), .int (S 0), .int (S 1), .int (S 4), .int (S 5)]))])) (fun _ _ _ _ => False) (zXC zIA) 1 6 (fun _ => False) := by
  refine vx_ofW (cc := cX4_place) (maxL := 5) (ret := (some .int)) (by decide) rfl ?_
  intro p e s m args below meth c s₁ B hml hnt hpre9
  obtain ⟨rfl, hZ, hP, hKN⟩ := hpre9
  have hK := hKN.1
  have hx := B.exec
  have hb := B.bytes
  have hr := B.returns
  have hts := atoms_spec (ws := (ws_ yX4_place cX4_place 5 (some .int))) B.pre
  have htg : ∀ w ∈ gT, w.before _ s = true := fun w h => hts w (List.mem_cons_of_mem _ h)
  have hown : s.vm.findClass RX4 = some m.cls := findClass_of_methodNamed B.named
  have hlocks := B.notSynchronized
  have hS : va_S (fun _ => False) s.heap s.heap [] := va_S.rf
  have hP : va_P D vwCl [((ad 0), .inr (4, [.ref (ad 1), .ref (ad 8), .ref (ad 9), .ref (ad 10), .ref (ad 54), .ref (ad 59), .ref (ad 60), .int bn])), ((ad 1), .inr (2, [.ref (ad 2), .ref (ad 3), .ref (ad 4), .ref (ad 5), .ref (ad 6), .ref (ad 7), .int (S 0), .int (S 1), .int (S 4), .int (S 5)]))] s.heap := hP
  have hl := lv_entry ([.ref (ad 0), .int k, .int v, .int o, .int w9]) (n := 5) (Nat.le_of_ble_eq_true rfl)
  rw [lg_entry_eq]
  generalize (lg_sl ([.ref (ad 0), .int k, .int v, .int o, .int w9]) ++ List.replicate (5 - (lg_sl ([.ref (ad 0), .int k, .int v, .int o, .int w9])).length) Slot.unset).toArray = ls at hl ⊢
  have hl : lv_has ls 5 [(0, .ref (ad 0)), (1, .int k), (2, .int v), (3, .int o), (4, .int w9)] := hl
  refine lv_iload_n hx hb dX4_place_0 rfl (lv_at hl 1 rfl) ?_
  refine lv_aload_n hx hb dX4_place_1 rfl (lv_at hl 0 rfl) ?_
  refine va_get (D := D) (ci := 4) (v := .ref (ad 1)) (C := RX4) (T := TX4) (N := 8) hx hb htg iX4 hown hK hP 0 rfl rfl 0 (by decide) (htg _ tw_127) (fun _ h9 => h9) rfl dX4_place_2 ?_
  refine va_get (D := D) (ci := 2) (v := .int (S 1)) (C := RX2) (T := TX2) (N := 10) hx hb htg iX2 hown hK hP 1 rfl rfl 7 (by decide) (htg _ tw_195) (fun _ h9 => h9) rfl dX4_place_5 ?_
  refine zr_callv (va_runS (As := [.int k, .int (S 1)]) (rest := []) ⟨hx, hb, hml, hown, hts⟩ (mX4_needIndex_i l k (S 1) ((h1.1).1) (zsu_i hS1 hn6 (h1.1))) (va_cwS 2 hts (zgS tw_153 tw_154 tw_23 tw_155) rfl rfl rfl (by decide +kernel) ⟨Nat.le_of_ble_eq_true rfl, Nat.le_of_ble_eq_true rfl⟩) zP_pre rfl rfl hl.1 rfl (lv_room (Nat.le_of_ble_eq_true rfl)) dX4_place_8 ⟨Nat.zero_le _, Nat.zero_le _⟩) hS (fun H locs hw_8 hT hS => ?_)
  replace hP := hT _ _ hP
  refine lv_iload_n hx hb dX4_place_11 rfl (lv_at hl 2 rfl) ?_
  refine lv_bipush (v := 16) hx hb dX4_place_12 (by decide) ?_
  refine zr_callv (va_runS (As := [.int v, .int 16]) (rest := []) ⟨hx, hb, hml, hown, hts⟩ (mX4_needIndex_i l v 16 ((h1.2.1).1) (zix_i (h1.2.1).2)) (va_cwS 2 hts (zgS tw_153 tw_154 tw_23 tw_155) rfl rfl rfl (by decide +kernel) ⟨Nat.le_of_ble_eq_true rfl, Nat.le_of_ble_eq_true rfl⟩) zP_pre rfl rfl hl.1 rfl (lv_room (Nat.le_of_ble_eq_true rfl)) dX4_place_14 ⟨Nat.zero_le _, Nat.zero_le _⟩) hS (fun H locs hw_14 hT hS => ?_)
  replace hP := hT _ _ hP
  refine lv_iload_n hx hb dX4_place_17 rfl (lv_at hl 3 rfl) ?_
  refine lv_iconst (v := 2) hx hb dX4_place_18 (by decide) ?_
  refine zr_callv (va_runS (As := [.int o, .int 2]) (rest := []) ⟨hx, hb, hml, hown, hts⟩ (mX4_needIndex_i l o 2 ((h1.2.2).1) (zix_i (h1.2.2).2)) (va_cwS 2 hts (zgS tw_153 tw_154 tw_23 tw_155) rfl rfl rfl (by decide +kernel) ⟨Nat.le_of_ble_eq_true rfl, Nat.le_of_ble_eq_true rfl⟩) zP_pre rfl rfl hl.1 rfl (lv_room (Nat.le_of_ble_eq_true rfl)) dX4_place_19 ⟨Nat.zero_le _, Nat.zero_le _⟩) hS (fun H locs hw_19 hT hS => ?_)
  replace hP := hT _ _ hP
  refine lv_iload hx hb dX4_place_22 (lv_at hl 4 rfl) ?_
  refine lv_iconst (v := 0) hx hb dX4_place_24 (by decide) ?_
  refine lv_iconst (v := 1) hx hb dX4_place_25 (by decide) ?_
  refine zx_call (vx_runS (As := [.int w9, .int 0, .int 1]) (rest := []) ⟨hx, hb, hml, hown, hts⟩ (mX4_needRange_x l hl9 D y w9 0 1 (hb1)) (va_cwS 3 hts (zgS tw_158 tw_159 tw_23 tw_160) rfl rfl rfl (by decide +kernel) ⟨Nat.le_of_ble_eq_true rfl, Nat.le_of_ble_eq_true rfl⟩) (zXP_pre hKN hP hZ hS [] rfl) rfl rfl hl.1 rfl (lv_room (Nat.le_of_ble_eq_true rfl)) dX4_place_26 ⟨by first | exact Nat.le_of_ble_eq_true rfl | omega, by first | exact Nat.le_of_ble_eq_true rfl | omega⟩) hS (fun ce9 q9 H locs hT hS hce9 hcv9 hcl9 => ?_)
  exact vx_out (fun x hx => (hnt x hx).elim) hlocks hce9 hcv9 hcl9 (fun t h1 _ => ⟨rfl, hS.F h1⟩) hS.2.2 (Nat.le_of_ble_eq_true rfl) (Nat.le_of_ble_eq_true rfl)

set_option maxHeartbeats 4000000 in
set_option maxRecDepth 100000 in
theorem mX4_count_x1 (l : Launch) (hl9 : l.stackTraces = false) (D : va_G) (y : Nat → ClassId) (ad : Nat → Nat) (bn : Int32) (x : Int32) (hb1 : ¬ (¬ x < 0 ∧ ¬ 7 < x)) : vx_Met l yX4_count (ws_ yX4_count cX4_count 2 (some .int)) ({ frames := 7, cells := 1, slots := 6, locals := 104 }) (va_Pc [.ref (ad 0), .int x] (zXP D y [((ad 0), .inr (4, [.ref (ad 1), .ref (ad 8), .ref (ad 9), .ref (ad 10), .ref (ad 54), .ref (ad 59), .ref (ad 60), .int bn]))])) (fun _ _ _ _ => False) (zXC zIA) 1 6 (fun _ => False) := by
  refine vx_ofW (cc := cX4_count) (maxL := 2) (ret := (some .int)) (by decide) rfl ?_
  intro p e s m args below meth c s₁ B hml hnt hpre9
  obtain ⟨rfl, hZ, hP, hKN⟩ := hpre9
  have hK := hKN.1
  have hx := B.exec
  have hb := B.bytes
  have hr := B.returns
  have hts := atoms_spec (ws := (ws_ yX4_count cX4_count 2 (some .int))) B.pre
  have htg : ∀ w ∈ gT, w.before _ s = true := fun w h => hts w (List.mem_cons_of_mem _ h)
  have hown : s.vm.findClass RX4 = some m.cls := findClass_of_methodNamed B.named
  have hlocks := B.notSynchronized
  have hS : va_S (fun _ => False) s.heap s.heap [] := va_S.rf
  have hP : va_P D vwCl [((ad 0), .inr (4, [.ref (ad 1), .ref (ad 8), .ref (ad 9), .ref (ad 10), .ref (ad 54), .ref (ad 59), .ref (ad 60), .int bn]))] s.heap := hP
  have hl := lv_entry ([.ref (ad 0), .int x]) (n := 2) (Nat.le_of_ble_eq_true rfl)
  rw [lg_entry_eq]
  generalize (lg_sl ([.ref (ad 0), .int x]) ++ List.replicate (2 - (lg_sl ([.ref (ad 0), .int x])).length) Slot.unset).toArray = ls at hl ⊢
  have hl : lv_has ls 2 [(0, .ref (ad 0)), (1, .int x)] := hl
  refine lv_iload_n hx hb dX4_count_0 rfl (lv_at hl 1 rfl) ?_
  refine lv_iconst (v := 0) hx hb dX4_count_1 (by decide) ?_
  refine lv_bipush (v := 7) hx hb dX4_count_2 (by decide) ?_
  refine zx_call (vx_runS (As := [.int x, .int 0, .int 7]) (rest := []) ⟨hx, hb, hml, hown, hts⟩ (mX4_needRange_x l hl9 D y x 0 7 (hb1)) (va_cwS 3 hts (zgS tw_158 tw_159 tw_23 tw_160) rfl rfl rfl (by decide +kernel) ⟨Nat.le_of_ble_eq_true rfl, Nat.le_of_ble_eq_true rfl⟩) (zXP_pre hKN hP hZ hS [] rfl) rfl rfl hl.1 rfl (lv_room (Nat.le_of_ble_eq_true rfl)) dX4_count_4 ⟨by first | exact Nat.le_of_ble_eq_true rfl | omega, by first | exact Nat.le_of_ble_eq_true rfl | omega⟩) hS (fun ce9 q9 H locs hT hS hce9 hcv9 hcl9 => ?_)
  exact vx_out (fun x hx => (hnt x hx).elim) hlocks hce9 hcv9 hcl9 (fun t h1 _ => ⟨rfl, hS.F h1⟩) hS.2.2 (Nat.le_of_ble_eq_true rfl) (Nat.le_of_ble_eq_true rfl)

set_option maxHeartbeats 4000000 in
set_option maxRecDepth 100000 in
theorem mX4_setting_x1 (l : Launch) (hl9 : l.stackTraces = false) (D : va_G) (y : Nat → ClassId) (ad : Nat → Nat) (bn : Int32) (x : Int32) (hb1 : ¬ (¬ x < 0 ∧ ¬ 2 < x)) : vx_Met l yX4_setting (ws_ yX4_setting cX4_setting 2 (some .int)) ({ frames := 7, cells := 1, slots := 6, locals := 103 }) (va_Pc [.ref (ad 0), .int x] (zXP D y [((ad 0), .inr (4, [.ref (ad 1), .ref (ad 8), .ref (ad 9), .ref (ad 10), .ref (ad 54), .ref (ad 59), .ref (ad 60), .int bn]))])) (fun _ _ _ _ => False) (zXC zIO) 1 6 (fun _ => False) := by
  refine vx_ofW (cc := cX4_setting) (maxL := 2) (ret := (some .int)) (by decide) rfl ?_
  intro p e s m args below meth c s₁ B hml hnt hpre9
  obtain ⟨rfl, hZ, hP, hKN⟩ := hpre9
  have hK := hKN.1
  have hx := B.exec
  have hb := B.bytes
  have hr := B.returns
  have hts := atoms_spec (ws := (ws_ yX4_setting cX4_setting 2 (some .int))) B.pre
  have htg : ∀ w ∈ gT, w.before _ s = true := fun w h => hts w (List.mem_cons_of_mem _ h)
  have hown : s.vm.findClass RX4 = some m.cls := findClass_of_methodNamed B.named
  have hlocks := B.notSynchronized
  have hS : va_S (fun _ => False) s.heap s.heap [] := va_S.rf
  have hP : va_P D vwCl [((ad 0), .inr (4, [.ref (ad 1), .ref (ad 8), .ref (ad 9), .ref (ad 10), .ref (ad 54), .ref (ad 59), .ref (ad 60), .int bn]))] s.heap := hP
  have hl := lv_entry ([.ref (ad 0), .int x]) (n := 2) (Nat.le_of_ble_eq_true rfl)
  rw [lg_entry_eq]
  generalize (lg_sl ([.ref (ad 0), .int x]) ++ List.replicate (2 - (lg_sl ([.ref (ad 0), .int x])).length) Slot.unset).toArray = ls at hl ⊢
  have hl : lv_has ls 2 [(0, .ref (ad 0)), (1, .int x)] := hl
  refine lv_iload_n hx hb dX4_setting_0 rfl (lv_at hl 1 rfl) ?_
  refine lv_iconst (v := 3) hx hb dX4_setting_1 (by decide) ?_
  refine zx_call (vx_runS (As := [.int x, .int 3]) (rest := []) ⟨hx, hb, hml, hown, hts⟩ (mX4_needIndex_x l hl9 D y x 3 (zix_x (hb1))) (va_cwS 2 hts (zgS tw_153 tw_154 tw_23 tw_155) rfl rfl rfl (by decide +kernel) ⟨Nat.le_of_ble_eq_true rfl, Nat.le_of_ble_eq_true rfl⟩) (zXP_pre hKN hP hZ hS [] rfl) rfl rfl hl.1 rfl (lv_room (Nat.le_of_ble_eq_true rfl)) dX4_setting_2 ⟨by first | exact Nat.le_of_ble_eq_true rfl | omega, by first | exact Nat.le_of_ble_eq_true rfl | omega⟩) hS (fun ce9 q9 H locs hT hS hce9 hcv9 hcl9 => ?_)
  exact vx_out (fun x hx => (hnt x hx).elim) hlocks hce9 hcv9 hcl9 (fun t h1 _ => ⟨rfl, hS.F h1⟩) hS.2.2 (Nat.le_of_ble_eq_true rfl) (Nat.le_of_ble_eq_true rfl)

set_option maxHeartbeats 4000000 in
set_option maxRecDepth 100000 in
theorem mX4_moved_x1 (l : Launch) (hl9 : l.stackTraces = false) (D : va_G) (y : Nat → ClassId) (ad : Nat → Nat) (S : Nat → Int32) (bn : Int32) (n : Nat) (k1 : Int32) (k2 : Int32) (v : Int32) (o : Int32) (hS1 : S 1 = nI n) (hn6 : n ≤ 6) (hb1 : ¬ (((¬ k1 < 0 ∧ ¬ (S 1 - 1) < k1) ∧ (¬ k2 < 0 ∧ ¬ (S 1 - 1) < k2) ∧ (¬ o < 0 ∧ ¬ 1 < o)) ∧ (¬ v < 0 ∧ ¬ 15 < v))) : vx_Met l yX4_moved (ws_ yX4_moved cX4_moved 5 (some .int)) ({ frames := 7, cells := 1, slots := 6, locals := 103 }) (va_Pc [.ref (ad 0), .int k1, .int k2, .int v, .int o] (zXP D y [((ad 0), .inr (4, [.ref (ad 1), .ref (ad 8), .ref (ad 9), .ref (ad 10), .ref (ad 54), .ref (ad 59), .ref (ad 60), .int bn])), ((ad 1), .inr (2, [.ref (ad 2), .ref (ad 3), .ref (ad 4), .ref (ad 5), .ref (ad 6), .ref (ad 7), .int (S 0), .int (S 1), .int (S 4), .int (S 5)]))])) (fun _ _ _ _ => False) (zXC zIO) 1 6 (fun _ => False) := by
  refine vx_ofW (cc := cX4_moved) (maxL := 5) (ret := (some .int)) (by decide) rfl ?_
  intro p e s m args below meth c s₁ B hml hnt hpre9
  obtain ⟨rfl, hZ, hP, hKN⟩ := hpre9
  have hK := hKN.1
  have hx := B.exec
  have hb := B.bytes
  have hr := B.returns
  have hts := atoms_spec (ws := (ws_ yX4_moved cX4_moved 5 (some .int))) B.pre
  have htg : ∀ w ∈ gT, w.before _ s = true := fun w h => hts w (List.mem_cons_of_mem _ h)
  have hown : s.vm.findClass RX4 = some m.cls := findClass_of_methodNamed B.named
  have hlocks := B.notSynchronized
  have hS : va_S (fun _ => False) s.heap s.heap [] := va_S.rf
  have hP : va_P D vwCl [((ad 0), .inr (4, [.ref (ad 1), .ref (ad 8), .ref (ad 9), .ref (ad 10), .ref (ad 54), .ref (ad 59), .ref (ad 60), .int bn])), ((ad 1), .inr (2, [.ref (ad 2), .ref (ad 3), .ref (ad 4), .ref (ad 5), .ref (ad 6), .ref (ad 7), .int (S 0), .int (S 1), .int (S 4), .int (S 5)]))] s.heap := hP
  have hl := lv_entry ([.ref (ad 0), .int k1, .int k2, .int v, .int o]) (n := 5) (Nat.le_of_ble_eq_true rfl)
  rw [lg_entry_eq]
  generalize (lg_sl ([.ref (ad 0), .int k1, .int k2, .int v, .int o]) ++ List.replicate (5 - (lg_sl ([.ref (ad 0), .int k1, .int k2, .int v, .int o])).length) Slot.unset).toArray = ls at hl ⊢
  have hl : lv_has ls 5 [(0, .ref (ad 0)), (1, .int k1), (2, .int k2), (3, .int v), (4, .int o)] := hl
  refine lv_iload_n hx hb dX4_moved_0 rfl (lv_at hl 1 rfl) ?_
  refine lv_aload_n hx hb dX4_moved_1 rfl (lv_at hl 0 rfl) ?_
  refine va_get (D := D) (ci := 4) (v := .ref (ad 1)) (C := RX4) (T := TX4) (N := 8) hx hb htg iX4 hown hK hP 0 rfl rfl 0 (by decide) (htg _ tw_127) (fun _ h9 => h9) rfl dX4_moved_2 ?_
  refine va_get (D := D) (ci := 2) (v := .int (S 1)) (C := RX2) (T := TX2) (N := 10) hx hb htg iX2 hown hK hP 1 rfl rfl 7 (by decide) (htg _ tw_195) (fun _ h9 => h9) rfl dX4_moved_5 ?_
  by_cases k_8 : ¬ k1 < 0 ∧ ¬ (S 1 - 1) < k1
  · refine zr_callv (va_runS (As := [.int k1, .int (S 1)]) (rest := []) ⟨hx, hb, hml, hown, hts⟩ (mX4_needIndex_i l k1 (S 1) (k_8.1) (zsu_i hS1 hn6 k_8)) (va_cwS 2 hts (zgS tw_153 tw_154 tw_23 tw_155) rfl rfl rfl (by decide +kernel) ⟨Nat.le_of_ble_eq_true rfl, Nat.le_of_ble_eq_true rfl⟩) zP_pre rfl rfl hl.1 rfl (lv_room (Nat.le_of_ble_eq_true rfl)) dX4_moved_8 ⟨Nat.zero_le _, Nat.zero_le _⟩) hS (fun H locs hw_8 hT hS => ?_)
    replace hP := hT _ _ hP
    refine lv_iload_n hx hb dX4_moved_11 rfl (lv_at hl 2 rfl) ?_
    refine lv_aload_n hx hb dX4_moved_12 rfl (lv_at hl 0 rfl) ?_
    refine va_get (D := D) (ci := 4) (v := .ref (ad 1)) (C := RX4) (T := TX4) (N := 8) hx hb htg iX4 hown hK hP 0 rfl rfl 0 (by decide) (htg _ tw_127) (fun _ h9 => h9) rfl dX4_moved_13 ?_
    refine va_get (D := D) (ci := 2) (v := .int (S 1)) (C := RX2) (T := TX2) (N := 10) hx hb htg iX2 hown hK hP 1 rfl rfl 7 (by decide) (htg _ tw_195) (fun _ h9 => h9) rfl dX4_moved_16 ?_
    by_cases k_19 : ¬ k2 < 0 ∧ ¬ (S 1 - 1) < k2
    · refine zr_callv (va_runS (As := [.int k2, .int (S 1)]) (rest := []) ⟨hx, hb, hml, hown, hts⟩ (mX4_needIndex_i l k2 (S 1) (k_19.1) (zsu_i hS1 hn6 k_19)) (va_cwS 2 hts (zgS tw_153 tw_154 tw_23 tw_155) rfl rfl rfl (by decide +kernel) ⟨Nat.le_of_ble_eq_true rfl, Nat.le_of_ble_eq_true rfl⟩) zP_pre rfl rfl hl.1 rfl (lv_room (Nat.le_of_ble_eq_true rfl)) dX4_moved_19 ⟨Nat.zero_le _, Nat.zero_le _⟩) hS (fun H locs hw_19 hT hS => ?_)
      replace hP := hT _ _ hP
      refine lv_iload_n hx hb dX4_moved_22 rfl (lv_at hl 3 rfl) ?_
      refine lv_bipush (v := 16) hx hb dX4_moved_23 (by decide) ?_
      by_cases k_25 : ¬ v < 0 ∧ ¬ 15 < v
      · refine zr_callv (va_runS (As := [.int v, .int 16]) (rest := []) ⟨hx, hb, hml, hown, hts⟩ (mX4_needIndex_i l v 16 (k_25.1) (zix_i k_25.2)) (va_cwS 2 hts (zgS tw_153 tw_154 tw_23 tw_155) rfl rfl rfl (by decide +kernel) ⟨Nat.le_of_ble_eq_true rfl, Nat.le_of_ble_eq_true rfl⟩) zP_pre rfl rfl hl.1 rfl (lv_room (Nat.le_of_ble_eq_true rfl)) dX4_moved_25 ⟨Nat.zero_le _, Nat.zero_le _⟩) hS (fun H locs hw_25 hT hS => ?_)
        replace hP := hT _ _ hP
        refine lv_iload hx hb dX4_moved_28 (lv_at hl 4 rfl) ?_
        refine lv_iconst (v := 2) hx hb dX4_moved_30 (by decide) ?_
        by_cases k_31 : ¬ o < 0 ∧ ¬ 1 < o
        · exact absurd ⟨⟨k_8, k_19, k_31⟩, k_25⟩ hb1
        · refine zx_call (vx_runS (As := [.int o, .int 2]) (rest := []) ⟨hx, hb, hml, hown, hts⟩ (mX4_needIndex_x l hl9 D y o 2 (zix_x k_31)) (va_cwS 2 hts (zgS tw_153 tw_154 tw_23 tw_155) rfl rfl rfl (by decide +kernel) ⟨Nat.le_of_ble_eq_true rfl, Nat.le_of_ble_eq_true rfl⟩) (zXP_pre hKN hP hZ hS [] rfl) rfl rfl hl.1 rfl (lv_room (Nat.le_of_ble_eq_true rfl)) dX4_moved_31 ⟨by first | exact Nat.le_of_ble_eq_true rfl | omega, by first | exact Nat.le_of_ble_eq_true rfl | omega⟩) hS (fun ce9 q9 H locs hT hS hce9 hcv9 hcl9 => ?_)
          exact vx_out (fun x hx => (hnt x hx).elim) hlocks hce9 hcv9 hcl9 (fun t h1 _ => ⟨rfl, hS.F h1⟩) hS.2.2 (Nat.le_of_ble_eq_true rfl) (Nat.le_of_ble_eq_true rfl)
      · refine zx_call (vx_runS (As := [.int v, .int 16]) (rest := []) ⟨hx, hb, hml, hown, hts⟩ (mX4_needIndex_x l hl9 D y v 16 (zix_x k_25)) (va_cwS 2 hts (zgS tw_153 tw_154 tw_23 tw_155) rfl rfl rfl (by decide +kernel) ⟨Nat.le_of_ble_eq_true rfl, Nat.le_of_ble_eq_true rfl⟩) (zXP_pre hKN hP hZ hS [] rfl) rfl rfl hl.1 rfl (lv_room (Nat.le_of_ble_eq_true rfl)) dX4_moved_25 ⟨by first | exact Nat.le_of_ble_eq_true rfl | omega, by first | exact Nat.le_of_ble_eq_true rfl | omega⟩) hS (fun ce9 q9 H locs hT hS hce9 hcv9 hcl9 => ?_)
        exact vx_out (fun x hx => (hnt x hx).elim) hlocks hce9 hcv9 hcl9 (fun t h1 _ => ⟨rfl, hS.F h1⟩) hS.2.2 (Nat.le_of_ble_eq_true rfl) (Nat.le_of_ble_eq_true rfl)
    · refine zx_call (vx_runS (As := [.int k2, .int (S 1)]) (rest := []) ⟨hx, hb, hml, hown, hts⟩ (mX4_needIndex_x l hl9 D y k2 (S 1) (zsu_x hS1 hn6 k_19)) (va_cwS 2 hts (zgS tw_153 tw_154 tw_23 tw_155) rfl rfl rfl (by decide +kernel) ⟨Nat.le_of_ble_eq_true rfl, Nat.le_of_ble_eq_true rfl⟩) (zXP_pre hKN hP hZ hS [] rfl) rfl rfl hl.1 rfl (lv_room (Nat.le_of_ble_eq_true rfl)) dX4_moved_19 ⟨by first | exact Nat.le_of_ble_eq_true rfl | omega, by first | exact Nat.le_of_ble_eq_true rfl | omega⟩) hS (fun ce9 q9 H locs hT hS hce9 hcv9 hcl9 => ?_)
      exact vx_out (fun x hx => (hnt x hx).elim) hlocks hce9 hcv9 hcl9 (fun t h1 _ => ⟨rfl, hS.F h1⟩) hS.2.2 (Nat.le_of_ble_eq_true rfl) (Nat.le_of_ble_eq_true rfl)
  · refine zx_call (vx_runS (As := [.int k1, .int (S 1)]) (rest := []) ⟨hx, hb, hml, hown, hts⟩ (mX4_needIndex_x l hl9 D y k1 (S 1) (zsu_x hS1 hn6 k_8)) (va_cwS 2 hts (zgS tw_153 tw_154 tw_23 tw_155) rfl rfl rfl (by decide +kernel) ⟨Nat.le_of_ble_eq_true rfl, Nat.le_of_ble_eq_true rfl⟩) (zXP_pre hKN hP hZ hS [] rfl) rfl rfl hl.1 rfl (lv_room (Nat.le_of_ble_eq_true rfl)) dX4_moved_8 ⟨by first | exact Nat.le_of_ble_eq_true rfl | omega, by first | exact Nat.le_of_ble_eq_true rfl | omega⟩) hS (fun ce9 q9 H locs hT hS hce9 hcv9 hcl9 => ?_)
    exact vx_out (fun x hx => (hnt x hx).elim) hlocks hce9 hcv9 hcl9 (fun t h1 _ => ⟨rfl, hS.F h1⟩) hS.2.2 (Nat.le_of_ble_eq_true rfl) (Nat.le_of_ble_eq_true rfl)

set_option maxHeartbeats 4000000 in
set_option maxRecDepth 100000 in
theorem mX4_slidesAt_x1 (l : Launch) (hl9 : l.stackTraces = false) (D : va_G) (y : Nat → ClassId) (ad : Nat → Nat) (S : Nat → Int32) (bn : Int32) (n : Nat) (k1 : Int32) (k2 : Int32) (o : Int32) (hS1 : S 1 = nI n) (hn6 : n ≤ 6) (hb1 : ¬ ((¬ k1 < 0 ∧ ¬ (S 1 - 1) < k1) ∧ (¬ k2 < 0 ∧ ¬ (S 1 - 1) < k2) ∧ (¬ o < 0 ∧ ¬ 1 < o))) : vx_Met l yX4_slidesAt (ws_ yX4_slidesAt cX4_slidesAt 8 (some .int)) ({ frames := 7, cells := 1, slots := 6, locals := 103 }) (va_Pc [.ref (ad 0), .int k1, .int k2, .int o] (zXP D y [((ad 0), .inr (4, [.ref (ad 1), .ref (ad 8), .ref (ad 9), .ref (ad 10), .ref (ad 54), .ref (ad 59), .ref (ad 60), .int bn])), ((ad 1), .inr (2, [.ref (ad 2), .ref (ad 3), .ref (ad 4), .ref (ad 5), .ref (ad 6), .ref (ad 7), .int (S 0), .int (S 1), .int (S 4), .int (S 5)]))])) (fun _ _ _ _ => False) (zXC zIO) 1 6 (fun _ => False) := by
  refine vx_ofW (cc := cX4_slidesAt) (maxL := 8) (ret := (some .int)) (by decide) rfl ?_
  intro p e s m args below meth c s₁ B hml hnt hpre9
  obtain ⟨rfl, hZ, hP, hKN⟩ := hpre9
  have hK := hKN.1
  have hx := B.exec
  have hb := B.bytes
  have hr := B.returns
  have hts := atoms_spec (ws := (ws_ yX4_slidesAt cX4_slidesAt 8 (some .int))) B.pre
  have htg : ∀ w ∈ gT, w.before _ s = true := fun w h => hts w (List.mem_cons_of_mem _ h)
  have hown : s.vm.findClass RX4 = some m.cls := findClass_of_methodNamed B.named
  have hlocks := B.notSynchronized
  have hS : va_S (fun _ => False) s.heap s.heap [] := va_S.rf
  have hP : va_P D vwCl [((ad 0), .inr (4, [.ref (ad 1), .ref (ad 8), .ref (ad 9), .ref (ad 10), .ref (ad 54), .ref (ad 59), .ref (ad 60), .int bn])), ((ad 1), .inr (2, [.ref (ad 2), .ref (ad 3), .ref (ad 4), .ref (ad 5), .ref (ad 6), .ref (ad 7), .int (S 0), .int (S 1), .int (S 4), .int (S 5)]))] s.heap := hP
  have hl := lv_entry ([.ref (ad 0), .int k1, .int k2, .int o]) (n := 8) (Nat.le_of_ble_eq_true rfl)
  rw [lg_entry_eq]
  generalize (lg_sl ([.ref (ad 0), .int k1, .int k2, .int o]) ++ List.replicate (8 - (lg_sl ([.ref (ad 0), .int k1, .int k2, .int o])).length) Slot.unset).toArray = ls at hl ⊢
  have hl : lv_has ls 8 [(0, .ref (ad 0)), (1, .int k1), (2, .int k2), (3, .int o)] := hl
  refine lv_iload_n hx hb dX4_slidesAt_0 rfl (lv_at hl 1 rfl) ?_
  refine lv_aload_n hx hb dX4_slidesAt_1 rfl (lv_at hl 0 rfl) ?_
  refine va_get (D := D) (ci := 4) (v := .ref (ad 1)) (C := RX4) (T := TX4) (N := 8) hx hb htg iX4 hown hK hP 0 rfl rfl 0 (by decide) (htg _ tw_127) (fun _ h9 => h9) rfl dX4_slidesAt_2 ?_
  refine va_get (D := D) (ci := 2) (v := .int (S 1)) (C := RX2) (T := TX2) (N := 10) hx hb htg iX2 hown hK hP 1 rfl rfl 7 (by decide) (htg _ tw_195) (fun _ h9 => h9) rfl dX4_slidesAt_5 ?_
  by_cases k_8 : ¬ k1 < 0 ∧ ¬ (S 1 - 1) < k1
  · refine zr_callv (va_runS (As := [.int k1, .int (S 1)]) (rest := []) ⟨hx, hb, hml, hown, hts⟩ (mX4_needIndex_i l k1 (S 1) (k_8.1) (zsu_i hS1 hn6 k_8)) (va_cwS 2 hts (zgS tw_153 tw_154 tw_23 tw_155) rfl rfl rfl (by decide +kernel) ⟨Nat.le_of_ble_eq_true rfl, Nat.le_of_ble_eq_true rfl⟩) zP_pre rfl rfl hl.1 rfl (lv_room (Nat.le_of_ble_eq_true rfl)) dX4_slidesAt_8 ⟨Nat.zero_le _, Nat.zero_le _⟩) hS (fun H locs hw_8 hT hS => ?_)
    replace hP := hT _ _ hP
    refine lv_iload_n hx hb dX4_slidesAt_11 rfl (lv_at hl 2 rfl) ?_
    refine lv_aload_n hx hb dX4_slidesAt_12 rfl (lv_at hl 0 rfl) ?_
    refine va_get (D := D) (ci := 4) (v := .ref (ad 1)) (C := RX4) (T := TX4) (N := 8) hx hb htg iX4 hown hK hP 0 rfl rfl 0 (by decide) (htg _ tw_127) (fun _ h9 => h9) rfl dX4_slidesAt_13 ?_
    refine va_get (D := D) (ci := 2) (v := .int (S 1)) (C := RX2) (T := TX2) (N := 10) hx hb htg iX2 hown hK hP 1 rfl rfl 7 (by decide) (htg _ tw_195) (fun _ h9 => h9) rfl dX4_slidesAt_16 ?_
    by_cases k_19 : ¬ k2 < 0 ∧ ¬ (S 1 - 1) < k2
    · refine zr_callv (va_runS (As := [.int k2, .int (S 1)]) (rest := []) ⟨hx, hb, hml, hown, hts⟩ (mX4_needIndex_i l k2 (S 1) (k_19.1) (zsu_i hS1 hn6 k_19)) (va_cwS 2 hts (zgS tw_153 tw_154 tw_23 tw_155) rfl rfl rfl (by decide +kernel) ⟨Nat.le_of_ble_eq_true rfl, Nat.le_of_ble_eq_true rfl⟩) zP_pre rfl rfl hl.1 rfl (lv_room (Nat.le_of_ble_eq_true rfl)) dX4_slidesAt_19 ⟨Nat.zero_le _, Nat.zero_le _⟩) hS (fun H locs hw_19 hT hS => ?_)
      replace hP := hT _ _ hP
      refine lv_iload_n hx hb dX4_slidesAt_22 rfl (lv_at hl 3 rfl) ?_
      refine lv_iconst (v := 2) hx hb dX4_slidesAt_23 (by decide) ?_
      by_cases k_24 : ¬ o < 0 ∧ ¬ 1 < o
      · exact absurd ⟨k_8, k_19, k_24⟩ hb1
      · refine zx_call (vx_runS (As := [.int o, .int 2]) (rest := []) ⟨hx, hb, hml, hown, hts⟩ (mX4_needIndex_x l hl9 D y o 2 (zix_x k_24)) (va_cwS 2 hts (zgS tw_153 tw_154 tw_23 tw_155) rfl rfl rfl (by decide +kernel) ⟨Nat.le_of_ble_eq_true rfl, Nat.le_of_ble_eq_true rfl⟩) (zXP_pre hKN hP hZ hS [] rfl) rfl rfl hl.1 rfl (lv_room (Nat.le_of_ble_eq_true rfl)) dX4_slidesAt_24 ⟨by first | exact Nat.le_of_ble_eq_true rfl | omega, by first | exact Nat.le_of_ble_eq_true rfl | omega⟩) hS (fun ce9 q9 H locs hT hS hce9 hcv9 hcl9 => ?_)
        exact vx_out (fun x hx => (hnt x hx).elim) hlocks hce9 hcv9 hcl9 (fun t h1 _ => ⟨rfl, hS.F h1⟩) hS.2.2 (Nat.le_of_ble_eq_true rfl) (Nat.le_of_ble_eq_true rfl)
    · refine zx_call (vx_runS (As := [.int k2, .int (S 1)]) (rest := []) ⟨hx, hb, hml, hown, hts⟩ (mX4_needIndex_x l hl9 D y k2 (S 1) (zsu_x hS1 hn6 k_19)) (va_cwS 2 hts (zgS tw_153 tw_154 tw_23 tw_155) rfl rfl rfl (by decide +kernel) ⟨Nat.le_of_ble_eq_true rfl, Nat.le_of_ble_eq_true rfl⟩) (zXP_pre hKN hP hZ hS [] rfl) rfl rfl hl.1 rfl (lv_room (Nat.le_of_ble_eq_true rfl)) dX4_slidesAt_19 ⟨by first | exact Nat.le_of_ble_eq_true rfl | omega, by first | exact Nat.le_of_ble_eq_true rfl | omega⟩) hS (fun ce9 q9 H locs hT hS hce9 hcv9 hcl9 => ?_)
      exact vx_out (fun x hx => (hnt x hx).elim) hlocks hce9 hcv9 hcl9 (fun t h1 _ => ⟨rfl, hS.F h1⟩) hS.2.2 (Nat.le_of_ble_eq_true rfl) (Nat.le_of_ble_eq_true rfl)
  · refine zx_call (vx_runS (As := [.int k1, .int (S 1)]) (rest := []) ⟨hx, hb, hml, hown, hts⟩ (mX4_needIndex_x l hl9 D y k1 (S 1) (zsu_x hS1 hn6 k_8)) (va_cwS 2 hts (zgS tw_153 tw_154 tw_23 tw_155) rfl rfl rfl (by decide +kernel) ⟨Nat.le_of_ble_eq_true rfl, Nat.le_of_ble_eq_true rfl⟩) (zXP_pre hKN hP hZ hS [] rfl) rfl rfl hl.1 rfl (lv_room (Nat.le_of_ble_eq_true rfl)) dX4_slidesAt_8 ⟨by first | exact Nat.le_of_ble_eq_true rfl | omega, by first | exact Nat.le_of_ble_eq_true rfl | omega⟩) hS (fun ce9 q9 H locs hT hS hce9 hcv9 hcl9 => ?_)
    exact vx_out (fun x hx => (hnt x hx).elim) hlocks hce9 hcv9 hcl9 (fun t h1 _ => ⟨rfl, hS.F h1⟩) hS.2.2 (Nat.le_of_ble_eq_true rfl) (Nat.le_of_ble_eq_true rfl)

set_option maxHeartbeats 4000000 in
set_option maxRecDepth 100000 in
theorem mX4_speed_x1 (l : Launch) (hl9 : l.stackTraces = false) (D : va_G) (y : Nat → ClassId) (ad : Nat → Nat) (S : Nat → Int32) (bn : Int32) (n : Nat) (k1 : Int32) (k2 : Int32) (o : Int32) (hS1 : S 1 = nI n) (hn6 : n ≤ 6) (hb1 : ¬ ((¬ k1 < 0 ∧ ¬ (S 1 - 1) < k1) ∧ (¬ k2 < 0 ∧ ¬ (S 1 - 1) < k2) ∧ (¬ o < 0 ∧ ¬ 1 < o))) : vx_Met l yX4_speed (ws_ yX4_speed cX4_speed 5 (some .double)) ({ frames := 7, cells := 1, slots := 6, locals := 103 }) (va_Pc [.ref (ad 0), .int k1, .int k2, .int o] (zXP D y [((ad 0), .inr (4, [.ref (ad 1), .ref (ad 8), .ref (ad 9), .ref (ad 10), .ref (ad 54), .ref (ad 59), .ref (ad 60), .int bn])), ((ad 1), .inr (2, [.ref (ad 2), .ref (ad 3), .ref (ad 4), .ref (ad 5), .ref (ad 6), .ref (ad 7), .int (S 0), .int (S 1), .int (S 4), .int (S 5)]))])) (fun _ _ _ _ => False) (zXC zIO) 1 6 (fun _ => False) := by
  refine vx_ofW (cc := cX4_speed) (maxL := 5) (ret := (some .double)) (by decide) rfl ?_
  intro p e s m args below meth c s₁ B hml hnt hpre9
  obtain ⟨rfl, hZ, hP, hKN⟩ := hpre9
  have hK := hKN.1
  have hx := B.exec
  have hb := B.bytes
  have hr := B.returns
  have hts := atoms_spec (ws := (ws_ yX4_speed cX4_speed 5 (some .double))) B.pre
  have htg : ∀ w ∈ gT, w.before _ s = true := fun w h => hts w (List.mem_cons_of_mem _ h)
  have hown : s.vm.findClass RX4 = some m.cls := findClass_of_methodNamed B.named
  have hlocks := B.notSynchronized
  have hS : va_S (fun _ => False) s.heap s.heap [] := va_S.rf
  have hP : va_P D vwCl [((ad 0), .inr (4, [.ref (ad 1), .ref (ad 8), .ref (ad 9), .ref (ad 10), .ref (ad 54), .ref (ad 59), .ref (ad 60), .int bn])), ((ad 1), .inr (2, [.ref (ad 2), .ref (ad 3), .ref (ad 4), .ref (ad 5), .ref (ad 6), .ref (ad 7), .int (S 0), .int (S 1), .int (S 4), .int (S 5)]))] s.heap := hP
  have hl := lv_entry ([.ref (ad 0), .int k1, .int k2, .int o]) (n := 5) (Nat.le_of_ble_eq_true rfl)
  rw [lg_entry_eq]
  generalize (lg_sl ([.ref (ad 0), .int k1, .int k2, .int o]) ++ List.replicate (5 - (lg_sl ([.ref (ad 0), .int k1, .int k2, .int o])).length) Slot.unset).toArray = ls at hl ⊢
  have hl : lv_has ls 5 [(0, .ref (ad 0)), (1, .int k1), (2, .int k2), (3, .int o)] := hl
  refine lv_iload_n hx hb dX4_speed_0 rfl (lv_at hl 1 rfl) ?_
  refine lv_aload_n hx hb dX4_speed_1 rfl (lv_at hl 0 rfl) ?_
  refine va_get (D := D) (ci := 4) (v := .ref (ad 1)) (C := RX4) (T := TX4) (N := 8) hx hb htg iX4 hown hK hP 0 rfl rfl 0 (by decide) (htg _ tw_127) (fun _ h9 => h9) rfl dX4_speed_2 ?_
  refine va_get (D := D) (ci := 2) (v := .int (S 1)) (C := RX2) (T := TX2) (N := 10) hx hb htg iX2 hown hK hP 1 rfl rfl 7 (by decide) (htg _ tw_195) (fun _ h9 => h9) rfl dX4_speed_5 ?_
  by_cases k_8 : ¬ k1 < 0 ∧ ¬ (S 1 - 1) < k1
  · refine zr_callv (va_runS (As := [.int k1, .int (S 1)]) (rest := []) ⟨hx, hb, hml, hown, hts⟩ (mX4_needIndex_i l k1 (S 1) (k_8.1) (zsu_i hS1 hn6 k_8)) (va_cwS 2 hts (zgS tw_153 tw_154 tw_23 tw_155) rfl rfl rfl (by decide +kernel) ⟨Nat.le_of_ble_eq_true rfl, Nat.le_of_ble_eq_true rfl⟩) zP_pre rfl rfl hl.1 rfl (lv_room (Nat.le_of_ble_eq_true rfl)) dX4_speed_8 ⟨Nat.zero_le _, Nat.zero_le _⟩) hS (fun H locs hw_8 hT hS => ?_)
    replace hP := hT _ _ hP
    refine lv_iload_n hx hb dX4_speed_11 rfl (lv_at hl 2 rfl) ?_
    refine lv_aload_n hx hb dX4_speed_12 rfl (lv_at hl 0 rfl) ?_
    refine va_get (D := D) (ci := 4) (v := .ref (ad 1)) (C := RX4) (T := TX4) (N := 8) hx hb htg iX4 hown hK hP 0 rfl rfl 0 (by decide) (htg _ tw_127) (fun _ h9 => h9) rfl dX4_speed_13 ?_
    refine va_get (D := D) (ci := 2) (v := .int (S 1)) (C := RX2) (T := TX2) (N := 10) hx hb htg iX2 hown hK hP 1 rfl rfl 7 (by decide) (htg _ tw_195) (fun _ h9 => h9) rfl dX4_speed_16 ?_
    by_cases k_19 : ¬ k2 < 0 ∧ ¬ (S 1 - 1) < k2
    · refine zr_callv (va_runS (As := [.int k2, .int (S 1)]) (rest := []) ⟨hx, hb, hml, hown, hts⟩ (mX4_needIndex_i l k2 (S 1) (k_19.1) (zsu_i hS1 hn6 k_19)) (va_cwS 2 hts (zgS tw_153 tw_154 tw_23 tw_155) rfl rfl rfl (by decide +kernel) ⟨Nat.le_of_ble_eq_true rfl, Nat.le_of_ble_eq_true rfl⟩) zP_pre rfl rfl hl.1 rfl (lv_room (Nat.le_of_ble_eq_true rfl)) dX4_speed_19 ⟨Nat.zero_le _, Nat.zero_le _⟩) hS (fun H locs hw_19 hT hS => ?_)
      replace hP := hT _ _ hP
      refine lv_iload_n hx hb dX4_speed_22 rfl (lv_at hl 3 rfl) ?_
      refine lv_iconst (v := 2) hx hb dX4_speed_23 (by decide) ?_
      by_cases k_24 : ¬ o < 0 ∧ ¬ 1 < o
      · exact absurd ⟨k_8, k_19, k_24⟩ hb1
      · refine zx_call (vx_runS (As := [.int o, .int 2]) (rest := []) ⟨hx, hb, hml, hown, hts⟩ (mX4_needIndex_x l hl9 D y o 2 (zix_x k_24)) (va_cwS 2 hts (zgS tw_153 tw_154 tw_23 tw_155) rfl rfl rfl (by decide +kernel) ⟨Nat.le_of_ble_eq_true rfl, Nat.le_of_ble_eq_true rfl⟩) (zXP_pre hKN hP hZ hS [] rfl) rfl rfl hl.1 rfl (lv_room (Nat.le_of_ble_eq_true rfl)) dX4_speed_24 ⟨by first | exact Nat.le_of_ble_eq_true rfl | omega, by first | exact Nat.le_of_ble_eq_true rfl | omega⟩) hS (fun ce9 q9 H locs hT hS hce9 hcv9 hcl9 => ?_)
        exact vx_out (fun x hx => (hnt x hx).elim) hlocks hce9 hcv9 hcl9 (fun t h1 _ => ⟨rfl, hS.F h1⟩) hS.2.2 (Nat.le_of_ble_eq_true rfl) (Nat.le_of_ble_eq_true rfl)
    · refine zx_call (vx_runS (As := [.int k2, .int (S 1)]) (rest := []) ⟨hx, hb, hml, hown, hts⟩ (mX4_needIndex_x l hl9 D y k2 (S 1) (zsu_x hS1 hn6 k_19)) (va_cwS 2 hts (zgS tw_153 tw_154 tw_23 tw_155) rfl rfl rfl (by decide +kernel) ⟨Nat.le_of_ble_eq_true rfl, Nat.le_of_ble_eq_true rfl⟩) (zXP_pre hKN hP hZ hS [] rfl) rfl rfl hl.1 rfl (lv_room (Nat.le_of_ble_eq_true rfl)) dX4_speed_19 ⟨by first | exact Nat.le_of_ble_eq_true rfl | omega, by first | exact Nat.le_of_ble_eq_true rfl | omega⟩) hS (fun ce9 q9 H locs hT hS hce9 hcv9 hcl9 => ?_)
      exact vx_out (fun x hx => (hnt x hx).elim) hlocks hce9 hcv9 hcl9 (fun t h1 _ => ⟨rfl, hS.F h1⟩) hS.2.2 (Nat.le_of_ble_eq_true rfl) (Nat.le_of_ble_eq_true rfl)
  · refine zx_call (vx_runS (As := [.int k1, .int (S 1)]) (rest := []) ⟨hx, hb, hml, hown, hts⟩ (mX4_needIndex_x l hl9 D y k1 (S 1) (zsu_x hS1 hn6 k_8)) (va_cwS 2 hts (zgS tw_153 tw_154 tw_23 tw_155) rfl rfl rfl (by decide +kernel) ⟨Nat.le_of_ble_eq_true rfl, Nat.le_of_ble_eq_true rfl⟩) (zXP_pre hKN hP hZ hS [] rfl) rfl rfl hl.1 rfl (lv_room (Nat.le_of_ble_eq_true rfl)) dX4_speed_8 ⟨by first | exact Nat.le_of_ble_eq_true rfl | omega, by first | exact Nat.le_of_ble_eq_true rfl | omega⟩) hS (fun ce9 q9 H locs hT hS hce9 hcv9 hcl9 => ?_)
    exact vx_out (fun x hx => (hnt x hx).elim) hlocks hce9 hcv9 hcl9 (fun t h1 _ => ⟨rfl, hS.F h1⟩) hS.2.2 (Nat.le_of_ble_eq_true rfl) (Nat.le_of_ble_eq_true rfl)

set_option maxHeartbeats 4000000 in
set_option maxRecDepth 100000 in
theorem mX4_firstMoved_x1 (l : Launch) (hl9 : l.stackTraces = false) (D : va_G) (y : Nat → ClassId) (ad : Nat → Nat) (S : Nat → Int32) (bn : Int32) (n : Nat) (k1 : Int32) (k2 : Int32) (o : Int32) (x : Int32) (hS1 : S 1 = nI n) (hn6 : n ≤ 6) (hb1 : ¬ ((¬ k1 < 0 ∧ ¬ (S 1 - 1) < k1) ∧ (¬ k2 < 0 ∧ ¬ (S 1 - 1) < k2) ∧ (¬ o < 0 ∧ ¬ 1 < o))) : vx_Met l yX4_firstMoved (ws_ yX4_firstMoved cX4_firstMoved 7 (some .int)) ({ frames := 7, cells := 1, slots := 6, locals := 103 }) (va_Pc [.ref (ad 0), .int k1, .int k2, .int o, .int x] (zXP D y [((ad 0), .inr (4, [.ref (ad 1), .ref (ad 8), .ref (ad 9), .ref (ad 10), .ref (ad 54), .ref (ad 59), .ref (ad 60), .int bn])), ((ad 1), .inr (2, [.ref (ad 2), .ref (ad 3), .ref (ad 4), .ref (ad 5), .ref (ad 6), .ref (ad 7), .int (S 0), .int (S 1), .int (S 4), .int (S 5)]))])) (fun _ _ _ _ => False) (zXC zIO) 1 6 (fun _ => False) := by
  refine vx_ofW (cc := cX4_firstMoved) (maxL := 7) (ret := (some .int)) (by decide) rfl ?_
  intro p e s m args below meth c s₁ B hml hnt hpre9
  obtain ⟨rfl, hZ, hP, hKN⟩ := hpre9
  have hK := hKN.1
  have hx := B.exec
  have hb := B.bytes
  have hr := B.returns
  have hts := atoms_spec (ws := (ws_ yX4_firstMoved cX4_firstMoved 7 (some .int))) B.pre
  have htg : ∀ w ∈ gT, w.before _ s = true := fun w h => hts w (List.mem_cons_of_mem _ h)
  have hown : s.vm.findClass RX4 = some m.cls := findClass_of_methodNamed B.named
  have hlocks := B.notSynchronized
  have hS : va_S (fun _ => False) s.heap s.heap [] := va_S.rf
  have hP : va_P D vwCl [((ad 0), .inr (4, [.ref (ad 1), .ref (ad 8), .ref (ad 9), .ref (ad 10), .ref (ad 54), .ref (ad 59), .ref (ad 60), .int bn])), ((ad 1), .inr (2, [.ref (ad 2), .ref (ad 3), .ref (ad 4), .ref (ad 5), .ref (ad 6), .ref (ad 7), .int (S 0), .int (S 1), .int (S 4), .int (S 5)]))] s.heap := hP
  have hl := lv_entry ([.ref (ad 0), .int k1, .int k2, .int o, .int x]) (n := 7) (Nat.le_of_ble_eq_true rfl)
  rw [lg_entry_eq]
  generalize (lg_sl ([.ref (ad 0), .int k1, .int k2, .int o, .int x]) ++ List.replicate (7 - (lg_sl ([.ref (ad 0), .int k1, .int k2, .int o, .int x])).length) Slot.unset).toArray = ls at hl ⊢
  have hl : lv_has ls 7 [(0, .ref (ad 0)), (1, .int k1), (2, .int k2), (3, .int o), (4, .int x)] := hl
  refine lv_iload_n hx hb dX4_firstMoved_0 rfl (lv_at hl 1 rfl) ?_
  refine lv_aload_n hx hb dX4_firstMoved_1 rfl (lv_at hl 0 rfl) ?_
  refine va_get (D := D) (ci := 4) (v := .ref (ad 1)) (C := RX4) (T := TX4) (N := 8) hx hb htg iX4 hown hK hP 0 rfl rfl 0 (by decide) (htg _ tw_127) (fun _ h9 => h9) rfl dX4_firstMoved_2 ?_
  refine va_get (D := D) (ci := 2) (v := .int (S 1)) (C := RX2) (T := TX2) (N := 10) hx hb htg iX2 hown hK hP 1 rfl rfl 7 (by decide) (htg _ tw_195) (fun _ h9 => h9) rfl dX4_firstMoved_5 ?_
  by_cases k_8 : ¬ k1 < 0 ∧ ¬ (S 1 - 1) < k1
  · refine zr_callv (va_runS (As := [.int k1, .int (S 1)]) (rest := []) ⟨hx, hb, hml, hown, hts⟩ (mX4_needIndex_i l k1 (S 1) (k_8.1) (zsu_i hS1 hn6 k_8)) (va_cwS 2 hts (zgS tw_153 tw_154 tw_23 tw_155) rfl rfl rfl (by decide +kernel) ⟨Nat.le_of_ble_eq_true rfl, Nat.le_of_ble_eq_true rfl⟩) zP_pre rfl rfl hl.1 rfl (lv_room (Nat.le_of_ble_eq_true rfl)) dX4_firstMoved_8 ⟨Nat.zero_le _, Nat.zero_le _⟩) hS (fun H locs hw_8 hT hS => ?_)
    replace hP := hT _ _ hP
    refine lv_iload_n hx hb dX4_firstMoved_11 rfl (lv_at hl 2 rfl) ?_
    refine lv_aload_n hx hb dX4_firstMoved_12 rfl (lv_at hl 0 rfl) ?_
    refine va_get (D := D) (ci := 4) (v := .ref (ad 1)) (C := RX4) (T := TX4) (N := 8) hx hb htg iX4 hown hK hP 0 rfl rfl 0 (by decide) (htg _ tw_127) (fun _ h9 => h9) rfl dX4_firstMoved_13 ?_
    refine va_get (D := D) (ci := 2) (v := .int (S 1)) (C := RX2) (T := TX2) (N := 10) hx hb htg iX2 hown hK hP 1 rfl rfl 7 (by decide) (htg _ tw_195) (fun _ h9 => h9) rfl dX4_firstMoved_16 ?_
    by_cases k_19 : ¬ k2 < 0 ∧ ¬ (S 1 - 1) < k2
    · refine zr_callv (va_runS (As := [.int k2, .int (S 1)]) (rest := []) ⟨hx, hb, hml, hown, hts⟩ (mX4_needIndex_i l k2 (S 1) (k_19.1) (zsu_i hS1 hn6 k_19)) (va_cwS 2 hts (zgS tw_153 tw_154 tw_23 tw_155) rfl rfl rfl (by decide +kernel) ⟨Nat.le_of_ble_eq_true rfl, Nat.le_of_ble_eq_true rfl⟩) zP_pre rfl rfl hl.1 rfl (lv_room (Nat.le_of_ble_eq_true rfl)) dX4_firstMoved_19 ⟨Nat.zero_le _, Nat.zero_le _⟩) hS (fun H locs hw_19 hT hS => ?_)
      replace hP := hT _ _ hP
      refine lv_iload_n hx hb dX4_firstMoved_22 rfl (lv_at hl 3 rfl) ?_
      refine lv_iconst (v := 2) hx hb dX4_firstMoved_23 (by decide) ?_
      by_cases k_24 : ¬ o < 0 ∧ ¬ 1 < o
      · exact absurd ⟨k_8, k_19, k_24⟩ hb1
      · refine zx_call (vx_runS (As := [.int o, .int 2]) (rest := []) ⟨hx, hb, hml, hown, hts⟩ (mX4_needIndex_x l hl9 D y o 2 (zix_x k_24)) (va_cwS 2 hts (zgS tw_153 tw_154 tw_23 tw_155) rfl rfl rfl (by decide +kernel) ⟨Nat.le_of_ble_eq_true rfl, Nat.le_of_ble_eq_true rfl⟩) (zXP_pre hKN hP hZ hS [] rfl) rfl rfl hl.1 rfl (lv_room (Nat.le_of_ble_eq_true rfl)) dX4_firstMoved_24 ⟨by first | exact Nat.le_of_ble_eq_true rfl | omega, by first | exact Nat.le_of_ble_eq_true rfl | omega⟩) hS (fun ce9 q9 H locs hT hS hce9 hcv9 hcl9 => ?_)
        exact vx_out (fun x hx => (hnt x hx).elim) hlocks hce9 hcv9 hcl9 (fun t h1 _ => ⟨rfl, hS.F h1⟩) hS.2.2 (Nat.le_of_ble_eq_true rfl) (Nat.le_of_ble_eq_true rfl)
    · refine zx_call (vx_runS (As := [.int k2, .int (S 1)]) (rest := []) ⟨hx, hb, hml, hown, hts⟩ (mX4_needIndex_x l hl9 D y k2 (S 1) (zsu_x hS1 hn6 k_19)) (va_cwS 2 hts (zgS tw_153 tw_154 tw_23 tw_155) rfl rfl rfl (by decide +kernel) ⟨Nat.le_of_ble_eq_true rfl, Nat.le_of_ble_eq_true rfl⟩) (zXP_pre hKN hP hZ hS [] rfl) rfl rfl hl.1 rfl (lv_room (Nat.le_of_ble_eq_true rfl)) dX4_firstMoved_19 ⟨by first | exact Nat.le_of_ble_eq_true rfl | omega, by first | exact Nat.le_of_ble_eq_true rfl | omega⟩) hS (fun ce9 q9 H locs hT hS hce9 hcv9 hcl9 => ?_)
      exact vx_out (fun x hx => (hnt x hx).elim) hlocks hce9 hcv9 hcl9 (fun t h1 _ => ⟨rfl, hS.F h1⟩) hS.2.2 (Nat.le_of_ble_eq_true rfl) (Nat.le_of_ble_eq_true rfl)
  · refine zx_call (vx_runS (As := [.int k1, .int (S 1)]) (rest := []) ⟨hx, hb, hml, hown, hts⟩ (mX4_needIndex_x l hl9 D y k1 (S 1) (zsu_x hS1 hn6 k_8)) (va_cwS 2 hts (zgS tw_153 tw_154 tw_23 tw_155) rfl rfl rfl (by decide +kernel) ⟨Nat.le_of_ble_eq_true rfl, Nat.le_of_ble_eq_true rfl⟩) (zXP_pre hKN hP hZ hS [] rfl) rfl rfl hl.1 rfl (lv_room (Nat.le_of_ble_eq_true rfl)) dX4_firstMoved_8 ⟨by first | exact Nat.le_of_ble_eq_true rfl | omega, by first | exact Nat.le_of_ble_eq_true rfl | omega⟩) hS (fun ce9 q9 H locs hT hS hce9 hcv9 hcl9 => ?_)
    exact vx_out (fun x hx => (hnt x hx).elim) hlocks hce9 hcv9 hcl9 (fun t h1 _ => ⟨rfl, hS.F h1⟩) hS.2.2 (Nat.le_of_ble_eq_true rfl) (Nat.le_of_ble_eq_true rfl)

set_option maxHeartbeats 4000000 in
set_option maxRecDepth 100000 in
theorem mX4_firstMoved_x2 (l : Launch) (hl9 : l.stackTraces = false) (D : va_G) (y : Nat → ClassId) (ad : Nat → Nat) (S : Nat → Int32) (bn : Int32) (n : Nat) (k1 : Int32) (k2 : Int32) (o : Int32) (x : Int32) (hS1 : S 1 = nI n) (hn6 : n ≤ 6) (h1 : (¬ k1 < 0 ∧ ¬ (S 1 - 1) < k1) ∧ (¬ k2 < 0 ∧ ¬ (S 1 - 1) < k2) ∧ (¬ o < 0 ∧ ¬ 1 < o)) (hb1 : ¬ (¬ x < 1 ∧ ¬ 999 < x)) : vx_Met l yX4_firstMoved (ws_ yX4_firstMoved cX4_firstMoved 7 (some .int)) ({ frames := 7, cells := 1, slots := 6, locals := 104 }) (va_Pc [.ref (ad 0), .int k1, .int k2, .int o, .int x] (zXP D y [((ad 0), .inr (4, [.ref (ad 1), .ref (ad 8), .ref (ad 9), .ref (ad 10), .ref (ad 54), .ref (ad 59), .ref (ad 60), .int bn])), ((ad 1), .inr (2, [.ref (ad 2), .ref (ad 3), .ref (ad 4), .ref (ad 5), .ref (ad 6), .ref (ad 7), .int (S 0), .int (S 1), .int (S 4), .int (S 5)]))])) (fun _ _ _ _ => False) (zXC zIA) 1 6 (fun _ => False) := by
  refine vx_ofW (cc := cX4_firstMoved) (maxL := 7) (ret := (some .int)) (by decide) rfl ?_
  intro p e s m args below meth c s₁ B hml hnt hpre9
  obtain ⟨rfl, hZ, hP, hKN⟩ := hpre9
  have hK := hKN.1
  have hx := B.exec
  have hb := B.bytes
  have hr := B.returns
  have hts := atoms_spec (ws := (ws_ yX4_firstMoved cX4_firstMoved 7 (some .int))) B.pre
  have htg : ∀ w ∈ gT, w.before _ s = true := fun w h => hts w (List.mem_cons_of_mem _ h)
  have hown : s.vm.findClass RX4 = some m.cls := findClass_of_methodNamed B.named
  have hlocks := B.notSynchronized
  have hS : va_S (fun _ => False) s.heap s.heap [] := va_S.rf
  have hP : va_P D vwCl [((ad 0), .inr (4, [.ref (ad 1), .ref (ad 8), .ref (ad 9), .ref (ad 10), .ref (ad 54), .ref (ad 59), .ref (ad 60), .int bn])), ((ad 1), .inr (2, [.ref (ad 2), .ref (ad 3), .ref (ad 4), .ref (ad 5), .ref (ad 6), .ref (ad 7), .int (S 0), .int (S 1), .int (S 4), .int (S 5)]))] s.heap := hP
  have hl := lv_entry ([.ref (ad 0), .int k1, .int k2, .int o, .int x]) (n := 7) (Nat.le_of_ble_eq_true rfl)
  rw [lg_entry_eq]
  generalize (lg_sl ([.ref (ad 0), .int k1, .int k2, .int o, .int x]) ++ List.replicate (7 - (lg_sl ([.ref (ad 0), .int k1, .int k2, .int o, .int x])).length) Slot.unset).toArray = ls at hl ⊢
  have hl : lv_has ls 7 [(0, .ref (ad 0)), (1, .int k1), (2, .int k2), (3, .int o), (4, .int x)] := hl
  refine lv_iload_n hx hb dX4_firstMoved_0 rfl (lv_at hl 1 rfl) ?_
  refine lv_aload_n hx hb dX4_firstMoved_1 rfl (lv_at hl 0 rfl) ?_
  refine va_get (D := D) (ci := 4) (v := .ref (ad 1)) (C := RX4) (T := TX4) (N := 8) hx hb htg iX4 hown hK hP 0 rfl rfl 0 (by decide) (htg _ tw_127) (fun _ h9 => h9) rfl dX4_firstMoved_2 ?_
  refine va_get (D := D) (ci := 2) (v := .int (S 1)) (C := RX2) (T := TX2) (N := 10) hx hb htg iX2 hown hK hP 1 rfl rfl 7 (by decide) (htg _ tw_195) (fun _ h9 => h9) rfl dX4_firstMoved_5 ?_
  refine zr_callv (va_runS (As := [.int k1, .int (S 1)]) (rest := []) ⟨hx, hb, hml, hown, hts⟩ (mX4_needIndex_i l k1 (S 1) ((h1.1).1) (zsu_i hS1 hn6 (h1.1))) (va_cwS 2 hts (zgS tw_153 tw_154 tw_23 tw_155) rfl rfl rfl (by decide +kernel) ⟨Nat.le_of_ble_eq_true rfl, Nat.le_of_ble_eq_true rfl⟩) zP_pre rfl rfl hl.1 rfl (lv_room (Nat.le_of_ble_eq_true rfl)) dX4_firstMoved_8 ⟨Nat.zero_le _, Nat.zero_le _⟩) hS (fun H locs hw_8 hT hS => ?_)
  replace hP := hT _ _ hP
  refine lv_iload_n hx hb dX4_firstMoved_11 rfl (lv_at hl 2 rfl) ?_
  refine lv_aload_n hx hb dX4_firstMoved_12 rfl (lv_at hl 0 rfl) ?_
  refine va_get (D := D) (ci := 4) (v := .ref (ad 1)) (C := RX4) (T := TX4) (N := 8) hx hb htg iX4 hown hK hP 0 rfl rfl 0 (by decide) (htg _ tw_127) (fun _ h9 => h9) rfl dX4_firstMoved_13 ?_
  refine va_get (D := D) (ci := 2) (v := .int (S 1)) (C := RX2) (T := TX2) (N := 10) hx hb htg iX2 hown hK hP 1 rfl rfl 7 (by decide) (htg _ tw_195) (fun _ h9 => h9) rfl dX4_firstMoved_16 ?_
  refine zr_callv (va_runS (As := [.int k2, .int (S 1)]) (rest := []) ⟨hx, hb, hml, hown, hts⟩ (mX4_needIndex_i l k2 (S 1) ((h1.2.1).1) (zsu_i hS1 hn6 (h1.2.1))) (va_cwS 2 hts (zgS tw_153 tw_154 tw_23 tw_155) rfl rfl rfl (by decide +kernel) ⟨Nat.le_of_ble_eq_true rfl, Nat.le_of_ble_eq_true rfl⟩) zP_pre rfl rfl hl.1 rfl (lv_room (Nat.le_of_ble_eq_true rfl)) dX4_firstMoved_19 ⟨Nat.zero_le _, Nat.zero_le _⟩) hS (fun H locs hw_19 hT hS => ?_)
  replace hP := hT _ _ hP
  refine lv_iload_n hx hb dX4_firstMoved_22 rfl (lv_at hl 3 rfl) ?_
  refine lv_iconst (v := 2) hx hb dX4_firstMoved_23 (by decide) ?_
  refine zr_callv (va_runS (As := [.int o, .int 2]) (rest := []) ⟨hx, hb, hml, hown, hts⟩ (mX4_needIndex_i l o 2 ((h1.2.2).1) (zix_i (h1.2.2).2)) (va_cwS 2 hts (zgS tw_153 tw_154 tw_23 tw_155) rfl rfl rfl (by decide +kernel) ⟨Nat.le_of_ble_eq_true rfl, Nat.le_of_ble_eq_true rfl⟩) zP_pre rfl rfl hl.1 rfl (lv_room (Nat.le_of_ble_eq_true rfl)) dX4_firstMoved_24 ⟨Nat.zero_le _, Nat.zero_le _⟩) hS (fun H locs hw_24 hT hS => ?_)
  replace hP := hT _ _ hP
  refine lv_iload hx hb dX4_firstMoved_27 (lv_at hl 4 rfl) ?_
  refine lv_iconst (v := 1) hx hb dX4_firstMoved_29 (by decide) ?_
  refine lv_sipush (v := 999) hx hb dX4_firstMoved_30 (by decide) ?_
  refine zx_call (vx_runS (As := [.int x, .int 1, .int 999]) (rest := []) ⟨hx, hb, hml, hown, hts⟩ (mX4_needRange_x l hl9 D y x 1 999 (hb1)) (va_cwS 3 hts (zgS tw_158 tw_159 tw_23 tw_160) rfl rfl rfl (by decide +kernel) ⟨Nat.le_of_ble_eq_true rfl, Nat.le_of_ble_eq_true rfl⟩) (zXP_pre hKN hP hZ hS [] rfl) rfl rfl hl.1 rfl (lv_room (Nat.le_of_ble_eq_true rfl)) dX4_firstMoved_33 ⟨by first | exact Nat.le_of_ble_eq_true rfl | omega, by first | exact Nat.le_of_ble_eq_true rfl | omega⟩) hS (fun ce9 q9 H locs hT hS hce9 hcv9 hcl9 => ?_)
  exact vx_out (fun x hx => (hnt x hx).elim) hlocks hce9 hcv9 hcl9 (fun t h1 _ => ⟨rfl, hS.F h1⟩) hS.2.2 (Nat.le_of_ble_eq_true rfl) (Nat.le_of_ble_eq_true rfl)

set_option maxHeartbeats 4000000 in
set_option maxRecDepth 100000 in
theorem mX4_meanCheck_x1 (l : Launch) (hl9 : l.stackTraces = false) (D : va_G) (y : Nat → ClassId) (ad : Nat → Nat) (S : Nat → Int32) (bn : Int32) (n : Nat) (k : Int32) (o : Int32) (hS1 : S 1 = nI n) (hn6 : n ≤ 6) (hb1 : ¬ ((¬ k < 0 ∧ ¬ (S 1 - 1) < k) ∧ (¬ o < 0 ∧ ¬ 1 < o))) : vx_Met l yX4_meanCheck (ws_ yX4_meanCheck cX4_meanCheck 5 (some .float)) ({ frames := 7, cells := 1, slots := 6, locals := 103 }) (va_Pc [.ref (ad 0), .int k, .int o] (zXP D y [((ad 0), .inr (4, [.ref (ad 1), .ref (ad 8), .ref (ad 9), .ref (ad 10), .ref (ad 54), .ref (ad 59), .ref (ad 60), .int bn])), ((ad 1), .inr (2, [.ref (ad 2), .ref (ad 3), .ref (ad 4), .ref (ad 5), .ref (ad 6), .ref (ad 7), .int (S 0), .int (S 1), .int (S 4), .int (S 5)]))])) (fun _ _ _ _ => False) (zXC zIO) 1 6 (fun _ => False) := by
  refine vx_ofW (cc := cX4_meanCheck) (maxL := 5) (ret := (some .float)) (by decide) rfl ?_
  intro p e s m args below meth c s₁ B hml hnt hpre9
  obtain ⟨rfl, hZ, hP, hKN⟩ := hpre9
  have hK := hKN.1
  have hx := B.exec
  have hb := B.bytes
  have hr := B.returns
  have hts := atoms_spec (ws := (ws_ yX4_meanCheck cX4_meanCheck 5 (some .float))) B.pre
  have htg : ∀ w ∈ gT, w.before _ s = true := fun w h => hts w (List.mem_cons_of_mem _ h)
  have hown : s.vm.findClass RX4 = some m.cls := findClass_of_methodNamed B.named
  have hlocks := B.notSynchronized
  have hS : va_S (fun _ => False) s.heap s.heap [] := va_S.rf
  have hP : va_P D vwCl [((ad 0), .inr (4, [.ref (ad 1), .ref (ad 8), .ref (ad 9), .ref (ad 10), .ref (ad 54), .ref (ad 59), .ref (ad 60), .int bn])), ((ad 1), .inr (2, [.ref (ad 2), .ref (ad 3), .ref (ad 4), .ref (ad 5), .ref (ad 6), .ref (ad 7), .int (S 0), .int (S 1), .int (S 4), .int (S 5)]))] s.heap := hP
  have hl := lv_entry ([.ref (ad 0), .int k, .int o]) (n := 5) (Nat.le_of_ble_eq_true rfl)
  rw [lg_entry_eq]
  generalize (lg_sl ([.ref (ad 0), .int k, .int o]) ++ List.replicate (5 - (lg_sl ([.ref (ad 0), .int k, .int o])).length) Slot.unset).toArray = ls at hl ⊢
  have hl : lv_has ls 5 [(0, .ref (ad 0)), (1, .int k), (2, .int o)] := hl
  refine lv_iload_n hx hb dX4_meanCheck_0 rfl (lv_at hl 1 rfl) ?_
  refine lv_aload_n hx hb dX4_meanCheck_1 rfl (lv_at hl 0 rfl) ?_
  refine va_get (D := D) (ci := 4) (v := .ref (ad 1)) (C := RX4) (T := TX4) (N := 8) hx hb htg iX4 hown hK hP 0 rfl rfl 0 (by decide) (htg _ tw_127) (fun _ h9 => h9) rfl dX4_meanCheck_2 ?_
  refine va_get (D := D) (ci := 2) (v := .int (S 1)) (C := RX2) (T := TX2) (N := 10) hx hb htg iX2 hown hK hP 1 rfl rfl 7 (by decide) (htg _ tw_195) (fun _ h9 => h9) rfl dX4_meanCheck_5 ?_
  by_cases k_8 : ¬ k < 0 ∧ ¬ (S 1 - 1) < k
  · refine zr_callv (va_runS (As := [.int k, .int (S 1)]) (rest := []) ⟨hx, hb, hml, hown, hts⟩ (mX4_needIndex_i l k (S 1) (k_8.1) (zsu_i hS1 hn6 k_8)) (va_cwS 2 hts (zgS tw_153 tw_154 tw_23 tw_155) rfl rfl rfl (by decide +kernel) ⟨Nat.le_of_ble_eq_true rfl, Nat.le_of_ble_eq_true rfl⟩) zP_pre rfl rfl hl.1 rfl (lv_room (Nat.le_of_ble_eq_true rfl)) dX4_meanCheck_8 ⟨Nat.zero_le _, Nat.zero_le _⟩) hS (fun H locs hw_8 hT hS => ?_)
    replace hP := hT _ _ hP
    refine lv_iload_n hx hb dX4_meanCheck_11 rfl (lv_at hl 2 rfl) ?_
    refine lv_iconst (v := 2) hx hb dX4_meanCheck_12 (by decide) ?_
    by_cases k_13 : ¬ o < 0 ∧ ¬ 1 < o
    · exact absurd ⟨k_8, k_13⟩ hb1
    · refine zx_call (vx_runS (As := [.int o, .int 2]) (rest := []) ⟨hx, hb, hml, hown, hts⟩ (mX4_needIndex_x l hl9 D y o 2 (zix_x k_13)) (va_cwS 2 hts (zgS tw_153 tw_154 tw_23 tw_155) rfl rfl rfl (by decide +kernel) ⟨Nat.le_of_ble_eq_true rfl, Nat.le_of_ble_eq_true rfl⟩) (zXP_pre hKN hP hZ hS [] rfl) rfl rfl hl.1 rfl (lv_room (Nat.le_of_ble_eq_true rfl)) dX4_meanCheck_13 ⟨by first | exact Nat.le_of_ble_eq_true rfl | omega, by first | exact Nat.le_of_ble_eq_true rfl | omega⟩) hS (fun ce9 q9 H locs hT hS hce9 hcv9 hcl9 => ?_)
      exact vx_out (fun x hx => (hnt x hx).elim) hlocks hce9 hcv9 hcl9 (fun t h1 _ => ⟨rfl, hS.F h1⟩) hS.2.2 (Nat.le_of_ble_eq_true rfl) (Nat.le_of_ble_eq_true rfl)
  · refine zx_call (vx_runS (As := [.int k, .int (S 1)]) (rest := []) ⟨hx, hb, hml, hown, hts⟩ (mX4_needIndex_x l hl9 D y k (S 1) (zsu_x hS1 hn6 k_8)) (va_cwS 2 hts (zgS tw_153 tw_154 tw_23 tw_155) rfl rfl rfl (by decide +kernel) ⟨Nat.le_of_ble_eq_true rfl, Nat.le_of_ble_eq_true rfl⟩) (zXP_pre hKN hP hZ hS [] rfl) rfl rfl hl.1 rfl (lv_room (Nat.le_of_ble_eq_true rfl)) dX4_meanCheck_8 ⟨by first | exact Nat.le_of_ble_eq_true rfl | omega, by first | exact Nat.le_of_ble_eq_true rfl | omega⟩) hS (fun ce9 q9 H locs hT hS hce9 hcv9 hcl9 => ?_)
    exact vx_out (fun x hx => (hnt x hx).elim) hlocks hce9 hcv9 hcl9 (fun t h1 _ => ⟨rfl, hS.F h1⟩) hS.2.2 (Nat.le_of_ble_eq_true rfl) (Nat.le_of_ble_eq_true rfl)

set_option maxHeartbeats 4000000 in
set_option maxRecDepth 100000 in
theorem mX4_spread_x1 (l : Launch) (hl9 : l.stackTraces = false) (D : va_G) (y : Nat → ClassId) (ad : Nat → Nat) (S : Nat → Int32) (bn : Int32) (n : Nat) (k : Int32) (o : Int32) (hS1 : S 1 = nI n) (hn6 : n ≤ 6) (hb1 : ¬ ((¬ k < 0 ∧ ¬ (S 1 - 1) < k) ∧ (¬ o < 0 ∧ ¬ 1 < o))) : vx_Met l yX4_spread (ws_ yX4_spread cX4_spread 10 (some .double)) ({ frames := 7, cells := 1, slots := 6, locals := 103 }) (va_Pc [.ref (ad 0), .int k, .int o] (zXP D y [((ad 0), .inr (4, [.ref (ad 1), .ref (ad 8), .ref (ad 9), .ref (ad 10), .ref (ad 54), .ref (ad 59), .ref (ad 60), .int bn])), ((ad 1), .inr (2, [.ref (ad 2), .ref (ad 3), .ref (ad 4), .ref (ad 5), .ref (ad 6), .ref (ad 7), .int (S 0), .int (S 1), .int (S 4), .int (S 5)]))])) (fun _ _ _ _ => False) (zXC zIO) 1 6 (fun _ => False) := by
  refine vx_ofW (cc := cX4_spread) (maxL := 10) (ret := (some .double)) (by decide) rfl ?_
  intro p e s m args below meth c s₁ B hml hnt hpre9
  obtain ⟨rfl, hZ, hP, hKN⟩ := hpre9
  have hK := hKN.1
  have hx := B.exec
  have hb := B.bytes
  have hr := B.returns
  have hts := atoms_spec (ws := (ws_ yX4_spread cX4_spread 10 (some .double))) B.pre
  have htg : ∀ w ∈ gT, w.before _ s = true := fun w h => hts w (List.mem_cons_of_mem _ h)
  have hown : s.vm.findClass RX4 = some m.cls := findClass_of_methodNamed B.named
  have hlocks := B.notSynchronized
  have hS : va_S (fun _ => False) s.heap s.heap [] := va_S.rf
  have hP : va_P D vwCl [((ad 0), .inr (4, [.ref (ad 1), .ref (ad 8), .ref (ad 9), .ref (ad 10), .ref (ad 54), .ref (ad 59), .ref (ad 60), .int bn])), ((ad 1), .inr (2, [.ref (ad 2), .ref (ad 3), .ref (ad 4), .ref (ad 5), .ref (ad 6), .ref (ad 7), .int (S 0), .int (S 1), .int (S 4), .int (S 5)]))] s.heap := hP
  have hl := lv_entry ([.ref (ad 0), .int k, .int o]) (n := 10) (Nat.le_of_ble_eq_true rfl)
  rw [lg_entry_eq]
  generalize (lg_sl ([.ref (ad 0), .int k, .int o]) ++ List.replicate (10 - (lg_sl ([.ref (ad 0), .int k, .int o])).length) Slot.unset).toArray = ls at hl ⊢
  have hl : lv_has ls 10 [(0, .ref (ad 0)), (1, .int k), (2, .int o)] := hl
  refine lv_iload_n hx hb dX4_spread_0 rfl (lv_at hl 1 rfl) ?_
  refine lv_aload_n hx hb dX4_spread_1 rfl (lv_at hl 0 rfl) ?_
  refine va_get (D := D) (ci := 4) (v := .ref (ad 1)) (C := RX4) (T := TX4) (N := 8) hx hb htg iX4 hown hK hP 0 rfl rfl 0 (by decide) (htg _ tw_127) (fun _ h9 => h9) rfl dX4_spread_2 ?_
  refine va_get (D := D) (ci := 2) (v := .int (S 1)) (C := RX2) (T := TX2) (N := 10) hx hb htg iX2 hown hK hP 1 rfl rfl 7 (by decide) (htg _ tw_195) (fun _ h9 => h9) rfl dX4_spread_5 ?_
  by_cases k_8 : ¬ k < 0 ∧ ¬ (S 1 - 1) < k
  · refine zr_callv (va_runS (As := [.int k, .int (S 1)]) (rest := []) ⟨hx, hb, hml, hown, hts⟩ (mX4_needIndex_i l k (S 1) (k_8.1) (zsu_i hS1 hn6 k_8)) (va_cwS 2 hts (zgS tw_153 tw_154 tw_23 tw_155) rfl rfl rfl (by decide +kernel) ⟨Nat.le_of_ble_eq_true rfl, Nat.le_of_ble_eq_true rfl⟩) zP_pre rfl rfl hl.1 rfl (lv_room (Nat.le_of_ble_eq_true rfl)) dX4_spread_8 ⟨Nat.zero_le _, Nat.zero_le _⟩) hS (fun H locs hw_8 hT hS => ?_)
    replace hP := hT _ _ hP
    refine lv_iload_n hx hb dX4_spread_11 rfl (lv_at hl 2 rfl) ?_
    refine lv_iconst (v := 2) hx hb dX4_spread_12 (by decide) ?_
    by_cases k_13 : ¬ o < 0 ∧ ¬ 1 < o
    · exact absurd ⟨k_8, k_13⟩ hb1
    · refine zx_call (vx_runS (As := [.int o, .int 2]) (rest := []) ⟨hx, hb, hml, hown, hts⟩ (mX4_needIndex_x l hl9 D y o 2 (zix_x k_13)) (va_cwS 2 hts (zgS tw_153 tw_154 tw_23 tw_155) rfl rfl rfl (by decide +kernel) ⟨Nat.le_of_ble_eq_true rfl, Nat.le_of_ble_eq_true rfl⟩) (zXP_pre hKN hP hZ hS [] rfl) rfl rfl hl.1 rfl (lv_room (Nat.le_of_ble_eq_true rfl)) dX4_spread_13 ⟨by first | exact Nat.le_of_ble_eq_true rfl | omega, by first | exact Nat.le_of_ble_eq_true rfl | omega⟩) hS (fun ce9 q9 H locs hT hS hce9 hcv9 hcl9 => ?_)
      exact vx_out (fun x hx => (hnt x hx).elim) hlocks hce9 hcv9 hcl9 (fun t h1 _ => ⟨rfl, hS.F h1⟩) hS.2.2 (Nat.le_of_ble_eq_true rfl) (Nat.le_of_ble_eq_true rfl)
  · refine zx_call (vx_runS (As := [.int k, .int (S 1)]) (rest := []) ⟨hx, hb, hml, hown, hts⟩ (mX4_needIndex_x l hl9 D y k (S 1) (zsu_x hS1 hn6 k_8)) (va_cwS 2 hts (zgS tw_153 tw_154 tw_23 tw_155) rfl rfl rfl (by decide +kernel) ⟨Nat.le_of_ble_eq_true rfl, Nat.le_of_ble_eq_true rfl⟩) (zXP_pre hKN hP hZ hS [] rfl) rfl rfl hl.1 rfl (lv_room (Nat.le_of_ble_eq_true rfl)) dX4_spread_8 ⟨by first | exact Nat.le_of_ble_eq_true rfl | omega, by first | exact Nat.le_of_ble_eq_true rfl | omega⟩) hS (fun ce9 q9 H locs hT hS hce9 hcv9 hcl9 => ?_)
    exact vx_out (fun x hx => (hnt x hx).elim) hlocks hce9 hcv9 hcl9 (fun t h1 _ => ⟨rfl, hS.F h1⟩) hS.2.2 (Nat.le_of_ble_eq_true rfl) (Nat.le_of_ble_eq_true rfl)
