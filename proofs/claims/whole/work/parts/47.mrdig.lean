set_option maxHeartbeats 4000000 in
set_option maxRecDepth 100000 in
theorem mX5_mix (l : Launch) (D : va_G) (y : Nat → ClassId) (sz : Nat) (g : Nat → Nat) (th : Int32) (sv : Nat) (ln : Nat) (at9 : Nat) (pl : Nat) (va : Int32) (hs : Int64) (x : Int64) : Met l yX5_mix (ws_ yX5_mix cX5_mix 3 none) ({ frames := 0, cells := 0, slots := 0, locals := 0 }) (va_Pc [.ref (g 0), .long x] (zRW D y [((g 0), .inr (5, [.int th, .ref (g 1), .int (nI sv), .ref (g 2), .ref (g 3), .int (nI ln), .int (nI at9), .int (nI pl), .int va, .long hs]))] sz)) (va_Qv (fun (_ : Unit) => True) (fun (_ : Unit) t => zOut D (va_A [((g 0), .inr (5, [.int th, .ref (g 1), .int (nI sv), .ref (g 2), .ref (g 3), .int (nI ln), .int (nI at9), .int (nI pl), .int va, .long hs]))] sz) [((g 0), .inr (5, [.int th, .ref (g 1), .int (nI sv), .ref (g 2), .ref (g 3), .int (nI ln), .int (nI at9), .int (nI pl), .int va, .long (31 * hs + x)]))] t) (va_A [((g 0), .inr (5, [.int th, .ref (g 1), .int (nI sv), .ref (g 2), .ref (g 3), .int (nI ln), .int (nI at9), .int (nI pl), .int va, .long hs]))] sz)) 0 0 (va_A [((g 0), .inr (5, [.int th, .ref (g 1), .int (nI sv), .ref (g 2), .ref (g 3), .int (nI ln), .int (nI at9), .int (nI pl), .int va, .long hs]))] sz) := by
  refine Met.ofW (cc := cX5_mix) (maxL := 3) (ret := none) (by decide) rfl ?_
  intro p e s m args below meth c s₁ B hml hpre9
  obtain ⟨rfl, hsz, hP, hKN, hD0⟩ := hpre9
  have hK := hKN.1
  have hx := B.exec
  have hb := B.bytes
  have hr := B.returns
  have hts := atoms_spec (ws := (ws_ yX5_mix cX5_mix 3 none)) B.pre
  have htg : ∀ w ∈ gT, w.before _ s = true := fun w h => hts w (List.mem_cons_of_mem _ h)
  have hown : s.vm.findClass RX5 = some m.cls := findClass_of_methodNamed B.named
  have hlocks := B.notSynchronized
  subst hsz
  have hD := hD0.self (sz := s.heap.size)
  clear hD0
  generalize hAe : va_A [((g 0), .inr (5, [.int th, .ref (g 1), .int (nI sv), .ref (g 2), .ref (g 3), .int (nI ln), .int (nI at9), .int (nI pl), .int va, .long hs]))] s.heap.size = A at hD ⊢
  have hA : ∀ q : Nat, s.heap.size ≤ q → A q := fun q h => by rw [← hAe]; exact Or.inr h
  have hS : va_S A s.heap s.heap [] := va_S.rf
  have hP : va_P D vwCl [((g 0), .inr (5, [.int th, .ref (g 1), .int (nI sv), .ref (g 2), .ref (g 3), .int (nI ln), .int (nI at9), .int (nI pl), .int va, .long hs]))] s.heap := hP
  have hl := lv_entry ([.ref (g 0), .long x]) (n := 3) (Nat.le_of_ble_eq_true rfl)
  rw [lg_entry_eq]
  generalize (lg_sl ([.ref (g 0), .long x]) ++ List.replicate (3 - (lg_sl ([.ref (g 0), .long x])).length) Slot.unset).toArray = ls at hl ⊢
  have hl : lv_has ls 3 [(0, .ref (g 0)), (1, .long x)] := hl
  refine lv_aload_n hx hb dX5_mix_0 rfl (lv_at hl 0 rfl) ?_
  refine lv_ldc2 hx hb hown (htg _ tw_561) dX5_mix_1 ?_
  refine lv_aload_n hx hb dX5_mix_4 rfl (lv_at hl 0 rfl) ?_
  refine va_get (D := D) (ci := 5) (v := .long hs) (C := RX5) (T := TX5) (N := 10) hx hb htg iX5 hown hK hP 0 rfl rfl 9 (by decide) (htg _ tw_562) (fun _ h9 => h9) rfl dX5_mix_5 ?_
  refine lv_lmul hx hb dX5_mix_8 ?_
  refine lv_lload_n hx hb dX5_mix_9 rfl (lv_at hl 1 rfl) ?_
  refine lv_ladd hx hb dX5_mix_10 ?_
  refine va_put (D := D) (ci := 5) (v := .long (((31) * hs) + x)) (ty := .long) (C := RX5) (T := TX5) (N := 10) hx hb htg iX5 tyX5 tyX5_ok nmX5 hown hK hP hD hS 0 rfl rfl 9 (by decide) (htg _ tw_562) (fun _ h9 => h9) rfl (tyX5_ok 9 (by decide)) (rfl) (rfl) (Nat.le_of_ble_eq_true rfl) dX5_mix_11 (fun H locs hP hD hS => ?_)
  have hP : va_P D vwCl [((g 0), .inr (5, [.int th, .ref (g 1), .int (nI sv), .ref (g 2), .ref (g 3), .int (nI ln), .int (nI at9), .int (nI pl), .int va, .long (((31) * hs) + x)]))] H := hP
  have hD : va_D A [((g 0), .inr (5, [.int th, .ref (g 1), .int (nI sv), .ref (g 2), .ref (g 3), .int (nI ln), .int (nI at9), .int (nI pl), .int va, .long (((31) * hs) + x)]))] := hD
  refine W.widen (k := 0) (n := 0) (by first | exact Nat.le_of_ble_eq_true rfl | omega) (by first | exact Nat.le_of_ble_eq_true rfl | omega) ?_
  exact W.vret hx hb hr (fun t ht hW => ⟨⟨(), rfl, by first | rfl | trivial | simp_all, ⟨by rw [ht]; exact hP, hD⟩⟩, hS.F ht⟩) hS.2.2 dX5_mix_14

set_option maxHeartbeats 4000000 in
set_option maxRecDepth 100000 in
theorem mX5_mixSurvey (l : Launch) (D : va_G) (y : Nat → ClassId) (sz : Nat) (g : Nat → Nat) (S : (Nat → Int32)) (th : Int32) (sv : Nat) (ln : Nat) (at9 : Nat) (pl : Nat) (va : Int32) (hs : Int64) (k : Nat) (hk : k < 6) (hTu : hTq S) (hB : ∀ o v : Nat, o < 2 → v < 16 → -1800 ≤ (qCk S k v o).toInt ∧ (qCk S k v o).toInt ≤ 1800) : Met l yX5_mixSurvey (ws_ yX5_mixSurvey cX5_mixSurvey 6 none) ({ frames := 8, cells := 0, slots := 0, locals := 199 }) (va_Pc [.ref (g 0), .int (nI k)] (zRW D y [((g 0), .inr (5, [.int th, .ref (g 1), .int (nI sv), .ref (g 2), .ref (g 3), .int (nI ln), .int (nI at9), .int (nI pl), .int va, .long hs])), ((g 1), .inl (y 0, 4023, .inl S))] sz)) (va_Qv (fun (_ : Unit) => True) (fun (_ : Unit) t => zOut D (va_A [((g 0), .inr (5, [.int th, .ref (g 1), .int (nI sv), .ref (g 2), .ref (g 3), .int (nI ln), .int (nI at9), .int (nI pl), .int va, .long hs])), ((g 1), .inl (y 0, 4023, .inl S))] sz) [((g 0), .inr (5, [.int th, .ref (g 1), .int (nI sv), .ref (g 2), .ref (g 3), .int (nI ln), .int (nI at9), .int (nI pl), .int va, .long (zHs S k hs)])), ((g 1), .inl (y 0, 4023, .inl S))] t) (va_A [((g 0), .inr (5, [.int th, .ref (g 1), .int (nI sv), .ref (g 2), .ref (g 3), .int (nI ln), .int (nI at9), .int (nI pl), .int va, .long hs])), ((g 1), .inl (y 0, 4023, .inl S))] sz)) 0 0 (va_A [((g 0), .inr (5, [.int th, .ref (g 1), .int (nI sv), .ref (g 2), .ref (g 3), .int (nI ln), .int (nI at9), .int (nI pl), .int va, .long hs])), ((g 1), .inl (y 0, 4023, .inl S))] sz) := by
  refine Met.ofW (cc := cX5_mixSurvey) (maxL := 6) (ret := none) (by decide) rfl ?_
  intro p e s m args below meth c s₁ B hml hpre9
  obtain ⟨rfl, hsz, hP, hKN, hD0⟩ := hpre9
  have hK := hKN.1
  have hx := B.exec
  have hb := B.bytes
  have hr := B.returns
  have hts := atoms_spec (ws := (ws_ yX5_mixSurvey cX5_mixSurvey 6 none)) B.pre
  have htg : ∀ w ∈ gT, w.before _ s = true := fun w h => hts w (List.mem_cons_of_mem _ h)
  have hown : s.vm.findClass RX5 = some m.cls := findClass_of_methodNamed B.named
  have hlocks := B.notSynchronized
  subst hsz
  have hD := hD0.self (sz := s.heap.size)
  clear hD0
  generalize hAe : va_A [((g 0), .inr (5, [.int th, .ref (g 1), .int (nI sv), .ref (g 2), .ref (g 3), .int (nI ln), .int (nI at9), .int (nI pl), .int va, .long hs])), ((g 1), .inl (y 0, 4023, .inl S))] s.heap.size = A at hD ⊢
  have hA : ∀ q : Nat, s.heap.size ≤ q → A q := fun q h => by rw [← hAe]; exact Or.inr h
  have hS : va_S A s.heap s.heap [] := va_S.rf
  have hP : va_P D vwCl [((g 0), .inr (5, [.int th, .ref (g 1), .int (nI sv), .ref (g 2), .ref (g 3), .int (nI ln), .int (nI at9), .int (nI pl), .int va, .long hs])), ((g 1), .inl (y 0, 4023, .inl S))] s.heap := hP
  have hl := lv_entry ([.ref (g 0), .int (nI k)]) (n := 6) (Nat.le_of_ble_eq_true rfl)
  rw [lg_entry_eq]
  generalize (lg_sl ([.ref (g 0), .int (nI k)]) ++ List.replicate (6 - (lg_sl ([.ref (g 0), .int (nI k)])).length) Slot.unset).toArray = ls at hl ⊢
  have hl : lv_has ls 6 [(0, .ref (g 0)), (1, .int (nI k))] := hl
  refine lv_iconst (v := 0) hx hb dX5_mixSurvey_0 (by decide) ?_
  refine lv_istore_n (lv' := [(2, .int 0), (0, .ref (g 0)), (1, .int (nI k))]) hx hb dX5_mixSurvey_1 rfl hl (by decide) rfl (fun ls hl => ?_)
  refine zloop (fun i : Nat => 5 - i) (fun i H locs ls => i ≤ 5 ∧ va_P D vwCl [((g 0), .inr (5, [.int th, .ref (g 1), .int (nI sv), .ref (g 2), .ref (g 3), .int (nI ln), .int (nI at9), .int (nI pl), .int va, .long (zH (zHa S k) hs i)])), ((g 1), .inl (y 0, 4023, .inl S))] H ∧ va_D A [((g 0), .inr (5, [.int th, .ref (g 1), .int (nI sv), .ref (g 2), .ref (g 3), .int (nI ln), .int (nI at9), .int (nI pl), .int va, .long (zH (zHa S k) hs i)])), ((g 1), .inl (y 0, 4023, .inl S))] ∧ va_S A s.heap H locs ∧ lv_has ls 6 [(0, .ref (g 0)), (1, .int (nI k)), (2, .int (nI i))]) 2 (fun _ => 0) (fun _ => 0) ?_ (0) ⟨by omega, hP, hD, hS, lv_sub hl [1, 2, 0] rfl⟩
  clear hl hS hP hD
  rintro i H locs ls ⟨hi, hP, hD, hS, hl⟩ ih2
  refine lv_iload_n hx hb dX5_mixSurvey_2 rfl (lv_at hl 2 rfl) ?_
  refine lv_iconst (v := 5) hx hb dX5_mixSurvey_3 (by decide) ?_
  refine lv_icmp_ge (tgt := 24) hx hb dX5_mixSurvey_4 (by decide) (fun c_4 => ?_) (fun c_4 => ?_)
  · replace c_4 : 5 ≤ i := (nI_leI (a := 5) (b := i) (by omega) (by omega)).mp c_4
    obtain rfl : i = 5 := by omega
    refine lv_iconst (v := 0) hx hb dX5_mixSurvey_24 (by decide) ?_
    refine lv_istore_n (lv' := [(2, .int 0), (0, .ref (g 0)), (1, .int (nI k))]) hx hb dX5_mixSurvey_25 rfl hl (by decide) rfl (fun ls hl => ?_)
    refine lv_iconst (v := 0) hx hb dX5_mixSurvey_26 (by decide) ?_
    refine lv_istore_n (lv' := [(3, .int 0), (2, .int 0), (0, .ref (g 0)), (1, .int (nI k))]) hx hb dX5_mixSurvey_27 rfl hl (by decide) rfl (fun ls hl => ?_)
    refine lv_iconst (v := 0) hx hb dX5_mixSurvey_28 (by decide) ?_
    refine lv_istore (lv' := [(4, .int 0), (3, .int 0), (2, .int 0), (0, .ref (g 0)), (1, .int (nI k))]) hx hb dX5_mixSurvey_29 hl (by decide) rfl (fun ls hl => ?_)
    refine zloop (fun j : Nat => 32 - j) (fun j H locs ls => j ≤ 32 ∧ va_P D vwCl [((g 0), .inr (5, [.int th, .ref (g 1), .int (nI sv), .ref (g 2), .ref (g 3), .int (nI ln), .int (nI at9), .int (nI pl), .int va, .long (zH (zHb S k) (zH (zHa S k) hs 5) (8 * j))])), ((g 1), .inl (y 0, 4023, .inl S))] H ∧ va_D A [((g 0), .inr (5, [.int th, .ref (g 1), .int (nI sv), .ref (g 2), .ref (g 3), .int (nI ln), .int (nI at9), .int (nI pl), .int va, .long (zH (zHb S k) (zH (zHa S k) hs 5) (8 * j))])), ((g 1), .inl (y 0, 4023, .inl S))] ∧ va_S A s.heap H locs ∧ lv_has ls 6 [(0, .ref (g 0)), (1, .int (nI k)), (2, .int (qPl S k 0 ((j + 1) / 2))), (3, .int (qPl S k 1 (j / 2))), (4, .int (nI j))]) 31 (fun _ => 0) (fun _ => 0) ?_ (0) ⟨by omega, hP, hD, hS, lv_sub hl [3, 4, 2, 1, 0] rfl⟩
    clear hl hS hP hD
    rintro j H locs ls ⟨hj, hP, hD, hS, hl⟩ ih31
    refine lv_iload hx hb dX5_mixSurvey_31 (lv_at hl 4 rfl) ?_
    refine lv_bipush (v := 32) hx hb dX5_mixSurvey_33 (by decide) ?_
    refine lv_icmp_ge (tgt := 165) hx hb dX5_mixSurvey_35 (by decide) (fun c_35 => ?_) (fun c_35 => ?_)
    · replace c_35 : 32 ≤ j := (nI_leI (a := 32) (b := j) (by omega) (by omega)).mp c_35
      obtain rfl : j = 32 := by omega
      refine lv_iconst (v := 0) hx hb dX5_mixSurvey_165 (by decide) ?_
      refine lv_istore (lv' := [(4, .int 0), (0, .ref (g 0)), (1, .int (nI k)), (2, .int (qPl S k 0 ((32 + 1) / 2))), (3, .int (qPl S k 1 (32 / 2)))]) hx hb dX5_mixSurvey_166 hl (by decide) rfl (fun ls hl => ?_)
      refine zloop (fun i : Nat => 2 - i) (fun i H locs ls => i ≤ 2 ∧ va_P D vwCl [((g 0), .inr (5, [.int th, .ref (g 1), .int (nI sv), .ref (g 2), .ref (g 3), .int (nI ln), .int (nI at9), .int (nI pl), .int va, .long (zH (zHc S k) (zH (zHb S k) (zH (zHa S k) hs 5) 256) (2 * i))])), ((g 1), .inl (y 0, 4023, .inl S))] H ∧ va_D A [((g 0), .inr (5, [.int th, .ref (g 1), .int (nI sv), .ref (g 2), .ref (g 3), .int (nI ln), .int (nI at9), .int (nI pl), .int va, .long (zH (zHc S k) (zH (zHb S k) (zH (zHa S k) hs 5) 256) (2 * i))])), ((g 1), .inl (y 0, 4023, .inl S))] ∧ va_S A s.heap H locs ∧ lv_has ls 6 [(0, .ref (g 0)), (1, .int (nI k)), (4, .int (nI i))]) 168 (fun _ => 0) (fun _ => 0) ?_ (0) ⟨by omega, hP, hD, hS, lv_sub hl [1, 2, 0] rfl⟩
      clear hl hS hP hD
      rintro i H locs ls ⟨hi, hP, hD, hS, hl⟩ ih168
      refine lv_iload hx hb dX5_mixSurvey_168 (lv_at hl 2 rfl) ?_
      refine lv_iconst (v := 2) hx hb dX5_mixSurvey_170 (by decide) ?_
      refine lv_icmp_ge (tgt := 218) hx hb dX5_mixSurvey_171 (by decide) (fun c_171 => ?_) (fun c_171 => ?_)
      · replace c_171 : 2 ≤ i := (nI_leI (a := 2) (b := i) (by omega) (by omega)).mp c_171
        obtain rfl : i = 2 := by omega
        have hP : va_P D vwCl [((g 0), .inr (5, [.int th, .ref (g 1), .int (nI sv), .ref (g 2), .ref (g 3), .int (nI ln), .int (nI at9), .int (nI pl), .int va, .long (zHs S k hs)])), ((g 1), .inl (y 0, 4023, .inl S))] H := hP
        have hD : va_D A [((g 0), .inr (5, [.int th, .ref (g 1), .int (nI sv), .ref (g 2), .ref (g 3), .int (nI ln), .int (nI at9), .int (nI pl), .int va, .long (zHs S k hs)])), ((g 1), .inl (y 0, 4023, .inl S))] := hD
        refine W.widen (k := 0) (n := 0) (by first | exact Nat.le_of_ble_eq_true rfl | omega) (by first | exact Nat.le_of_ble_eq_true rfl | omega) ?_
        exact W.vret hx hb hr (fun t ht hW => ⟨⟨(), rfl, by first | rfl | trivial | simp_all, ⟨by rw [ht]; exact hP, hD⟩⟩, hS.F ht⟩) hS.2.2 dX5_mixSurvey_218
      · replace c_171 : ¬ 2 ≤ i := fun h => c_171 ((nI_leI (a := 2) (b := i) (by omega) (by omega)).mpr h)
        refine lv_aload_n hx hb dX5_mixSurvey_174 rfl (lv_at hl 0 rfl) ?_
        refine lv_aload_n hx hb dX5_mixSurvey_175 rfl (lv_at hl 0 rfl) ?_
        refine lv_iload_n hx hb dX5_mixSurvey_176 rfl (lv_at hl 1 rfl) ?_
        refine lv_iload hx hb dX5_mixSurvey_177 (lv_at hl 2 rfl) ?_
        refine zr_callf (va_runV (As := [.int (nI k), .int (nI i)]) (rest := [.ref (g 0)]) ⟨hx, hb, hml, hown, hts⟩ (mX5_mean l D y g S th sv ln at9 pl va (zH (zHc S k) (zH (zHb S k) (zH (zHa S k) hs 5) 256) (2 * i)) k i (by first | assumption | rfl | omega | decide) (by first | assumption | rfl | omega | decide)) (cwV 2 hts (zgV tw_550 tw_551 tw_552 tw_369 tw_544) rfl rfl rfl (by decide +kernel) ⟨Nat.le_of_ble_eq_true rfl, Nat.le_of_ble_eq_true rfl⟩) (zRO_preV hKN hP (ci := 5) (q0 := 0) rfl rfl [0, 1] rfl) rfl rfl hl.1 rfl (lv_room (Nat.le_of_ble_eq_true rfl)) dX5_mixSurvey_179 ⟨Nat.zero_le _, Nat.zero_le _⟩) hS (fun r_1 H locs hw_179 hT hS => ?_)
        replace hP := hT _ _ hP
        obtain rfl : r_1 = qMe S k i := hw_179
        refine lv_f2d hx hb dX5_mixSurvey_182 (zDigF_nan zDigF_me) ?_
        refine lv_ldc2 hx hb hown (htg _ tw_572) dX5_mixSurvey_183 ?_
        refine lv_ldc2 hx hb hown (htg _ tw_573) dX5_mixSurvey_186 ?_
        refine lv_ldc2 hx hb hown (htg _ tw_574) dX5_mixSurvey_189 ?_
        refine zr_calll (va_runS (As := [.double (FP.f2d (qMe S k i)), .long (8388608), .long (127), .long (-2147483648)]) (rest := [.ref (g 0)]) ⟨hx, hb, hml, hown, hts⟩ (mX5_bits l (FP.f2d (qMe S k i)) (8388608) (127) (-2147483648) (by decide) (zDig_f2d zDigF_me)) (va_cwS 4 hts (zgS tw_569 tw_570 tw_369 tw_563) rfl rfl rfl (by decide +kernel) ⟨Nat.le_of_ble_eq_true rfl, Nat.le_of_ble_eq_true rfl⟩) zP_pre rfl rfl hl.1 rfl (lv_room (Nat.le_of_ble_eq_true rfl)) dX5_mixSurvey_192 ⟨Nat.zero_le _, Nat.zero_le _⟩) hS (fun r_2 H locs hw_192 hT hS => ?_)
        replace hP := hT _ _ hP
        obtain rfl : r_2 = zBits (FP.f2d (qMe S k i)) (8388608) (127) (-2147483648) := hw_192
        refine zz_topl (y := zHc S k (2 * i)) (zHc_0) ?_
        refine zw_callv (wr := [((g 1), .inl (y 0, 4023, .inl S))]) (w1 := (fun _ : Unit => [((g 0), .inr (5, [.int th, .ref (g 1), .int (nI sv), .ref (g 2), .ref (g 3), .int (nI ln), .int (nI at9), .int (nI pl), .int va, .long (31 * (zH (zHc S k) (zH (zHb S k) (zH (zHa S k) hs 5) 256) (2 * i)) + (zHc S k (2 * i)))]))])) hP hD hS hA [0] [1] rfl rfl (by decide +kernel) (by decide +kernel) (va_runV (As := [.long (zHc S k (2 * i))]) (rest := []) ⟨hx, hb, hml, hown, hts⟩ (mX5_mix l D y _ g th sv ln at9 pl va (zH (zHc S k) (zH (zHb S k) (zH (zHa S k) hs 5) 256) (2 * i)) (zHc S k (2 * i))) (cwV 1 hts (zgV tw_575 tw_576 tw_577 tw_369 tw_560) rfl rfl rfl (by decide +kernel) ⟨Nat.le_of_ble_eq_true rfl, Nat.le_of_ble_eq_true rfl⟩) (zRW_preV hKN hP hD (ci := 5) (q0 := 0) rfl rfl [0] rfl (by decide)) rfl rfl hl.1 rfl (lv_room (Nat.le_of_ble_eq_true rfl)) dX5_mixSurvey_195 ⟨Nat.zero_le _, Nat.zero_le _⟩) (fun u_3 H locs hw_195 hP hD hS => ?_)
        have hP : va_P D vwCl [((g 1), .inl (y 0, 4023, .inl S)), ((g 0), .inr (5, [.int th, .ref (g 1), .int (nI sv), .ref (g 2), .ref (g 3), .int (nI ln), .int (nI at9), .int (nI pl), .int va, .long (31 * (zH (zHc S k) (zH (zHb S k) (zH (zHa S k) hs 5) 256) (2 * i)) + (zHc S k (2 * i)))]))] H := hP
        have hD : va_D A [((g 1), .inl (y 0, 4023, .inl S)), ((g 0), .inr (5, [.int th, .ref (g 1), .int (nI sv), .ref (g 2), .ref (g 3), .int (nI ln), .int (nI at9), .int (nI pl), .int va, .long (31 * (zH (zHc S k) (zH (zHb S k) (zH (zHa S k) hs 5) 256) (2 * i)) + (zHc S k (2 * i)))]))] := hD
        have hP : va_P D vwCl [((g 1), .inl (y 0, 4023, .inl S)), ((g 0), .inr (5, [.int th, .ref (g 1), .int (nI sv), .ref (g 2), .ref (g 3), .int (nI ln), .int (nI at9), .int (nI pl), .int va, .long (zH (zHc S k) (zH (zHb S k) (zH (zHa S k) hs 5) 256) (2 * i + 1))]))] H := hP
        have hD : va_D A [((g 1), .inl (y 0, 4023, .inl S)), ((g 0), .inr (5, [.int th, .ref (g 1), .int (nI sv), .ref (g 2), .ref (g 3), .int (nI ln), .int (nI at9), .int (nI pl), .int va, .long (zH (zHc S k) (zH (zHb S k) (zH (zHa S k) hs 5) 256) (2 * i + 1))]))] := hD
        refine lv_aload_n hx hb dX5_mixSurvey_198 rfl (lv_at hl 0 rfl) ?_
        refine lv_aload_n hx hb dX5_mixSurvey_199 rfl (lv_at hl 0 rfl) ?_
        refine lv_iload_n hx hb dX5_mixSurvey_200 rfl (lv_at hl 1 rfl) ?_
        refine lv_iload hx hb dX5_mixSurvey_201 (lv_at hl 2 rfl) ?_
        refine zr_calld (va_runV (As := [.int (nI k), .int (nI i)]) (rest := [.ref (g 0)]) ⟨hx, hb, hml, hown, hts⟩ (mX5_spreadOf l D y g S th sv ln at9 pl va (zH (zHc S k) (zH (zHb S k) (zH (zHa S k) hs 5) 256) (2 * i + 1)) k i (by first | assumption | rfl | omega | decide) (by first | assumption | rfl | omega | decide) (fun v hv => hB i v (by omega) hv)) (cwV 2 hts (zgV tw_557 tw_558 tw_559 tw_369 tw_553) rfl rfl rfl (by decide +kernel) ⟨Nat.le_of_ble_eq_true rfl, Nat.le_of_ble_eq_true rfl⟩) (zRO_preV hKN hP (ci := 5) (q0 := 1) rfl rfl [1, 0] rfl) rfl rfl hl.1 rfl (lv_room (Nat.le_of_ble_eq_true rfl)) dX5_mixSurvey_203 ⟨Nat.zero_le _, Nat.zero_le _⟩) hS (fun r_4 H locs hw_203 hT hS => ?_)
        replace hP := hT _ _ hP
        obtain rfl : r_4 = qSd S k i := hw_203
        refine zr_calll (va_runS (As := [.double (qSd S k i)]) (rest := [.ref (g 0)]) ⟨hx, hb, hml, hown, hts⟩ (mX5_doubleBits l (qSd S k i) (zDig_sd)) (va_cwS 1 hts (zgS tw_578 tw_579 tw_369 tw_565) rfl rfl rfl (by decide +kernel) ⟨Nat.le_of_ble_eq_true rfl, Nat.le_of_ble_eq_true rfl⟩) zP_pre rfl rfl hl.1 rfl (lv_room (Nat.le_of_ble_eq_true rfl)) dX5_mixSurvey_206 ⟨Nat.zero_le _, Nat.zero_le _⟩) hS (fun r_5 H locs hw_206 hT hS => ?_)
        replace hP := hT _ _ hP
        obtain rfl : r_5 = zBits (qSd S k i) 4503599627370496 1023 (-9223372036854775808) := hw_206
        refine zz_topl (y := zHc S k (2 * i + 1)) (zHc_1) ?_
        refine zw_callv (wr := [((g 1), .inl (y 0, 4023, .inl S))]) (w1 := (fun _ : Unit => [((g 0), .inr (5, [.int th, .ref (g 1), .int (nI sv), .ref (g 2), .ref (g 3), .int (nI ln), .int (nI at9), .int (nI pl), .int va, .long (31 * (zH (zHc S k) (zH (zHb S k) (zH (zHa S k) hs 5) 256) (2 * i + 1)) + (zHc S k (2 * i + 1)))]))])) hP hD hS hA [1] [0] rfl rfl (by decide +kernel) (by decide +kernel) (va_runV (As := [.long (zHc S k (2 * i + 1))]) (rest := []) ⟨hx, hb, hml, hown, hts⟩ (mX5_mix l D y _ g th sv ln at9 pl va (zH (zHc S k) (zH (zHb S k) (zH (zHa S k) hs 5) 256) (2 * i + 1)) (zHc S k (2 * i + 1))) (cwV 1 hts (zgV tw_575 tw_576 tw_577 tw_369 tw_560) rfl rfl rfl (by decide +kernel) ⟨Nat.le_of_ble_eq_true rfl, Nat.le_of_ble_eq_true rfl⟩) (zRW_preV hKN hP hD (ci := 5) (q0 := 1) rfl rfl [1] rfl (by decide)) rfl rfl hl.1 rfl (lv_room (Nat.le_of_ble_eq_true rfl)) dX5_mixSurvey_209 ⟨Nat.zero_le _, Nat.zero_le _⟩) (fun u_6 H locs hw_209 hP hD hS => ?_)
        have hP : va_P D vwCl [((g 1), .inl (y 0, 4023, .inl S)), ((g 0), .inr (5, [.int th, .ref (g 1), .int (nI sv), .ref (g 2), .ref (g 3), .int (nI ln), .int (nI at9), .int (nI pl), .int va, .long (31 * (zH (zHc S k) (zH (zHb S k) (zH (zHa S k) hs 5) 256) (2 * i + 1)) + (zHc S k (2 * i + 1)))]))] H := hP
        have hD : va_D A [((g 1), .inl (y 0, 4023, .inl S)), ((g 0), .inr (5, [.int th, .ref (g 1), .int (nI sv), .ref (g 2), .ref (g 3), .int (nI ln), .int (nI at9), .int (nI pl), .int va, .long (31 * (zH (zHc S k) (zH (zHb S k) (zH (zHa S k) hs 5) 256) (2 * i + 1)) + (zHc S k (2 * i + 1)))]))] := hD
        have hP : va_P D vwCl [((g 1), .inl (y 0, 4023, .inl S)), ((g 0), .inr (5, [.int th, .ref (g 1), .int (nI sv), .ref (g 2), .ref (g 3), .int (nI ln), .int (nI at9), .int (nI pl), .int va, .long (zH (zHc S k) (zH (zHb S k) (zH (zHa S k) hs 5) 256) (2 * (i + 1)))]))] H := hP
        have hD : va_D A [((g 1), .inl (y 0, 4023, .inl S)), ((g 0), .inr (5, [.int th, .ref (g 1), .int (nI sv), .ref (g 2), .ref (g 3), .int (nI ln), .int (nI at9), .int (nI pl), .int va, .long (zH (zHc S k) (zH (zHb S k) (zH (zHa S k) hs 5) 256) (2 * (i + 1)))]))] := hD
        refine lv_iinc (v := nI (i + 1)) (lv' := [(4, .int (nI (i + 1))), (0, .ref (g 0)), (1, .int (nI k))]) hx hb dX5_mixSurvey_212 hl (k := 2) rfl (nI_1 i) (by decide) rfl (fun ls hl => ?_)
        refine lv_goto (tgt := 168) hx hb dX5_mixSurvey_215 (by decide) ?_
        have hP := hP.sub (ws' := [((g 0), .inr (5, [.int th, .ref (g 1), .int (nI sv), .ref (g 2), .ref (g 3), .int (nI ln), .int (nI at9), .int (nI pl), .int va, .long (zH (zHc S k) (zH (zHb S k) (zH (zHa S k) hs 5) 256) (2 * (i + 1)))])), ((g 1), .inl (y 0, 4023, .inl S))]) [1, 0] rfl
        have hD := hD.sub (ws' := [((g 0), .inr (5, [.int th, .ref (g 1), .int (nI sv), .ref (g 2), .ref (g 3), .int (nI ln), .int (nI at9), .int (nI pl), .int va, .long (zH (zHc S k) (zH (zHb S k) (zH (zHa S k) hs 5) 256) (2 * (i + 1)))])), ((g 1), .inl (y 0, 4023, .inl S))]) [1, 0] (by decide) rfl
        exact ih168 (i + 1) _ _ _ (by omega) ⟨by omega, hP, hD, hS, lv_sub hl [1, 2, 0] rfl⟩
    · replace c_35 : ¬ 32 ≤ j := fun h => c_35 ((nI_leI (a := 32) (b := j) (by omega) (by omega)).mpr h)
      refine lv_iconst (v := 0) hx hb dX5_mixSurvey_38 (by decide) ?_
      refine lv_istore (lv' := [(5, .int 0), (0, .ref (g 0)), (1, .int (nI k)), (2, .int (qPl S k 0 ((j + 1) / 2))), (3, .int (qPl S k 1 (j / 2))), (4, .int (nI j))]) hx hb dX5_mixSurvey_39 hl (by decide) rfl (fun ls hl => ?_)
      refine zloop (fun i : Nat => 6 - i) (fun i H locs ls => i ≤ 6 ∧ va_P D vwCl [((g 0), .inr (5, [.int th, .ref (g 1), .int (nI sv), .ref (g 2), .ref (g 3), .int (nI ln), .int (nI at9), .int (nI pl), .int va, .long (zH (zHb S k) (zH (zHa S k) hs 5) (8 * j + i))])), ((g 1), .inl (y 0, 4023, .inl S))] H ∧ va_D A [((g 0), .inr (5, [.int th, .ref (g 1), .int (nI sv), .ref (g 2), .ref (g 3), .int (nI ln), .int (nI at9), .int (nI pl), .int va, .long (zH (zHb S k) (zH (zHa S k) hs 5) (8 * j + i))])), ((g 1), .inl (y 0, 4023, .inl S))] ∧ va_S A s.heap H locs ∧ lv_has ls 6 [(0, .ref (g 0)), (1, .int (nI k)), (2, .int (qPl S k 0 ((j + 1) / 2))), (3, .int (qPl S k 1 (j / 2))), (4, .int (nI j)), (5, .int (nI i))]) 41 (fun _ => 0) (fun _ => 0) ?_ (0) ⟨by omega, hP, hD, hS, lv_sub hl [1, 2, 3, 4, 5, 0] rfl⟩
      clear hl hS hP hD
      rintro i H locs ls ⟨hi, hP, hD, hS, hl⟩ ih41
      refine lv_iload hx hb dX5_mixSurvey_41 (lv_at hl 5 rfl) ?_
      refine lv_bipush (v := 6) hx hb dX5_mixSurvey_43 (by decide) ?_
      refine lv_icmp_ge (tgt := 74) hx hb dX5_mixSurvey_45 (by decide) (fun c_45 => ?_) (fun c_45 => ?_)
      · replace c_45 : 6 ≤ i := (nI_leI (a := 6) (b := i) (by omega) (by omega)).mp c_45
        obtain rfl : i = 6 := by omega
        refine lv_iload_n hx hb dX5_mixSurvey_74 rfl (lv_at hl 2 rfl) ?_
        refine lv_iload hx hb dX5_mixSurvey_75 (lv_at hl 4 rfl) ?_
        refine lv_iconst (v := 2) hx hb dX5_mixSurvey_77 (by decide) ?_
        refine lv_irem hx hb dX5_mixSurvey_78 (by decide) ?_
        refine zz_top (y := nI (j % 2)) (pk_rem (by omega) (by decide) (by decide)) ?_
        refine lv_if_ne (tgt := 95) hx hb dX5_mixSurvey_79 (by decide) (fun c_79 => ?_) (fun c_79 => ?_)
        · replace c_79 : ¬ (j % 2) = 0 := fun h => c_79 ((nI_eq (a := (j % 2)) (b := 0) (by omega) (by omega)).mpr h)
          refine lv_iconst (v := 0) hx hb dX5_mixSurvey_95 (by decide) ?_
          refine lv_iadd hx hb dX5_mixSurvey_96 ?_
          refine zz_top (y := qPl S k 0 ((j + 2) / 2)) (zpl0n c_79) ?_
          refine lv_istore_n (lv' := [(2, .int (qPl S k 0 ((j + 2) / 2))), (0, .ref (g 0)), (1, .int (nI k)), (3, .int (qPl S k 1 (j / 2))), (4, .int (nI j)), (5, .int (nI 6))]) hx hb dX5_mixSurvey_97 rfl hl (by decide) rfl (fun ls hl => ?_)
          refine lv_iload_n hx hb dX5_mixSurvey_98 rfl (lv_at hl 3 rfl) ?_
          refine lv_iload hx hb dX5_mixSurvey_99 (lv_at hl 4 rfl) ?_
          refine lv_iconst (v := 2) hx hb dX5_mixSurvey_101 (by decide) ?_
          refine lv_irem hx hb dX5_mixSurvey_102 (by decide) ?_
          refine zz_top (y := nI (j % 2)) (pk_rem (by omega) (by decide) (by decide)) ?_
          refine lv_iconst (v := 1) hx hb dX5_mixSurvey_103 (by decide) ?_
          refine lv_icmp_ne (tgt := 120) hx hb dX5_mixSurvey_104 (by decide) (fun c_104 => ?_) (fun c_104 => ?_)
          · replace c_104 : ¬ (j % 2) = 1 := fun h => c_104 ((nI_eq (a := (j % 2)) (b := 1) (by omega) (by omega)).mpr h)
            exfalso; omega
          · replace c_104 : (j % 2) = 1 := (nI_eq (a := (j % 2)) (b := 1) (by omega) (by omega)).mp c_104
            refine lv_aload_n hx hb dX5_mixSurvey_107 rfl (lv_at hl 1 rfl) ?_
            refine lv_iload_n hx hb dX5_mixSurvey_108 rfl (lv_at hl 2 rfl) ?_
            refine lv_iload hx hb dX5_mixSurvey_109 (lv_at hl 4 rfl) ?_
            refine lv_iconst (v := 2) hx hb dX5_mixSurvey_111 (by decide) ?_
            refine lv_idiv hx hb dX5_mixSurvey_112 (by decide) ?_
            refine zz_top (y := nI (j / 2)) (pk_div (by omega) (by decide) (by decide)) ?_
            refine lv_iconst (v := 1) hx hb dX5_mixSurvey_113 (by decide) ?_
            refine zr_calli (va_runV (As := [.int (nI k), .int (nI (j / 2)), .int 1]) (rest := [.int (qPl S k 1 (j / 2))]) ⟨hx, hb, hml, hown, hts⟩ (mX5_tiltTold l D y g S th sv ln at9 pl va (zH (zHb S k) (zH (zHa S k) hs 5) (8 * j + 6)) k (j / 2) 1 (by first | assumption | rfl | omega | decide) (by first | assumption | rfl | omega | decide) (by first | assumption | rfl | omega | decide) (by first | assumption | rfl | omega | decide)) (cwV 3 hts (zgV tw_413 tw_414 tw_415 tw_369 tw_408) rfl rfl rfl (by decide +kernel) ⟨Nat.le_of_ble_eq_true rfl, Nat.le_of_ble_eq_true rfl⟩) (zRO_preV hKN hP (ci := 5) (q0 := 0) rfl rfl [0, 1] rfl) rfl rfl hl.1 rfl (lv_room (Nat.le_of_ble_eq_true rfl)) dX5_mixSurvey_114 ⟨Nat.zero_le _, Nat.zero_le _⟩) hS (fun r_7 H locs hw_114 hT hS => ?_)
            replace hP := hT _ _ hP
            obtain rfl : r_7 = qTt S k (j / 2) 1 := hw_114
            refine lv_goto (tgt := 121) hx hb dX5_mixSurvey_117 (by decide) ?_
            refine lv_iadd hx hb dX5_mixSurvey_121 ?_
            refine zz_top (y := qPl S k 1 ((j + 1) / 2)) (zpl1y c_79) ?_
            refine lv_istore_n (lv' := [(3, .int (qPl S k 1 ((j + 1) / 2))), (2, .int (qPl S k 0 ((j + 2) / 2))), (0, .ref (g 0)), (1, .int (nI k)), (4, .int (nI j)), (5, .int (nI 6))]) hx hb dX5_mixSurvey_122 rfl hl (by decide) rfl (fun ls hl => ?_)
            refine lv_aload_n hx hb dX5_mixSurvey_123 rfl (lv_at hl 2 rfl) ?_
            refine lv_iload hx hb dX5_mixSurvey_124 (lv_at hl 4 rfl) ?_
            refine lv_iconst (v := 2) hx hb dX5_mixSurvey_126 (by decide) ?_
            refine lv_irem hx hb dX5_mixSurvey_127 (by decide) ?_
            refine zz_top (y := nI (j % 2)) (pk_rem (by omega) (by decide) (by decide)) ?_
            refine lv_if_ne (tgt := 136) hx hb dX5_mixSurvey_128 (by decide) (fun c_128 => ?_) (fun c_128 => ?_)
            · replace c_128 : ¬ (j % 2) = 0 := fun h => c_128 ((nI_eq (a := (j % 2)) (b := 0) (by omega) (by omega)).mpr h)
              refine lv_iload_n hx hb dX5_mixSurvey_136 rfl (lv_at hl 0 rfl) ?_
              refine lv_i2l (v := (qPl S k 1 ((j + 1) / 2)).toInt64) hx hb dX5_mixSurvey_137 rfl ?_
              refine zz_topl (y := zHb S k (8 * j + 6)) (zHb_o c_79 (by decide) (by decide)) ?_
              refine zw_callv (wr := [((g 1), .inl (y 0, 4023, .inl S))]) (w1 := (fun _ : Unit => [((g 0), .inr (5, [.int th, .ref (g 1), .int (nI sv), .ref (g 2), .ref (g 3), .int (nI ln), .int (nI at9), .int (nI pl), .int va, .long (31 * (zH (zHb S k) (zH (zHa S k) hs 5) (8 * j + 6)) + (zHb S k (8 * j + 6)))]))])) hP hD hS hA [0] [1] rfl rfl (by decide +kernel) (by decide +kernel) (va_runV (As := [.long (zHb S k (8 * j + 6))]) (rest := []) ⟨hx, hb, hml, hown, hts⟩ (mX5_mix l D y _ g th sv ln at9 pl va (zH (zHb S k) (zH (zHa S k) hs 5) (8 * j + 6)) (zHb S k (8 * j + 6))) (cwV 1 hts (zgV tw_575 tw_576 tw_577 tw_369 tw_560) rfl rfl rfl (by decide +kernel) ⟨Nat.le_of_ble_eq_true rfl, Nat.le_of_ble_eq_true rfl⟩) (zRW_preV hKN hP hD (ci := 5) (q0 := 0) rfl rfl [0] rfl (by decide)) rfl rfl hl.1 rfl (lv_room (Nat.le_of_ble_eq_true rfl)) dX5_mixSurvey_138 ⟨Nat.zero_le _, Nat.zero_le _⟩) (fun u_8 H locs hw_138 hP hD hS => ?_)
              have hP : va_P D vwCl [((g 1), .inl (y 0, 4023, .inl S)), ((g 0), .inr (5, [.int th, .ref (g 1), .int (nI sv), .ref (g 2), .ref (g 3), .int (nI ln), .int (nI at9), .int (nI pl), .int va, .long (31 * (zH (zHb S k) (zH (zHa S k) hs 5) (8 * j + 6)) + (zHb S k (8 * j + 6)))]))] H := hP
              have hD : va_D A [((g 1), .inl (y 0, 4023, .inl S)), ((g 0), .inr (5, [.int th, .ref (g 1), .int (nI sv), .ref (g 2), .ref (g 3), .int (nI ln), .int (nI at9), .int (nI pl), .int va, .long (31 * (zH (zHb S k) (zH (zHa S k) hs 5) (8 * j + 6)) + (zHb S k (8 * j + 6)))]))] := hD
              have hP : va_P D vwCl [((g 1), .inl (y 0, 4023, .inl S)), ((g 0), .inr (5, [.int th, .ref (g 1), .int (nI sv), .ref (g 2), .ref (g 3), .int (nI ln), .int (nI at9), .int (nI pl), .int va, .long (zH (zHb S k) (zH (zHa S k) hs 5) (8 * j + 7))]))] H := hP
              have hD : va_D A [((g 1), .inl (y 0, 4023, .inl S)), ((g 0), .inr (5, [.int th, .ref (g 1), .int (nI sv), .ref (g 2), .ref (g 3), .int (nI ln), .int (nI at9), .int (nI pl), .int va, .long (zH (zHb S k) (zH (zHa S k) hs 5) (8 * j + 7))]))] := hD
              refine lv_aload_n hx hb dX5_mixSurvey_141 rfl (lv_at hl 2 rfl) ?_
              refine lv_iload hx hb dX5_mixSurvey_142 (lv_at hl 4 rfl) ?_
              refine lv_iconst (v := 2) hx hb dX5_mixSurvey_144 (by decide) ?_
              refine lv_irem hx hb dX5_mixSurvey_145 (by decide) ?_
              refine zz_top (y := nI (j % 2)) (pk_rem (by omega) (by decide) (by decide)) ?_
              refine lv_if_ne (tgt := 154) hx hb dX5_mixSurvey_146 (by decide) (fun c_146 => ?_) (fun c_146 => ?_)
              · replace c_146 : ¬ (j % 2) = 0 := fun h => c_146 ((nI_eq (a := (j % 2)) (b := 0) (by omega) (by omega)).mpr h)
                refine lv_iload_n hx hb dX5_mixSurvey_154 rfl (lv_at hl 0 rfl) ?_
                refine lv_i2l (v := (qPl S k 1 ((j + 1) / 2)).toInt64) hx hb dX5_mixSurvey_155 rfl ?_
                refine zz_topl (y := zHb S k (8 * j + 7)) (zHb_o c_79 (by decide) (by decide)) ?_
                refine zw_callv (wr := [((g 1), .inl (y 0, 4023, .inl S))]) (w1 := (fun _ : Unit => [((g 0), .inr (5, [.int th, .ref (g 1), .int (nI sv), .ref (g 2), .ref (g 3), .int (nI ln), .int (nI at9), .int (nI pl), .int va, .long (31 * (zH (zHb S k) (zH (zHa S k) hs 5) (8 * j + 7)) + (zHb S k (8 * j + 7)))]))])) hP hD hS hA [1] [0] rfl rfl (by decide +kernel) (by decide +kernel) (va_runV (As := [.long (zHb S k (8 * j + 7))]) (rest := []) ⟨hx, hb, hml, hown, hts⟩ (mX5_mix l D y _ g th sv ln at9 pl va (zH (zHb S k) (zH (zHa S k) hs 5) (8 * j + 7)) (zHb S k (8 * j + 7))) (cwV 1 hts (zgV tw_575 tw_576 tw_577 tw_369 tw_560) rfl rfl rfl (by decide +kernel) ⟨Nat.le_of_ble_eq_true rfl, Nat.le_of_ble_eq_true rfl⟩) (zRW_preV hKN hP hD (ci := 5) (q0 := 1) rfl rfl [1] rfl (by decide)) rfl rfl hl.1 rfl (lv_room (Nat.le_of_ble_eq_true rfl)) dX5_mixSurvey_156 ⟨Nat.zero_le _, Nat.zero_le _⟩) (fun u_9 H locs hw_156 hP hD hS => ?_)
                have hP : va_P D vwCl [((g 1), .inl (y 0, 4023, .inl S)), ((g 0), .inr (5, [.int th, .ref (g 1), .int (nI sv), .ref (g 2), .ref (g 3), .int (nI ln), .int (nI at9), .int (nI pl), .int va, .long (31 * (zH (zHb S k) (zH (zHa S k) hs 5) (8 * j + 7)) + (zHb S k (8 * j + 7)))]))] H := hP
                have hD : va_D A [((g 1), .inl (y 0, 4023, .inl S)), ((g 0), .inr (5, [.int th, .ref (g 1), .int (nI sv), .ref (g 2), .ref (g 3), .int (nI ln), .int (nI at9), .int (nI pl), .int va, .long (31 * (zH (zHb S k) (zH (zHa S k) hs 5) (8 * j + 7)) + (zHb S k (8 * j + 7)))]))] := hD
                have hP : va_P D vwCl [((g 1), .inl (y 0, 4023, .inl S)), ((g 0), .inr (5, [.int th, .ref (g 1), .int (nI sv), .ref (g 2), .ref (g 3), .int (nI ln), .int (nI at9), .int (nI pl), .int va, .long (zH (zHb S k) (zH (zHa S k) hs 5) (8 * (j + 1)))]))] H := hP
                have hD : va_D A [((g 1), .inl (y 0, 4023, .inl S)), ((g 0), .inr (5, [.int th, .ref (g 1), .int (nI sv), .ref (g 2), .ref (g 3), .int (nI ln), .int (nI at9), .int (nI pl), .int va, .long (zH (zHb S k) (zH (zHa S k) hs 5) (8 * (j + 1)))]))] := hD
                refine lv_iinc (v := nI (j + 1)) (lv' := [(4, .int (nI (j + 1))), (3, .int (qPl S k 1 ((j + 1) / 2))), (2, .int (qPl S k 0 ((j + 2) / 2))), (0, .ref (g 0)), (1, .int (nI k)), (5, .int (nI 6))]) hx hb dX5_mixSurvey_159 hl (k := 4) rfl (nI_1 j) (by decide) rfl (fun ls hl => ?_)
                refine lv_goto (tgt := 31) hx hb dX5_mixSurvey_162 (by decide) ?_
                have hP := hP.sub (ws' := [((g 0), .inr (5, [.int th, .ref (g 1), .int (nI sv), .ref (g 2), .ref (g 3), .int (nI ln), .int (nI at9), .int (nI pl), .int va, .long (zH (zHb S k) (zH (zHa S k) hs 5) (8 * (j + 1)))])), ((g 1), .inl (y 0, 4023, .inl S))]) [1, 0] rfl
                have hD := hD.sub (ws' := [((g 0), .inr (5, [.int th, .ref (g 1), .int (nI sv), .ref (g 2), .ref (g 3), .int (nI ln), .int (nI at9), .int (nI pl), .int va, .long (zH (zHb S k) (zH (zHa S k) hs 5) (8 * (j + 1)))])), ((g 1), .inl (y 0, 4023, .inl S))]) [1, 0] (by decide) rfl
                exact ih31 (j + 1) _ _ _ (by omega) ⟨by omega, hP, hD, hS, lv_sub hl [3, 4, 2, 1, 0] rfl⟩
              · replace c_146 : (j % 2) = 0 := (nI_eq (a := (j % 2)) (b := 0) (by omega) (by omega)).mp c_146
                exfalso; omega
            · replace c_128 : (j % 2) = 0 := (nI_eq (a := (j % 2)) (b := 0) (by omega) (by omega)).mp c_128
              exfalso; omega
        · replace c_79 : (j % 2) = 0 := (nI_eq (a := (j % 2)) (b := 0) (by omega) (by omega)).mp c_79
          refine lv_aload_n hx hb dX5_mixSurvey_82 rfl (lv_at hl 0 rfl) ?_
          refine lv_iload_n hx hb dX5_mixSurvey_83 rfl (lv_at hl 1 rfl) ?_
          refine lv_iload hx hb dX5_mixSurvey_84 (lv_at hl 4 rfl) ?_
          refine lv_iconst (v := 2) hx hb dX5_mixSurvey_86 (by decide) ?_
          refine lv_idiv hx hb dX5_mixSurvey_87 (by decide) ?_
          refine zz_top (y := nI (j / 2)) (pk_div (by omega) (by decide) (by decide)) ?_
          refine lv_iconst (v := 0) hx hb dX5_mixSurvey_88 (by decide) ?_
          refine zr_calli (va_runV (As := [.int (nI k), .int (nI (j / 2)), .int 0]) (rest := [.int (qPl S k 0 ((j + 1) / 2))]) ⟨hx, hb, hml, hown, hts⟩ (mX5_tiltTold l D y g S th sv ln at9 pl va (zH (zHb S k) (zH (zHa S k) hs 5) (8 * j + 6)) k (j / 2) 0 (by first | assumption | rfl | omega | decide) (by first | assumption | rfl | omega | decide) (by first | assumption | rfl | omega | decide) (by first | assumption | rfl | omega | decide)) (cwV 3 hts (zgV tw_413 tw_414 tw_415 tw_369 tw_408) rfl rfl rfl (by decide +kernel) ⟨Nat.le_of_ble_eq_true rfl, Nat.le_of_ble_eq_true rfl⟩) (zRO_preV hKN hP (ci := 5) (q0 := 0) rfl rfl [0, 1] rfl) rfl rfl hl.1 rfl (lv_room (Nat.le_of_ble_eq_true rfl)) dX5_mixSurvey_89 ⟨Nat.zero_le _, Nat.zero_le _⟩) hS (fun r_10 H locs hw_89 hT hS => ?_)
          replace hP := hT _ _ hP
          obtain rfl : r_10 = qTt S k (j / 2) 0 := hw_89
          refine lv_goto (tgt := 96) hx hb dX5_mixSurvey_92 (by decide) ?_
          refine lv_iadd hx hb dX5_mixSurvey_96 ?_
          refine zz_top (y := qPl S k 0 ((j + 2) / 2)) (zpl0y c_79) ?_
          refine lv_istore_n (lv' := [(2, .int (qPl S k 0 ((j + 2) / 2))), (0, .ref (g 0)), (1, .int (nI k)), (3, .int (qPl S k 1 (j / 2))), (4, .int (nI j)), (5, .int (nI 6))]) hx hb dX5_mixSurvey_97 rfl hl (by decide) rfl (fun ls hl => ?_)
          refine lv_iload_n hx hb dX5_mixSurvey_98 rfl (lv_at hl 3 rfl) ?_
          refine lv_iload hx hb dX5_mixSurvey_99 (lv_at hl 4 rfl) ?_
          refine lv_iconst (v := 2) hx hb dX5_mixSurvey_101 (by decide) ?_
          refine lv_irem hx hb dX5_mixSurvey_102 (by decide) ?_
          refine zz_top (y := nI (j % 2)) (pk_rem (by omega) (by decide) (by decide)) ?_
          refine lv_iconst (v := 1) hx hb dX5_mixSurvey_103 (by decide) ?_
          refine lv_icmp_ne (tgt := 120) hx hb dX5_mixSurvey_104 (by decide) (fun c_104 => ?_) (fun c_104 => ?_)
          · replace c_104 : ¬ (j % 2) = 1 := fun h => c_104 ((nI_eq (a := (j % 2)) (b := 1) (by omega) (by omega)).mpr h)
            refine lv_iconst (v := 0) hx hb dX5_mixSurvey_120 (by decide) ?_
            refine lv_iadd hx hb dX5_mixSurvey_121 ?_
            refine zz_top (y := qPl S k 1 ((j + 1) / 2)) (zpl1n c_79) ?_
            refine lv_istore_n (lv' := [(3, .int (qPl S k 1 ((j + 1) / 2))), (2, .int (qPl S k 0 ((j + 2) / 2))), (0, .ref (g 0)), (1, .int (nI k)), (4, .int (nI j)), (5, .int (nI 6))]) hx hb dX5_mixSurvey_122 rfl hl (by decide) rfl (fun ls hl => ?_)
            refine lv_aload_n hx hb dX5_mixSurvey_123 rfl (lv_at hl 2 rfl) ?_
            refine lv_iload hx hb dX5_mixSurvey_124 (lv_at hl 4 rfl) ?_
            refine lv_iconst (v := 2) hx hb dX5_mixSurvey_126 (by decide) ?_
            refine lv_irem hx hb dX5_mixSurvey_127 (by decide) ?_
            refine zz_top (y := nI (j % 2)) (pk_rem (by omega) (by decide) (by decide)) ?_
            refine lv_if_ne (tgt := 136) hx hb dX5_mixSurvey_128 (by decide) (fun c_128 => ?_) (fun c_128 => ?_)
            · replace c_128 : ¬ (j % 2) = 0 := fun h => c_128 ((nI_eq (a := (j % 2)) (b := 0) (by omega) (by omega)).mpr h)
              exfalso; omega
            · replace c_128 : (j % 2) = 0 := (nI_eq (a := (j % 2)) (b := 0) (by omega) (by omega)).mp c_128
              refine lv_iload_n hx hb dX5_mixSurvey_131 rfl (lv_at hl 1 rfl) ?_
              refine lv_i2l (v := (qPl S k 0 ((j + 2) / 2)).toInt64) hx hb dX5_mixSurvey_132 rfl ?_
              refine lv_goto (tgt := 138) hx hb dX5_mixSurvey_133 (by decide) ?_
              refine zz_topl (y := zHb S k (8 * j + 6)) (zHb_e c_79 (by decide) (by decide)) ?_
              refine zw_callv (wr := [((g 1), .inl (y 0, 4023, .inl S))]) (w1 := (fun _ : Unit => [((g 0), .inr (5, [.int th, .ref (g 1), .int (nI sv), .ref (g 2), .ref (g 3), .int (nI ln), .int (nI at9), .int (nI pl), .int va, .long (31 * (zH (zHb S k) (zH (zHa S k) hs 5) (8 * j + 6)) + (zHb S k (8 * j + 6)))]))])) hP hD hS hA [0] [1] rfl rfl (by decide +kernel) (by decide +kernel) (va_runV (As := [.long (zHb S k (8 * j + 6))]) (rest := []) ⟨hx, hb, hml, hown, hts⟩ (mX5_mix l D y _ g th sv ln at9 pl va (zH (zHb S k) (zH (zHa S k) hs 5) (8 * j + 6)) (zHb S k (8 * j + 6))) (cwV 1 hts (zgV tw_575 tw_576 tw_577 tw_369 tw_560) rfl rfl rfl (by decide +kernel) ⟨Nat.le_of_ble_eq_true rfl, Nat.le_of_ble_eq_true rfl⟩) (zRW_preV hKN hP hD (ci := 5) (q0 := 0) rfl rfl [0] rfl (by decide)) rfl rfl hl.1 rfl (lv_room (Nat.le_of_ble_eq_true rfl)) dX5_mixSurvey_138 ⟨Nat.zero_le _, Nat.zero_le _⟩) (fun u_11 H locs hw_138 hP hD hS => ?_)
              have hP : va_P D vwCl [((g 1), .inl (y 0, 4023, .inl S)), ((g 0), .inr (5, [.int th, .ref (g 1), .int (nI sv), .ref (g 2), .ref (g 3), .int (nI ln), .int (nI at9), .int (nI pl), .int va, .long (31 * (zH (zHb S k) (zH (zHa S k) hs 5) (8 * j + 6)) + (zHb S k (8 * j + 6)))]))] H := hP
              have hD : va_D A [((g 1), .inl (y 0, 4023, .inl S)), ((g 0), .inr (5, [.int th, .ref (g 1), .int (nI sv), .ref (g 2), .ref (g 3), .int (nI ln), .int (nI at9), .int (nI pl), .int va, .long (31 * (zH (zHb S k) (zH (zHa S k) hs 5) (8 * j + 6)) + (zHb S k (8 * j + 6)))]))] := hD
              have hP : va_P D vwCl [((g 1), .inl (y 0, 4023, .inl S)), ((g 0), .inr (5, [.int th, .ref (g 1), .int (nI sv), .ref (g 2), .ref (g 3), .int (nI ln), .int (nI at9), .int (nI pl), .int va, .long (zH (zHb S k) (zH (zHa S k) hs 5) (8 * j + 7))]))] H := hP
              have hD : va_D A [((g 1), .inl (y 0, 4023, .inl S)), ((g 0), .inr (5, [.int th, .ref (g 1), .int (nI sv), .ref (g 2), .ref (g 3), .int (nI ln), .int (nI at9), .int (nI pl), .int va, .long (zH (zHb S k) (zH (zHa S k) hs 5) (8 * j + 7))]))] := hD
              refine lv_aload_n hx hb dX5_mixSurvey_141 rfl (lv_at hl 2 rfl) ?_
              refine lv_iload hx hb dX5_mixSurvey_142 (lv_at hl 4 rfl) ?_
              refine lv_iconst (v := 2) hx hb dX5_mixSurvey_144 (by decide) ?_
              refine lv_irem hx hb dX5_mixSurvey_145 (by decide) ?_
              refine zz_top (y := nI (j % 2)) (pk_rem (by omega) (by decide) (by decide)) ?_
              refine lv_if_ne (tgt := 154) hx hb dX5_mixSurvey_146 (by decide) (fun c_146 => ?_) (fun c_146 => ?_)
              · replace c_146 : ¬ (j % 2) = 0 := fun h => c_146 ((nI_eq (a := (j % 2)) (b := 0) (by omega) (by omega)).mpr h)
                exfalso; omega
              · replace c_146 : (j % 2) = 0 := (nI_eq (a := (j % 2)) (b := 0) (by omega) (by omega)).mp c_146
                refine lv_iload_n hx hb dX5_mixSurvey_149 rfl (lv_at hl 1 rfl) ?_
                refine lv_i2l (v := (qPl S k 0 ((j + 2) / 2)).toInt64) hx hb dX5_mixSurvey_150 rfl ?_
                refine lv_goto (tgt := 156) hx hb dX5_mixSurvey_151 (by decide) ?_
                refine zz_topl (y := zHb S k (8 * j + 7)) (zHb_e c_79 (by decide) (by decide)) ?_
                refine zw_callv (wr := [((g 1), .inl (y 0, 4023, .inl S))]) (w1 := (fun _ : Unit => [((g 0), .inr (5, [.int th, .ref (g 1), .int (nI sv), .ref (g 2), .ref (g 3), .int (nI ln), .int (nI at9), .int (nI pl), .int va, .long (31 * (zH (zHb S k) (zH (zHa S k) hs 5) (8 * j + 7)) + (zHb S k (8 * j + 7)))]))])) hP hD hS hA [1] [0] rfl rfl (by decide +kernel) (by decide +kernel) (va_runV (As := [.long (zHb S k (8 * j + 7))]) (rest := []) ⟨hx, hb, hml, hown, hts⟩ (mX5_mix l D y _ g th sv ln at9 pl va (zH (zHb S k) (zH (zHa S k) hs 5) (8 * j + 7)) (zHb S k (8 * j + 7))) (cwV 1 hts (zgV tw_575 tw_576 tw_577 tw_369 tw_560) rfl rfl rfl (by decide +kernel) ⟨Nat.le_of_ble_eq_true rfl, Nat.le_of_ble_eq_true rfl⟩) (zRW_preV hKN hP hD (ci := 5) (q0 := 1) rfl rfl [1] rfl (by decide)) rfl rfl hl.1 rfl (lv_room (Nat.le_of_ble_eq_true rfl)) dX5_mixSurvey_156 ⟨Nat.zero_le _, Nat.zero_le _⟩) (fun u_12 H locs hw_156 hP hD hS => ?_)
                have hP : va_P D vwCl [((g 1), .inl (y 0, 4023, .inl S)), ((g 0), .inr (5, [.int th, .ref (g 1), .int (nI sv), .ref (g 2), .ref (g 3), .int (nI ln), .int (nI at9), .int (nI pl), .int va, .long (31 * (zH (zHb S k) (zH (zHa S k) hs 5) (8 * j + 7)) + (zHb S k (8 * j + 7)))]))] H := hP
                have hD : va_D A [((g 1), .inl (y 0, 4023, .inl S)), ((g 0), .inr (5, [.int th, .ref (g 1), .int (nI sv), .ref (g 2), .ref (g 3), .int (nI ln), .int (nI at9), .int (nI pl), .int va, .long (31 * (zH (zHb S k) (zH (zHa S k) hs 5) (8 * j + 7)) + (zHb S k (8 * j + 7)))]))] := hD
                have hP : va_P D vwCl [((g 1), .inl (y 0, 4023, .inl S)), ((g 0), .inr (5, [.int th, .ref (g 1), .int (nI sv), .ref (g 2), .ref (g 3), .int (nI ln), .int (nI at9), .int (nI pl), .int va, .long (zH (zHb S k) (zH (zHa S k) hs 5) (8 * (j + 1)))]))] H := hP
                have hD : va_D A [((g 1), .inl (y 0, 4023, .inl S)), ((g 0), .inr (5, [.int th, .ref (g 1), .int (nI sv), .ref (g 2), .ref (g 3), .int (nI ln), .int (nI at9), .int (nI pl), .int va, .long (zH (zHb S k) (zH (zHa S k) hs 5) (8 * (j + 1)))]))] := hD
                refine lv_iinc (v := nI (j + 1)) (lv' := [(4, .int (nI (j + 1))), (3, .int (qPl S k 1 ((j + 1) / 2))), (2, .int (qPl S k 0 ((j + 2) / 2))), (0, .ref (g 0)), (1, .int (nI k)), (5, .int (nI 6))]) hx hb dX5_mixSurvey_159 hl (k := 4) rfl (nI_1 j) (by decide) rfl (fun ls hl => ?_)
                refine lv_goto (tgt := 31) hx hb dX5_mixSurvey_162 (by decide) ?_
                have hP := hP.sub (ws' := [((g 0), .inr (5, [.int th, .ref (g 1), .int (nI sv), .ref (g 2), .ref (g 3), .int (nI ln), .int (nI at9), .int (nI pl), .int va, .long (zH (zHb S k) (zH (zHa S k) hs 5) (8 * (j + 1)))])), ((g 1), .inl (y 0, 4023, .inl S))]) [1, 0] rfl
                have hD := hD.sub (ws' := [((g 0), .inr (5, [.int th, .ref (g 1), .int (nI sv), .ref (g 2), .ref (g 3), .int (nI ln), .int (nI at9), .int (nI pl), .int va, .long (zH (zHb S k) (zH (zHa S k) hs 5) (8 * (j + 1)))])), ((g 1), .inl (y 0, 4023, .inl S))]) [1, 0] (by decide) rfl
                exact ih31 (j + 1) _ _ _ (by omega) ⟨by omega, hP, hD, hS, lv_sub hl [3, 4, 2, 1, 0] rfl⟩
          · replace c_104 : (j % 2) = 1 := (nI_eq (a := (j % 2)) (b := 1) (by omega) (by omega)).mp c_104
            exfalso; omega
      · replace c_45 : ¬ 6 ≤ i := fun h => c_45 ((nI_leI (a := 6) (b := i) (by omega) (by omega)).mpr h)
        refine lv_aload_n hx hb dX5_mixSurvey_48 rfl (lv_at hl 0 rfl) ?_
        refine lv_aload_n hx hb dX5_mixSurvey_49 rfl (lv_at hl 0 rfl) ?_
        refine lv_iload_n hx hb dX5_mixSurvey_50 rfl (lv_at hl 1 rfl) ?_
        refine lv_iload hx hb dX5_mixSurvey_51 (lv_at hl 4 rfl) ?_
        refine lv_iconst (v := 2) hx hb dX5_mixSurvey_53 (by decide) ?_
        refine lv_idiv hx hb dX5_mixSurvey_54 (by decide) ?_
        refine zz_top (y := nI (j / 2)) (pk_div (by omega) (by decide) (by decide)) ?_
        refine lv_iload hx hb dX5_mixSurvey_55 (lv_at hl 4 rfl) ?_
        refine lv_iconst (v := 2) hx hb dX5_mixSurvey_57 (by decide) ?_
        refine lv_irem hx hb dX5_mixSurvey_58 (by decide) ?_
        refine zz_top (y := nI (j % 2)) (pk_rem (by omega) (by decide) (by decide)) ?_
        refine lv_iload hx hb dX5_mixSurvey_59 (lv_at hl 5 rfl) ?_
        refine zr_calli (va_runV (As := [.int (nI k), .int (nI (j / 2)), .int (nI (j % 2)), .int (nI i)]) (rest := [.ref (g 0)]) ⟨hx, hb, hml, hown, hts⟩ (mX5_ofReading l D y g S th sv ln at9 pl va (zH (zHb S k) (zH (zHa S k) hs 5) (8 * j + i)) k (j / 2) (j % 2) i (by first | assumption | rfl | omega | decide) (by first | assumption | rfl | omega | decide) (by first | assumption | rfl | omega | decide) (by first | assumption | rfl | omega | decide) (by first | assumption | rfl | omega | decide)) (cwV 4 hts (zgV tw_489 tw_490 tw_491 tw_369 tw_484) rfl rfl rfl (by decide +kernel) ⟨Nat.le_of_ble_eq_true rfl, Nat.le_of_ble_eq_true rfl⟩) (zRO_preV hKN hP (ci := 5) (q0 := 0) rfl rfl [0, 1] rfl) rfl rfl hl.1 rfl (lv_room (Nat.le_of_ble_eq_true rfl)) dX5_mixSurvey_61 ⟨Nat.zero_le _, Nat.zero_le _⟩) hS (fun r_13 H locs hw_61 hT hS => ?_)
        replace hP := hT _ _ hP
        obtain rfl : r_13 = qOfR S k (j / 2) (j % 2) i := hw_61
        refine lv_i2l (v := (qOfR S k (j / 2) (j % 2) i).toInt64) hx hb dX5_mixSurvey_64 rfl ?_
        refine zz_topl (y := zHb S k (8 * j + i)) (zHb_r (by omega)) ?_
        refine zw_callv (wr := [((g 1), .inl (y 0, 4023, .inl S))]) (w1 := (fun _ : Unit => [((g 0), .inr (5, [.int th, .ref (g 1), .int (nI sv), .ref (g 2), .ref (g 3), .int (nI ln), .int (nI at9), .int (nI pl), .int va, .long (31 * (zH (zHb S k) (zH (zHa S k) hs 5) (8 * j + i)) + (zHb S k (8 * j + i)))]))])) hP hD hS hA [0] [1] rfl rfl (by decide +kernel) (by decide +kernel) (va_runV (As := [.long (zHb S k (8 * j + i))]) (rest := []) ⟨hx, hb, hml, hown, hts⟩ (mX5_mix l D y _ g th sv ln at9 pl va (zH (zHb S k) (zH (zHa S k) hs 5) (8 * j + i)) (zHb S k (8 * j + i))) (cwV 1 hts (zgV tw_575 tw_576 tw_577 tw_369 tw_560) rfl rfl rfl (by decide +kernel) ⟨Nat.le_of_ble_eq_true rfl, Nat.le_of_ble_eq_true rfl⟩) (zRW_preV hKN hP hD (ci := 5) (q0 := 0) rfl rfl [0] rfl (by decide)) rfl rfl hl.1 rfl (lv_room (Nat.le_of_ble_eq_true rfl)) dX5_mixSurvey_65 ⟨Nat.zero_le _, Nat.zero_le _⟩) (fun u_14 H locs hw_65 hP hD hS => ?_)
        have hP : va_P D vwCl [((g 1), .inl (y 0, 4023, .inl S)), ((g 0), .inr (5, [.int th, .ref (g 1), .int (nI sv), .ref (g 2), .ref (g 3), .int (nI ln), .int (nI at9), .int (nI pl), .int va, .long (31 * (zH (zHb S k) (zH (zHa S k) hs 5) (8 * j + i)) + (zHb S k (8 * j + i)))]))] H := hP
        have hD : va_D A [((g 1), .inl (y 0, 4023, .inl S)), ((g 0), .inr (5, [.int th, .ref (g 1), .int (nI sv), .ref (g 2), .ref (g 3), .int (nI ln), .int (nI at9), .int (nI pl), .int va, .long (31 * (zH (zHb S k) (zH (zHa S k) hs 5) (8 * j + i)) + (zHb S k (8 * j + i)))]))] := hD
        have hP : va_P D vwCl [((g 1), .inl (y 0, 4023, .inl S)), ((g 0), .inr (5, [.int th, .ref (g 1), .int (nI sv), .ref (g 2), .ref (g 3), .int (nI ln), .int (nI at9), .int (nI pl), .int va, .long (zH (zHb S k) (zH (zHa S k) hs 5) (8 * j + (i + 1)))]))] H := hP
        have hD : va_D A [((g 1), .inl (y 0, 4023, .inl S)), ((g 0), .inr (5, [.int th, .ref (g 1), .int (nI sv), .ref (g 2), .ref (g 3), .int (nI ln), .int (nI at9), .int (nI pl), .int va, .long (zH (zHb S k) (zH (zHa S k) hs 5) (8 * j + (i + 1)))]))] := hD
        refine lv_iinc (v := nI (i + 1)) (lv' := [(5, .int (nI (i + 1))), (0, .ref (g 0)), (1, .int (nI k)), (2, .int (qPl S k 0 ((j + 1) / 2))), (3, .int (qPl S k 1 (j / 2))), (4, .int (nI j))]) hx hb dX5_mixSurvey_68 hl (k := 5) rfl (nI_1 i) (by decide) rfl (fun ls hl => ?_)
        refine lv_goto (tgt := 41) hx hb dX5_mixSurvey_71 (by decide) ?_
        have hP := hP.sub (ws' := [((g 0), .inr (5, [.int th, .ref (g 1), .int (nI sv), .ref (g 2), .ref (g 3), .int (nI ln), .int (nI at9), .int (nI pl), .int va, .long (zH (zHb S k) (zH (zHa S k) hs 5) (8 * j + (i + 1)))])), ((g 1), .inl (y 0, 4023, .inl S))]) [1, 0] rfl
        have hD := hD.sub (ws' := [((g 0), .inr (5, [.int th, .ref (g 1), .int (nI sv), .ref (g 2), .ref (g 3), .int (nI ln), .int (nI at9), .int (nI pl), .int va, .long (zH (zHb S k) (zH (zHa S k) hs 5) (8 * j + (i + 1)))])), ((g 1), .inl (y 0, 4023, .inl S))]) [1, 0] (by decide) rfl
        exact ih41 (i + 1) _ _ _ (by omega) ⟨by omega, hP, hD, hS, lv_sub hl [1, 2, 3, 4, 5, 0] rfl⟩
  · replace c_4 : ¬ 5 ≤ i := fun h => c_4 ((nI_leI (a := 5) (b := i) (by omega) (by omega)).mpr h)
    refine lv_aload_n hx hb dX5_mixSurvey_7 rfl (lv_at hl 0 rfl) ?_
    refine lv_aload_n hx hb dX5_mixSurvey_8 rfl (lv_at hl 0 rfl) ?_
    refine lv_iload_n hx hb dX5_mixSurvey_9 rfl (lv_at hl 1 rfl) ?_
    refine lv_iload_n hx hb dX5_mixSurvey_10 rfl (lv_at hl 2 rfl) ?_
    refine zr_calli (va_runV (As := [.int (nI k), .int (nI i)]) (rest := [.ref (g 0)]) ⟨hx, hb, hml, hown, hts⟩ (mX5_ofSurvey l D y g S th sv ln at9 pl va (zH (zHa S k) hs i) k i (by first | assumption | rfl | omega | decide) (by first | assumption | rfl | omega | decide)) (cwV 2 hts (zgV tw_502 tw_503 tw_504 tw_369 tw_494) rfl rfl rfl (by decide +kernel) ⟨Nat.le_of_ble_eq_true rfl, Nat.le_of_ble_eq_true rfl⟩) (zRO_preV hKN hP (ci := 5) (q0 := 0) rfl rfl [0, 1] rfl) rfl rfl hl.1 rfl (lv_room (Nat.le_of_ble_eq_true rfl)) dX5_mixSurvey_11 ⟨Nat.zero_le _, Nat.zero_le _⟩) hS (fun r_15 H locs hw_11 hT hS => ?_)
    replace hP := hT _ _ hP
    obtain rfl : r_15 = qOfS S k i := hw_11
    refine lv_i2l (v := (qOfS S k i).toInt64) hx hb dX5_mixSurvey_14 rfl ?_
    refine zz_topl (y := zHa S k i) (rfl) ?_
    refine zw_callv (wr := [((g 1), .inl (y 0, 4023, .inl S))]) (w1 := (fun _ : Unit => [((g 0), .inr (5, [.int th, .ref (g 1), .int (nI sv), .ref (g 2), .ref (g 3), .int (nI ln), .int (nI at9), .int (nI pl), .int va, .long (31 * (zH (zHa S k) hs i) + (zHa S k i))]))])) hP hD hS hA [0] [1] rfl rfl (by decide +kernel) (by decide +kernel) (va_runV (As := [.long (zHa S k i)]) (rest := []) ⟨hx, hb, hml, hown, hts⟩ (mX5_mix l D y _ g th sv ln at9 pl va (zH (zHa S k) hs i) (zHa S k i)) (cwV 1 hts (zgV tw_575 tw_576 tw_577 tw_369 tw_560) rfl rfl rfl (by decide +kernel) ⟨Nat.le_of_ble_eq_true rfl, Nat.le_of_ble_eq_true rfl⟩) (zRW_preV hKN hP hD (ci := 5) (q0 := 0) rfl rfl [0] rfl (by decide)) rfl rfl hl.1 rfl (lv_room (Nat.le_of_ble_eq_true rfl)) dX5_mixSurvey_15 ⟨Nat.zero_le _, Nat.zero_le _⟩) (fun u_16 H locs hw_15 hP hD hS => ?_)
    have hP : va_P D vwCl [((g 1), .inl (y 0, 4023, .inl S)), ((g 0), .inr (5, [.int th, .ref (g 1), .int (nI sv), .ref (g 2), .ref (g 3), .int (nI ln), .int (nI at9), .int (nI pl), .int va, .long (31 * (zH (zHa S k) hs i) + (zHa S k i))]))] H := hP
    have hD : va_D A [((g 1), .inl (y 0, 4023, .inl S)), ((g 0), .inr (5, [.int th, .ref (g 1), .int (nI sv), .ref (g 2), .ref (g 3), .int (nI ln), .int (nI at9), .int (nI pl), .int va, .long (31 * (zH (zHa S k) hs i) + (zHa S k i))]))] := hD
    have hP : va_P D vwCl [((g 1), .inl (y 0, 4023, .inl S)), ((g 0), .inr (5, [.int th, .ref (g 1), .int (nI sv), .ref (g 2), .ref (g 3), .int (nI ln), .int (nI at9), .int (nI pl), .int va, .long (zH (zHa S k) hs (i + 1))]))] H := hP
    have hD : va_D A [((g 1), .inl (y 0, 4023, .inl S)), ((g 0), .inr (5, [.int th, .ref (g 1), .int (nI sv), .ref (g 2), .ref (g 3), .int (nI ln), .int (nI at9), .int (nI pl), .int va, .long (zH (zHa S k) hs (i + 1))]))] := hD
    refine lv_iinc (v := nI (i + 1)) (lv' := [(2, .int (nI (i + 1))), (0, .ref (g 0)), (1, .int (nI k))]) hx hb dX5_mixSurvey_18 hl (k := 2) rfl (nI_1 i) (by decide) rfl (fun ls hl => ?_)
    refine lv_goto (tgt := 2) hx hb dX5_mixSurvey_21 (by decide) ?_
    have hP := hP.sub (ws' := [((g 0), .inr (5, [.int th, .ref (g 1), .int (nI sv), .ref (g 2), .ref (g 3), .int (nI ln), .int (nI at9), .int (nI pl), .int va, .long (zH (zHa S k) hs (i + 1))])), ((g 1), .inl (y 0, 4023, .inl S))]) [1, 0] rfl
    have hD := hD.sub (ws' := [((g 0), .inr (5, [.int th, .ref (g 1), .int (nI sv), .ref (g 2), .ref (g 3), .int (nI ln), .int (nI at9), .int (nI pl), .int va, .long (zH (zHa S k) hs (i + 1))])), ((g 1), .inl (y 0, 4023, .inl S))]) [1, 0] (by decide) rfl
    exact ih2 (i + 1) _ _ _ (by omega) ⟨by omega, hP, hD, hS, lv_sub hl [1, 2, 0] rfl⟩

set_option maxHeartbeats 4000000 in
set_option maxRecDepth 100000 in
theorem mX5_digest (l : Launch) (D : va_G) (y : Nat → ClassId) (sz : Nat) (g : Nat → Nat) (S : (Nat → Int32)) (th : Int32) (sv : Nat) (ln : Nat) (at9 : Nat) (pl : Nat) (va : Int32) (hs : Int64) (n : Nat) (kp : (Nat → Int32)) (tx : (Nat → Int32)) (hn : n ≤ 6) (hS1 : S 1 = nI n) (hl6 : ln ≤ 60) (hTu : hTq S) (hB9 : ∀ k : Nat, k < 6 → ∀ o v : Nat, o < 2 → v < 16 → -1800 ≤ (qCk S k v o).toInt ∧ (qCk S k v o).toInt ≤ 1800) : Met l yX5_digest (ws_ yX5_digest cX5_digest 2 (some .long)) ({ frames := 10, cells := 0, slots := 0, locals := 248 }) (va_Pc [.ref (g 0)] (zRW D y [((g 0), .inr (5, [.int th, .ref (g 1), .int (nI sv), .ref (g 2), .ref (g 3), .int (nI ln), .int (nI at9), .int (nI pl), .int va, .long hs])), ((g 1), .inl (y 0, 4023, .inl S)), ((g 2), .inl (y 2, 2, .inl kp)), ((g 3), .inl (y 0, 60, .inl tx))] sz)) (va_Ql (fun (r : Int64) (_ : Unit) => r = zDg S sv n kp ln tx) (fun (_ : Unit) t => zOut D (va_A [((g 0), .inr (5, [.int th, .ref (g 1), .int (nI sv), .ref (g 2), .ref (g 3), .int (nI ln), .int (nI at9), .int (nI pl), .int va, .long hs])), ((g 1), .inl (y 0, 4023, .inl S)), ((g 2), .inl (y 2, 2, .inl kp)), ((g 3), .inl (y 0, 60, .inl tx))] sz) [((g 0), .inr (5, [.int 0, .ref (g 1), .int (nI sv), .ref (g 2), .ref (g 3), .int (nI ln), .int (nI at9), .int (nI pl), .int va, .long (zDg S sv n kp ln tx)])), ((g 1), .inl (y 0, 4023, .inl S)), ((g 2), .inl (y 2, 2, .inl kp)), ((g 3), .inl (y 0, 60, .inl tx))] t) (va_A [((g 0), .inr (5, [.int th, .ref (g 1), .int (nI sv), .ref (g 2), .ref (g 3), .int (nI ln), .int (nI at9), .int (nI pl), .int va, .long hs])), ((g 1), .inl (y 0, 4023, .inl S)), ((g 2), .inl (y 2, 2, .inl kp)), ((g 3), .inl (y 0, 60, .inl tx))] sz)) 0 0 (va_A [((g 0), .inr (5, [.int th, .ref (g 1), .int (nI sv), .ref (g 2), .ref (g 3), .int (nI ln), .int (nI at9), .int (nI pl), .int va, .long hs])), ((g 1), .inl (y 0, 4023, .inl S)), ((g 2), .inl (y 2, 2, .inl kp)), ((g 3), .inl (y 0, 60, .inl tx))] sz) := by
  refine Met.ofW (cc := cX5_digest) (maxL := 2) (ret := (some .long)) (by decide) rfl ?_
  intro p e s m args below meth c s₁ B hml hpre9
  obtain ⟨rfl, hsz, hP, hKN, hD0⟩ := hpre9
  have hK := hKN.1
  have hx := B.exec
  have hb := B.bytes
  have hr := B.returns
  have hts := atoms_spec (ws := (ws_ yX5_digest cX5_digest 2 (some .long))) B.pre
  have htg : ∀ w ∈ gT, w.before _ s = true := fun w h => hts w (List.mem_cons_of_mem _ h)
  have hown : s.vm.findClass RX5 = some m.cls := findClass_of_methodNamed B.named
  have hlocks := B.notSynchronized
  subst hsz
  have hD := hD0.self (sz := s.heap.size)
  clear hD0
  generalize hAe : va_A [((g 0), .inr (5, [.int th, .ref (g 1), .int (nI sv), .ref (g 2), .ref (g 3), .int (nI ln), .int (nI at9), .int (nI pl), .int va, .long hs])), ((g 1), .inl (y 0, 4023, .inl S)), ((g 2), .inl (y 2, 2, .inl kp)), ((g 3), .inl (y 0, 60, .inl tx))] s.heap.size = A at hD ⊢
  have hA : ∀ q : Nat, s.heap.size ≤ q → A q := fun q h => by rw [← hAe]; exact Or.inr h
  have hS : va_S A s.heap s.heap [] := va_S.rf
  have hP : va_P D vwCl [((g 0), .inr (5, [.int th, .ref (g 1), .int (nI sv), .ref (g 2), .ref (g 3), .int (nI ln), .int (nI at9), .int (nI pl), .int va, .long hs])), ((g 1), .inl (y 0, 4023, .inl S)), ((g 2), .inl (y 2, 2, .inl kp)), ((g 3), .inl (y 0, 60, .inl tx))] s.heap := hP
  have hl := lv_entry ([.ref (g 0)]) (n := 2) (Nat.le_of_ble_eq_true rfl)
  rw [lg_entry_eq]
  generalize (lg_sl ([.ref (g 0)]) ++ List.replicate (2 - (lg_sl ([.ref (g 0)])).length) Slot.unset).toArray = ls at hl ⊢
  have hl : lv_has ls 2 [(0, .ref (g 0))] := hl
  refine lv_aload_n hx hb dX5_digest_0 rfl (lv_at hl 0 rfl) ?_
  refine lv_iconst (v := 0) hx hb dX5_digest_1 (by decide) ?_
  refine va_put (D := D) (ci := 5) (v := .int 0) (ty := .int) (C := RX5) (T := TX5) (N := 10) hx hb htg iX5 tyX5 tyX5_ok nmX5 hown hK hP hD hS 0 rfl rfl 0 (by decide) (htg _ tw_363) (fun _ h9 => h9) rfl (tyX5_ok 0 (by decide)) (rfl) (rfl) (Nat.le_of_ble_eq_true rfl) dX5_digest_2 (fun H locs hP hD hS => ?_)
  have hP : va_P D vwCl [((g 0), .inr (5, [.int 0, .ref (g 1), .int (nI sv), .ref (g 2), .ref (g 3), .int (nI ln), .int (nI at9), .int (nI pl), .int va, .long hs])), ((g 1), .inl (y 0, 4023, .inl S)), ((g 2), .inl (y 2, 2, .inl kp)), ((g 3), .inl (y 0, 60, .inl tx))] H := hP
  have hD : va_D A [((g 0), .inr (5, [.int 0, .ref (g 1), .int (nI sv), .ref (g 2), .ref (g 3), .int (nI ln), .int (nI at9), .int (nI pl), .int va, .long hs])), ((g 1), .inl (y 0, 4023, .inl S)), ((g 2), .inl (y 2, 2, .inl kp)), ((g 3), .inl (y 0, 60, .inl tx))] := hD
  refine lv_aload_n hx hb dX5_digest_5 rfl (lv_at hl 0 rfl) ?_
  refine lv_ldc2 hx hb hown (htg _ tw_581) dX5_digest_6 ?_
  refine va_put (D := D) (ci := 5) (v := .long (3533)) (ty := .long) (C := RX5) (T := TX5) (N := 10) hx hb htg iX5 tyX5 tyX5_ok nmX5 hown hK hP hD hS 0 rfl rfl 9 (by decide) (htg _ tw_562) (fun _ h9 => h9) rfl (tyX5_ok 9 (by decide)) (rfl) (rfl) (Nat.le_of_ble_eq_true rfl) dX5_digest_9 (fun H locs hP hD hS => ?_)
  have hP : va_P D vwCl [((g 0), .inr (5, [.int 0, .ref (g 1), .int (nI sv), .ref (g 2), .ref (g 3), .int (nI ln), .int (nI at9), .int (nI pl), .int va, .long (3533)])), ((g 1), .inl (y 0, 4023, .inl S)), ((g 2), .inl (y 2, 2, .inl kp)), ((g 3), .inl (y 0, 60, .inl tx))] H := hP
  have hD : va_D A [((g 0), .inr (5, [.int 0, .ref (g 1), .int (nI sv), .ref (g 2), .ref (g 3), .int (nI ln), .int (nI at9), .int (nI pl), .int va, .long (3533)])), ((g 1), .inl (y 0, 4023, .inl S)), ((g 2), .inl (y 2, 2, .inl kp)), ((g 3), .inl (y 0, 60, .inl tx))] := hD
  refine lv_iconst (v := 0) hx hb dX5_digest_12 (by decide) ?_
  refine lv_istore_n (lv' := [(1, .int 0), (0, .ref (g 0))]) hx hb dX5_digest_13 rfl hl (by decide) rfl (fun ls hl => ?_)
  refine zloop (fun i : Nat => 8 - i) (fun i H locs ls => i ≤ 8 ∧ va_P D vwCl [((g 0), .inr (5, [.int 0, .ref (g 1), .int (nI sv), .ref (g 2), .ref (g 3), .int (nI ln), .int (nI at9), .int (nI pl), .int va, .long (zH (zDc S (nI sv)) 3533 i)])), ((g 1), .inl (y 0, 4023, .inl S)), ((g 2), .inl (y 2, 2, .inl kp)), ((g 3), .inl (y 0, 60, .inl tx))] H ∧ va_D A [((g 0), .inr (5, [.int 0, .ref (g 1), .int (nI sv), .ref (g 2), .ref (g 3), .int (nI ln), .int (nI at9), .int (nI pl), .int va, .long (zH (zDc S (nI sv)) 3533 i)])), ((g 1), .inl (y 0, 4023, .inl S)), ((g 2), .inl (y 2, 2, .inl kp)), ((g 3), .inl (y 0, 60, .inl tx))] ∧ va_S A s.heap H locs ∧ lv_has ls 2 [(0, .ref (g 0)), (1, .int (nI i))]) 14 (fun _ => 0) (fun _ => 0) ?_ (0) ⟨by omega, hP, hD, hS, lv_sub hl [1, 0] rfl⟩
  clear hl hS hP hD
  rintro i H locs ls ⟨hi, hP, hD, hS, hl⟩ ih14
  refine lv_iload_n hx hb dX5_digest_14 rfl (lv_at hl 1 rfl) ?_
  refine lv_bipush (v := 8) hx hb dX5_digest_15 (by decide) ?_
  refine lv_icmp_ge (tgt := 36) hx hb dX5_digest_17 (by decide) (fun c_17 => ?_) (fun c_17 => ?_)
  · replace c_17 : 8 ≤ i := (nI_leI (a := 8) (b := i) (by omega) (by omega)).mp c_17
    obtain rfl : i = 8 := by omega
    refine lv_iconst (v := 0) hx hb dX5_digest_36 (by decide) ?_
    refine lv_istore_n (lv' := [(1, .int 0), (0, .ref (g 0))]) hx hb dX5_digest_37 rfl hl (by decide) rfl (fun ls hl => ?_)
    refine zloop (fun i : Nat => 3 - i) (fun i H locs ls => i ≤ 3 ∧ va_P D vwCl [((g 0), .inr (5, [.int 0, .ref (g 1), .int (nI sv), .ref (g 2), .ref (g 3), .int (nI ln), .int (nI at9), .int (nI pl), .int va, .long (zH (zDs S) (zH (zDc S (nI sv)) 3533 8) i)])), ((g 1), .inl (y 0, 4023, .inl S)), ((g 2), .inl (y 2, 2, .inl kp)), ((g 3), .inl (y 0, 60, .inl tx))] H ∧ va_D A [((g 0), .inr (5, [.int 0, .ref (g 1), .int (nI sv), .ref (g 2), .ref (g 3), .int (nI ln), .int (nI at9), .int (nI pl), .int va, .long (zH (zDs S) (zH (zDc S (nI sv)) 3533 8) i)])), ((g 1), .inl (y 0, 4023, .inl S)), ((g 2), .inl (y 2, 2, .inl kp)), ((g 3), .inl (y 0, 60, .inl tx))] ∧ va_S A s.heap H locs ∧ lv_has ls 2 [(0, .ref (g 0)), (1, .int (nI i))]) 38 (fun _ => 0) (fun _ => 0) ?_ (0) ⟨by omega, hP, hD, hS, lv_sub hl [1, 0] rfl⟩
    clear hl hS hP hD
    rintro i H locs ls ⟨hi, hP, hD, hS, hl⟩ ih38
    refine lv_iload_n hx hb dX5_digest_38 rfl (lv_at hl 1 rfl) ?_
    refine lv_iconst (v := 3) hx hb dX5_digest_39 (by decide) ?_
    refine lv_icmp_ge (tgt := 63) hx hb dX5_digest_40 (by decide) (fun c_40 => ?_) (fun c_40 => ?_)
    · replace c_40 : 3 ≤ i := (nI_leI (a := 3) (b := i) (by omega) (by omega)).mp c_40
      obtain rfl : i = 3 := by omega
      refine lv_iconst (v := 0) hx hb dX5_digest_63 (by decide) ?_
      refine lv_istore_n (lv' := [(1, .int 0), (0, .ref (g 0))]) hx hb dX5_digest_64 rfl hl (by decide) rfl (fun ls hl => ?_)
      refine zloop (fun i : Nat => 112 - i) (fun i H locs ls => i ≤ 112 ∧ va_P D vwCl [((g 0), .inr (5, [.int 0, .ref (g 1), .int (nI sv), .ref (g 2), .ref (g 3), .int (nI ln), .int (nI at9), .int (nI pl), .int va, .long (zH (zDl S) (zH (zDs S) (zH (zDc S (nI sv)) 3533 8) 3) i)])), ((g 1), .inl (y 0, 4023, .inl S)), ((g 2), .inl (y 2, 2, .inl kp)), ((g 3), .inl (y 0, 60, .inl tx))] H ∧ va_D A [((g 0), .inr (5, [.int 0, .ref (g 1), .int (nI sv), .ref (g 2), .ref (g 3), .int (nI ln), .int (nI at9), .int (nI pl), .int va, .long (zH (zDl S) (zH (zDs S) (zH (zDc S (nI sv)) 3533 8) 3) i)])), ((g 1), .inl (y 0, 4023, .inl S)), ((g 2), .inl (y 2, 2, .inl kp)), ((g 3), .inl (y 0, 60, .inl tx))] ∧ va_S A s.heap H locs ∧ lv_has ls 2 [(0, .ref (g 0)), (1, .int (nI i))]) 65 (fun _ => 0) (fun _ => 0) ?_ (0) ⟨by omega, hP, hD, hS, lv_sub hl [1, 0] rfl⟩
      clear hl hS hP hD
      rintro i H locs ls ⟨hi, hP, hD, hS, hl⟩ ih65
      refine lv_iload_n hx hb dX5_digest_65 rfl (lv_at hl 1 rfl) ?_
      refine lv_bipush (v := 112) hx hb dX5_digest_66 (by decide) ?_
      refine lv_icmp_ge (tgt := 94) hx hb dX5_digest_68 (by decide) (fun c_68 => ?_) (fun c_68 => ?_)
      · replace c_68 : 112 ≤ i := (nI_leI (a := 112) (b := i) (by omega) (by omega)).mp c_68
        obtain rfl : i = 112 := by omega
        have hP : va_P D vwCl [((g 0), .inr (5, [.int 0, .ref (g 1), .int (nI sv), .ref (g 2), .ref (g 3), .int (nI ln), .int (nI at9), .int (nI pl), .int va, .long (zDgC S (nI sv) 3533)])), ((g 1), .inl (y 0, 4023, .inl S)), ((g 2), .inl (y 2, 2, .inl kp)), ((g 3), .inl (y 0, 60, .inl tx))] H := hP
        have hD : va_D A [((g 0), .inr (5, [.int 0, .ref (g 1), .int (nI sv), .ref (g 2), .ref (g 3), .int (nI ln), .int (nI at9), .int (nI pl), .int va, .long (zDgC S (nI sv) 3533)])), ((g 1), .inl (y 0, 4023, .inl S)), ((g 2), .inl (y 2, 2, .inl kp)), ((g 3), .inl (y 0, 60, .inl tx))] := hD
        refine lv_iconst (v := 0) hx hb dX5_digest_94 (by decide) ?_
        refine lv_istore_n (lv' := [(1, .int 0), (0, .ref (g 0))]) hx hb dX5_digest_95 rfl hl (by decide) rfl (fun ls hl => ?_)
        refine zloop (fun i : Nat => 6 - i) (fun i H locs ls => i ≤ n ∧ va_P D vwCl [((g 0), .inr (5, [.int 0, .ref (g 1), .int (nI sv), .ref (g 2), .ref (g 3), .int (nI ln), .int (nI at9), .int (nI pl), .int va, .long (zDgS S (zDgC S (nI sv) 3533) i)])), ((g 1), .inl (y 0, 4023, .inl S)), ((g 2), .inl (y 2, 2, .inl kp)), ((g 3), .inl (y 0, 60, .inl tx))] H ∧ va_D A [((g 0), .inr (5, [.int 0, .ref (g 1), .int (nI sv), .ref (g 2), .ref (g 3), .int (nI ln), .int (nI at9), .int (nI pl), .int va, .long (zDgS S (zDgC S (nI sv) 3533) i)])), ((g 1), .inl (y 0, 4023, .inl S)), ((g 2), .inl (y 2, 2, .inl kp)), ((g 3), .inl (y 0, 60, .inl tx))] ∧ va_S A s.heap H locs ∧ lv_has ls 2 [(0, .ref (g 0)), (1, .int (nI i))]) 96 (fun _ => 0) (fun _ => 0) ?_ (0) ⟨by omega, hP, hD, hS, lv_sub hl [1, 0] rfl⟩
        clear hl hS hP hD
        rintro i H locs ls ⟨hi, hP, hD, hS, hl⟩ ih96
        refine lv_iload_n hx hb dX5_digest_96 rfl (lv_at hl 1 rfl) ?_
        refine lv_aload_n hx hb dX5_digest_97 rfl (lv_at hl 0 rfl) ?_
        refine va_get (D := D) (ci := 5) (v := .ref (g 1)) (C := RX5) (T := TX5) (N := 10) hx hb htg iX5 hown hK hP 0 rfl rfl 1 (by decide) (htg _ tw_359) (fun _ h9 => h9) rfl dX5_digest_98 ?_
        refine lv_iconst (v := 1) hx hb dX5_digest_101 (by decide) ?_
        refine va_iald hx hb hK hP 1 0 rfl rfl (vp_in_nI (n := 1) (by decide) (by decide)) dX5_digest_102 ?_
        refine zz_top (y := S 1) (congrArg S (by decide)) ?_
        refine zz_top (y := nI n) (hS1) ?_
        refine lv_icmp_ge (tgt := 117) hx hb dX5_digest_103 (by decide) (fun c_103 => ?_) (fun c_103 => ?_)
        · replace c_103 : n ≤ i := (nI_leI (a := n) (b := i) (by omega) (by omega)).mp c_103
          have e8 : i = n := by omega
          rw [e8] at hP hD
          have hP : va_P D vwCl [((g 0), .inr (5, [.int 0, .ref (g 1), .int (nI sv), .ref (g 2), .ref (g 3), .int (nI ln), .int (nI at9), .int (nI pl), .int va, .long (zDgS S (zDgC S (nI sv) 3533) n)])), ((g 1), .inl (y 0, 4023, .inl S)), ((g 2), .inl (y 2, 2, .inl kp)), ((g 3), .inl (y 0, 60, .inl tx))] H := hP
          have hD : va_D A [((g 0), .inr (5, [.int 0, .ref (g 1), .int (nI sv), .ref (g 2), .ref (g 3), .int (nI ln), .int (nI at9), .int (nI pl), .int va, .long (zDgS S (zDgC S (nI sv) 3533) n)])), ((g 1), .inl (y 0, 4023, .inl S)), ((g 2), .inl (y 2, 2, .inl kp)), ((g 3), .inl (y 0, 60, .inl tx))] := hD
          refine lv_iconst (v := 2) hx hb dX5_digest_117 (by decide) ?_
          refine lv_istore_n (lv' := [(1, .int 2), (0, .ref (g 0))]) hx hb dX5_digest_118 rfl hl (by decide) rfl (fun ls hl => ?_)
          refine zloop (fun i : Nat => 14 - i) (fun i H locs ls => (i ≤ 2 ∨ i ≤ 2 * n) ∧ 2 ≤ i ∧ va_P D vwCl [((g 0), .inr (5, [.int 0, .ref (g 1), .int (nI sv), .ref (g 2), .ref (g 3), .int (nI ln), .int (nI at9), .int (nI pl), .int va, .long (zDgL S (zDgS S (zDgC S (nI sv) 3533) n) (i - 2))])), ((g 1), .inl (y 0, 4023, .inl S)), ((g 2), .inl (y 2, 2, .inl kp)), ((g 3), .inl (y 0, 60, .inl tx))] H ∧ va_D A [((g 0), .inr (5, [.int 0, .ref (g 1), .int (nI sv), .ref (g 2), .ref (g 3), .int (nI ln), .int (nI at9), .int (nI pl), .int va, .long (zDgL S (zDgS S (zDgC S (nI sv) 3533) n) (i - 2))])), ((g 1), .inl (y 0, 4023, .inl S)), ((g 2), .inl (y 2, 2, .inl kp)), ((g 3), .inl (y 0, 60, .inl tx))] ∧ va_S A s.heap H locs ∧ lv_has ls 2 [(0, .ref (g 0)), (1, .int (nI i))]) 119 (fun _ => 0) (fun _ => 0) ?_ (2) ⟨by omega, by omega, hP, hD, hS, lv_sub hl [1, 0] rfl⟩
          clear hl hS hP hD
          rintro i H locs ls ⟨hi, hi2, hP, hD, hS, hl⟩ ih119
          refine lv_iload_n hx hb dX5_digest_119 rfl (lv_at hl 1 rfl) ?_
          refine lv_iconst (v := 2) hx hb dX5_digest_120 (by decide) ?_
          refine lv_aload_n hx hb dX5_digest_121 rfl (lv_at hl 0 rfl) ?_
          refine va_get (D := D) (ci := 5) (v := .ref (g 1)) (C := RX5) (T := TX5) (N := 10) hx hb htg iX5 hown hK hP 0 rfl rfl 1 (by decide) (htg _ tw_359) (fun _ h9 => h9) rfl dX5_digest_122 ?_
          refine lv_iconst (v := 1) hx hb dX5_digest_125 (by decide) ?_
          refine va_iald hx hb hK hP 1 0 rfl rfl (vp_in_nI (n := 1) (by decide) (by decide)) dX5_digest_126 ?_
          refine zz_top (y := S 1) (congrArg S (by decide)) ?_
          refine zz_top (y := nI n) (hS1) ?_
          refine lv_imul hx hb dX5_digest_127 ?_
          refine zz_top (y := nI (2 * n)) (pk_mul 2 n) ?_
          refine lv_icmp_ge (tgt := 188) hx hb dX5_digest_128 (by decide) (fun c_128 => ?_) (fun c_128 => ?_)
          · replace c_128 : (2 * n) ≤ i := (nI_leI (a := (2 * n)) (b := i) (by omega) (by omega)).mp c_128
            have e8 : i - 2 = 2 * n - 2 := by omega
            rw [e8] at hP hD
            have hP : va_P D vwCl [((g 0), .inr (5, [.int 0, .ref (g 1), .int (nI sv), .ref (g 2), .ref (g 3), .int (nI ln), .int (nI at9), .int (nI pl), .int va, .long (zDgL S (zDgS S (zDgC S (nI sv) 3533) n) (2 * n - 2))])), ((g 1), .inl (y 0, 4023, .inl S)), ((g 2), .inl (y 2, 2, .inl kp)), ((g 3), .inl (y 0, 60, .inl tx))] H := hP
            have hD : va_D A [((g 0), .inr (5, [.int 0, .ref (g 1), .int (nI sv), .ref (g 2), .ref (g 3), .int (nI ln), .int (nI at9), .int (nI pl), .int va, .long (zDgL S (zDgS S (zDgC S (nI sv) 3533) n) (2 * n - 2))])), ((g 1), .inl (y 0, 4023, .inl S)), ((g 2), .inl (y 2, 2, .inl kp)), ((g 3), .inl (y 0, 60, .inl tx))] := hD
            refine lv_aload_n hx hb dX5_digest_188 rfl (lv_at hl 0 rfl) ?_
            refine lv_aload_n hx hb dX5_digest_189 rfl (lv_at hl 0 rfl) ?_
            refine va_get (D := D) (ci := 5) (v := .ref (g 2)) (C := RX5) (T := TX5) (N := 10) hx hb htg iX5 hown hK hP 0 rfl rfl 3 (by decide) (htg _ tw_360) (fun _ h9 => h9) rfl dX5_digest_190 ?_
            refine lv_iconst (v := 0) hx hb dX5_digest_193 (by decide) ?_
            refine va_zald hx hb hK hP 2 2 rfl rfl (vp_in_nI (n := 0) (by decide) (by decide)) dX5_digest_194 ?_
            refine zz_top (y := kp 0) (congrArg kp (by decide)) ?_
            refine lv_if_eq (tgt := 202) hx hb dX5_digest_195 (by decide) (fun c_195 => ?_) (fun c_195 => ?_)
            · refine lv_lconst (v := 0) hx hb dX5_digest_202 (by decide) ?_
              refine zz_topl (y := zB1 (kp 0)) (if_pos c_195).symm ?_
              refine zw_callv (wr := [((g 1), .inl (y 0, 4023, .inl S)), ((g 2), .inl (y 2, 2, .inl kp)), ((g 3), .inl (y 0, 60, .inl tx))]) (w1 := (fun _ : Unit => [((g 0), .inr (5, [.int 0, .ref (g 1), .int (nI sv), .ref (g 2), .ref (g 3), .int (nI ln), .int (nI at9), .int (nI pl), .int va, .long (31 * (zDgL S (zDgS S (zDgC S (nI sv) 3533) n) (2 * n - 2)) + (zB1 (kp 0)))]))])) hP hD hS hA [0] [1, 2, 3] rfl rfl (by decide +kernel) (by decide +kernel) (va_runV (As := [.long (zB1 (kp 0))]) (rest := []) ⟨hx, hb, hml, hown, hts⟩ (mX5_mix l D y _ g 0 sv ln at9 pl va (zDgL S (zDgS S (zDgC S (nI sv) 3533) n) (2 * n - 2)) (zB1 (kp 0))) (cwV 1 hts (zgV tw_575 tw_576 tw_577 tw_369 tw_560) rfl rfl rfl (by decide +kernel) ⟨Nat.le_of_ble_eq_true rfl, Nat.le_of_ble_eq_true rfl⟩) (zRW_preV hKN hP hD (ci := 5) (q0 := 0) rfl rfl [0] rfl (by decide)) rfl rfl hl.1 rfl (lv_room (Nat.le_of_ble_eq_true rfl)) dX5_digest_203 ⟨Nat.zero_le _, Nat.zero_le _⟩) (fun u_1 H locs hw_203 hP hD hS => ?_)
              have hP : va_P D vwCl [((g 1), .inl (y 0, 4023, .inl S)), ((g 2), .inl (y 2, 2, .inl kp)), ((g 3), .inl (y 0, 60, .inl tx)), ((g 0), .inr (5, [.int 0, .ref (g 1), .int (nI sv), .ref (g 2), .ref (g 3), .int (nI ln), .int (nI at9), .int (nI pl), .int va, .long (31 * (zDgL S (zDgS S (zDgC S (nI sv) 3533) n) (2 * n - 2)) + (zB1 (kp 0)))]))] H := hP
              have hD : va_D A [((g 1), .inl (y 0, 4023, .inl S)), ((g 2), .inl (y 2, 2, .inl kp)), ((g 3), .inl (y 0, 60, .inl tx)), ((g 0), .inr (5, [.int 0, .ref (g 1), .int (nI sv), .ref (g 2), .ref (g 3), .int (nI ln), .int (nI at9), .int (nI pl), .int va, .long (31 * (zDgL S (zDgS S (zDgC S (nI sv) 3533) n) (2 * n - 2)) + (zB1 (kp 0)))]))] := hD
              refine lv_aload_n hx hb dX5_digest_206 rfl (lv_at hl 0 rfl) ?_
              refine lv_aload_n hx hb dX5_digest_207 rfl (lv_at hl 0 rfl) ?_
              refine va_get (D := D) (ci := 5) (v := .ref (g 2)) (C := RX5) (T := TX5) (N := 10) hx hb htg iX5 hown hK hP 3 rfl rfl 3 (by decide) (htg _ tw_360) (fun _ h9 => h9) rfl dX5_digest_208 ?_
              refine lv_iconst (v := 1) hx hb dX5_digest_211 (by decide) ?_
              refine va_zald hx hb hK hP 1 2 rfl rfl (vp_in_nI (n := 1) (by decide) (by decide)) dX5_digest_212 ?_
              refine zz_top (y := kp 1) (congrArg kp (by decide)) ?_
              refine lv_if_eq (tgt := 220) hx hb dX5_digest_213 (by decide) (fun c_213 => ?_) (fun c_213 => ?_)
              · refine lv_lconst (v := 0) hx hb dX5_digest_220 (by decide) ?_
                refine zz_topl (y := zB1 (kp 1)) (if_pos c_213).symm ?_
                refine zw_callv (wr := [((g 1), .inl (y 0, 4023, .inl S)), ((g 2), .inl (y 2, 2, .inl kp)), ((g 3), .inl (y 0, 60, .inl tx))]) (w1 := (fun _ : Unit => [((g 0), .inr (5, [.int 0, .ref (g 1), .int (nI sv), .ref (g 2), .ref (g 3), .int (nI ln), .int (nI at9), .int (nI pl), .int va, .long (31 * (31 * (zDgL S (zDgS S (zDgC S (nI sv) 3533) n) (2 * n - 2)) + (zB1 (kp 0))) + (zB1 (kp 1)))]))])) hP hD hS hA [3] [0, 1, 2] rfl rfl (by decide +kernel) (by decide +kernel) (va_runV (As := [.long (zB1 (kp 1))]) (rest := []) ⟨hx, hb, hml, hown, hts⟩ (mX5_mix l D y _ g 0 sv ln at9 pl va (31 * (zDgL S (zDgS S (zDgC S (nI sv) 3533) n) (2 * n - 2)) + (zB1 (kp 0))) (zB1 (kp 1))) (cwV 1 hts (zgV tw_575 tw_576 tw_577 tw_369 tw_560) rfl rfl rfl (by decide +kernel) ⟨Nat.le_of_ble_eq_true rfl, Nat.le_of_ble_eq_true rfl⟩) (zRW_preV hKN hP hD (ci := 5) (q0 := 3) rfl rfl [3] rfl (by decide)) rfl rfl hl.1 rfl (lv_room (Nat.le_of_ble_eq_true rfl)) dX5_digest_221 ⟨Nat.zero_le _, Nat.zero_le _⟩) (fun u_2 H locs hw_221 hP hD hS => ?_)
                have hP : va_P D vwCl [((g 1), .inl (y 0, 4023, .inl S)), ((g 2), .inl (y 2, 2, .inl kp)), ((g 3), .inl (y 0, 60, .inl tx)), ((g 0), .inr (5, [.int 0, .ref (g 1), .int (nI sv), .ref (g 2), .ref (g 3), .int (nI ln), .int (nI at9), .int (nI pl), .int va, .long (31 * (31 * (zDgL S (zDgS S (zDgC S (nI sv) 3533) n) (2 * n - 2)) + (zB1 (kp 0))) + (zB1 (kp 1)))]))] H := hP
                have hD : va_D A [((g 1), .inl (y 0, 4023, .inl S)), ((g 2), .inl (y 2, 2, .inl kp)), ((g 3), .inl (y 0, 60, .inl tx)), ((g 0), .inr (5, [.int 0, .ref (g 1), .int (nI sv), .ref (g 2), .ref (g 3), .int (nI ln), .int (nI at9), .int (nI pl), .int va, .long (31 * (31 * (zDgL S (zDgS S (zDgC S (nI sv) 3533) n) (2 * n - 2)) + (zB1 (kp 0))) + (zB1 (kp 1)))]))] := hD
                refine lv_aload_n hx hb dX5_digest_224 rfl (lv_at hl 0 rfl) ?_
                refine lv_aload_n hx hb dX5_digest_225 rfl (lv_at hl 0 rfl) ?_
                refine va_get (D := D) (ci := 5) (v := .int (nI ln)) (C := RX5) (T := TX5) (N := 10) hx hb htg iX5 hown hK hP 3 rfl rfl 5 (by decide) (htg _ tw_449) (fun _ h9 => h9) rfl dX5_digest_226 ?_
                refine lv_i2l (v := (nI ln).toInt64) hx hb dX5_digest_229 rfl ?_
                refine zw_callv (wr := [((g 1), .inl (y 0, 4023, .inl S)), ((g 2), .inl (y 2, 2, .inl kp)), ((g 3), .inl (y 0, 60, .inl tx))]) (w1 := (fun _ : Unit => [((g 0), .inr (5, [.int 0, .ref (g 1), .int (nI sv), .ref (g 2), .ref (g 3), .int (nI ln), .int (nI at9), .int (nI pl), .int va, .long (31 * (31 * (31 * (zDgL S (zDgS S (zDgC S (nI sv) 3533) n) (2 * n - 2)) + (zB1 (kp 0))) + (zB1 (kp 1))) + ((nI ln).toInt64))]))])) hP hD hS hA [3] [0, 1, 2] rfl rfl (by decide +kernel) (by decide +kernel) (va_runV (As := [.long ((nI ln).toInt64)]) (rest := []) ⟨hx, hb, hml, hown, hts⟩ (mX5_mix l D y _ g 0 sv ln at9 pl va (31 * (31 * (zDgL S (zDgS S (zDgC S (nI sv) 3533) n) (2 * n - 2)) + (zB1 (kp 0))) + (zB1 (kp 1))) ((nI ln).toInt64)) (cwV 1 hts (zgV tw_575 tw_576 tw_577 tw_369 tw_560) rfl rfl rfl (by decide +kernel) ⟨Nat.le_of_ble_eq_true rfl, Nat.le_of_ble_eq_true rfl⟩) (zRW_preV hKN hP hD (ci := 5) (q0 := 3) rfl rfl [3] rfl (by decide)) rfl rfl hl.1 rfl (lv_room (Nat.le_of_ble_eq_true rfl)) dX5_digest_230 ⟨Nat.zero_le _, Nat.zero_le _⟩) (fun u_3 H locs hw_230 hP hD hS => ?_)
                have hP : va_P D vwCl [((g 1), .inl (y 0, 4023, .inl S)), ((g 2), .inl (y 2, 2, .inl kp)), ((g 3), .inl (y 0, 60, .inl tx)), ((g 0), .inr (5, [.int 0, .ref (g 1), .int (nI sv), .ref (g 2), .ref (g 3), .int (nI ln), .int (nI at9), .int (nI pl), .int va, .long (31 * (31 * (31 * (zDgL S (zDgS S (zDgC S (nI sv) 3533) n) (2 * n - 2)) + (zB1 (kp 0))) + (zB1 (kp 1))) + ((nI ln).toInt64))]))] H := hP
                have hD : va_D A [((g 1), .inl (y 0, 4023, .inl S)), ((g 2), .inl (y 2, 2, .inl kp)), ((g 3), .inl (y 0, 60, .inl tx)), ((g 0), .inr (5, [.int 0, .ref (g 1), .int (nI sv), .ref (g 2), .ref (g 3), .int (nI ln), .int (nI at9), .int (nI pl), .int va, .long (31 * (31 * (31 * (zDgL S (zDgS S (zDgC S (nI sv) 3533) n) (2 * n - 2)) + (zB1 (kp 0))) + (zB1 (kp 1))) + ((nI ln).toInt64))]))] := hD
                refine lv_iconst (v := 0) hx hb dX5_digest_233 (by decide) ?_
                refine lv_istore_n (lv' := [(1, .int 0), (0, .ref (g 0))]) hx hb dX5_digest_234 rfl hl (by decide) rfl (fun ls hl => ?_)
                refine zloop (fun i : Nat => 60 - i) (fun i H locs ls => i ≤ ln ∧ va_P D vwCl [((g 1), .inl (y 0, 4023, .inl S)), ((g 2), .inl (y 2, 2, .inl kp)), ((g 3), .inl (y 0, 60, .inl tx)), ((g 0), .inr (5, [.int 0, .ref (g 1), .int (nI sv), .ref (g 2), .ref (g 3), .int (nI ln), .int (nI at9), .int (nI pl), .int va, .long (zH (zDt tx) (31 * (31 * (31 * (zDgL S (zDgS S (zDgC S (nI sv) 3533) n) (2 * n - 2)) + zB1 (kp 0)) + zB1 (kp 1)) + (nI ln).toInt64) i)]))] H ∧ va_D A [((g 1), .inl (y 0, 4023, .inl S)), ((g 2), .inl (y 2, 2, .inl kp)), ((g 3), .inl (y 0, 60, .inl tx)), ((g 0), .inr (5, [.int 0, .ref (g 1), .int (nI sv), .ref (g 2), .ref (g 3), .int (nI ln), .int (nI at9), .int (nI pl), .int va, .long (zH (zDt tx) (31 * (31 * (31 * (zDgL S (zDgS S (zDgC S (nI sv) 3533) n) (2 * n - 2)) + zB1 (kp 0)) + zB1 (kp 1)) + (nI ln).toInt64) i)]))] ∧ va_S A s.heap H locs ∧ lv_has ls 2 [(0, .ref (g 0)), (1, .int (nI i))]) 235 (fun _ => 0) (fun _ => 0) ?_ (0) ⟨by omega, hP, hD, hS, lv_sub hl [1, 0] rfl⟩
                clear hl hS hP hD
                rintro i H locs ls ⟨hi, hP, hD, hS, hl⟩ ih235
                refine lv_iload_n hx hb dX5_digest_235 rfl (lv_at hl 1 rfl) ?_
                refine lv_aload_n hx hb dX5_digest_236 rfl (lv_at hl 0 rfl) ?_
                refine va_get (D := D) (ci := 5) (v := .int (nI ln)) (C := RX5) (T := TX5) (N := 10) hx hb htg iX5 hown hK hP 3 rfl rfl 5 (by decide) (htg _ tw_449) (fun _ h9 => h9) rfl dX5_digest_237 ?_
                refine lv_icmp_ge (tgt := 260) hx hb dX5_digest_240 (by decide) (fun c_240 => ?_) (fun c_240 => ?_)
                · replace c_240 : ln ≤ i := (nI_leI (a := ln) (b := i) (by omega) (by omega)).mp c_240
                  have e8 : i = ln := by omega
                  rw [e8] at hP hD
                  have hP : va_P D vwCl [((g 1), .inl (y 0, 4023, .inl S)), ((g 2), .inl (y 2, 2, .inl kp)), ((g 3), .inl (y 0, 60, .inl tx)), ((g 0), .inr (5, [.int 0, .ref (g 1), .int (nI sv), .ref (g 2), .ref (g 3), .int (nI ln), .int (nI at9), .int (nI pl), .int va, .long (zDg S sv n kp ln tx)]))] H := hP
                  have hD : va_D A [((g 1), .inl (y 0, 4023, .inl S)), ((g 2), .inl (y 2, 2, .inl kp)), ((g 3), .inl (y 0, 60, .inl tx)), ((g 0), .inr (5, [.int 0, .ref (g 1), .int (nI sv), .ref (g 2), .ref (g 3), .int (nI ln), .int (nI at9), .int (nI pl), .int va, .long (zDg S sv n kp ln tx)]))] := hD
                  refine lv_aload_n hx hb dX5_digest_260 rfl (lv_at hl 0 rfl) ?_
                  refine va_get (D := D) (ci := 5) (v := .long (zDg S sv n kp ln tx)) (C := RX5) (T := TX5) (N := 10) hx hb htg iX5 hown hK hP 3 rfl rfl 9 (by decide) (htg _ tw_562) (fun _ h9 => h9) rfl dX5_digest_261 ?_
                  have hP := hP.sub (ws' := [((g 0), .inr (5, [.int 0, .ref (g 1), .int (nI sv), .ref (g 2), .ref (g 3), .int (nI ln), .int (nI at9), .int (nI pl), .int va, .long (zDg S sv n kp ln tx)])), ((g 1), .inl (y 0, 4023, .inl S)), ((g 2), .inl (y 2, 2, .inl kp)), ((g 3), .inl (y 0, 60, .inl tx))]) [3, 0, 1, 2] rfl
                  have hD := hD.sub (ws' := [((g 0), .inr (5, [.int 0, .ref (g 1), .int (nI sv), .ref (g 2), .ref (g 3), .int (nI ln), .int (nI at9), .int (nI pl), .int va, .long (zDg S sv n kp ln tx)])), ((g 1), .inl (y 0, 4023, .inl S)), ((g 2), .inl (y 2, 2, .inl kp)), ((g 3), .inl (y 0, 60, .inl tx))]) [3, 0, 1, 2] (by decide) rfl
                  refine W.widen (k := 0) (n := 0) (by first | exact Nat.le_of_ble_eq_true rfl | omega) (by first | exact Nat.le_of_ble_eq_true rfl | omega) ?_
                  exact W.lret (v := (zDg S sv n kp ln tx)) hx hb hr (fun t ht hW => ⟨⟨zDg S sv n kp ln tx, (), rfl, rfl, ⟨by rw [ht]; exact hP, hD⟩⟩, hS.F ht⟩) hS.2.2 dX5_digest_264
                · replace c_240 : ¬ ln ≤ i := fun h => c_240 ((nI_leI (a := ln) (b := i) (by omega) (by omega)).mpr h)
                  refine lv_aload_n hx hb dX5_digest_243 rfl (lv_at hl 0 rfl) ?_
                  refine lv_aload_n hx hb dX5_digest_244 rfl (lv_at hl 0 rfl) ?_
                  refine va_get (D := D) (ci := 5) (v := .ref (g 3)) (C := RX5) (T := TX5) (N := 10) hx hb htg iX5 hown hK hP 3 rfl rfl 4 (by decide) (htg _ tw_361) (fun _ h9 => h9) rfl dX5_digest_245 ?_
                  refine lv_iload_n hx hb dX5_digest_248 rfl (lv_at hl 1 rfl) ?_
                  refine va_iald hx hb hK hP 2 0 rfl rfl (vp_in_nI (by omega) (by decide)) dX5_digest_249 ?_
                  refine zz_top (y := tx i) (congrArg tx (nI_clamp (by omega))) ?_
                  refine zz_top (y := tx i) (rfl) ?_
                  refine lv_i2l (v := (tx i).toInt64) hx hb dX5_digest_250 rfl ?_
                  refine zw_callv (wr := [((g 1), .inl (y 0, 4023, .inl S)), ((g 2), .inl (y 2, 2, .inl kp)), ((g 3), .inl (y 0, 60, .inl tx))]) (w1 := (fun _ : Unit => [((g 0), .inr (5, [.int 0, .ref (g 1), .int (nI sv), .ref (g 2), .ref (g 3), .int (nI ln), .int (nI at9), .int (nI pl), .int va, .long (31 * (zH (zDt tx) (31 * (31 * (31 * (zDgL S (zDgS S (zDgC S (nI sv) 3533) n) (2 * n - 2)) + zB1 (kp 0)) + zB1 (kp 1)) + (nI ln).toInt64) i) + ((tx i).toInt64))]))])) hP hD hS hA [3] [0, 1, 2] rfl rfl (by decide +kernel) (by decide +kernel) (va_runV (As := [.long ((tx i).toInt64)]) (rest := []) ⟨hx, hb, hml, hown, hts⟩ (mX5_mix l D y _ g 0 sv ln at9 pl va (zH (zDt tx) (31 * (31 * (31 * (zDgL S (zDgS S (zDgC S (nI sv) 3533) n) (2 * n - 2)) + zB1 (kp 0)) + zB1 (kp 1)) + (nI ln).toInt64) i) ((tx i).toInt64)) (cwV 1 hts (zgV tw_575 tw_576 tw_577 tw_369 tw_560) rfl rfl rfl (by decide +kernel) ⟨Nat.le_of_ble_eq_true rfl, Nat.le_of_ble_eq_true rfl⟩) (zRW_preV hKN hP hD (ci := 5) (q0 := 3) rfl rfl [3] rfl (by decide)) rfl rfl hl.1 rfl (lv_room (Nat.le_of_ble_eq_true rfl)) dX5_digest_251 ⟨Nat.zero_le _, Nat.zero_le _⟩) (fun u_4 H locs hw_251 hP hD hS => ?_)
                  have hP : va_P D vwCl [((g 1), .inl (y 0, 4023, .inl S)), ((g 2), .inl (y 2, 2, .inl kp)), ((g 3), .inl (y 0, 60, .inl tx)), ((g 0), .inr (5, [.int 0, .ref (g 1), .int (nI sv), .ref (g 2), .ref (g 3), .int (nI ln), .int (nI at9), .int (nI pl), .int va, .long (31 * (zH (zDt tx) (31 * (31 * (31 * (zDgL S (zDgS S (zDgC S (nI sv) 3533) n) (2 * n - 2)) + zB1 (kp 0)) + zB1 (kp 1)) + (nI ln).toInt64) i) + ((tx i).toInt64))]))] H := hP
                  have hD : va_D A [((g 1), .inl (y 0, 4023, .inl S)), ((g 2), .inl (y 2, 2, .inl kp)), ((g 3), .inl (y 0, 60, .inl tx)), ((g 0), .inr (5, [.int 0, .ref (g 1), .int (nI sv), .ref (g 2), .ref (g 3), .int (nI ln), .int (nI at9), .int (nI pl), .int va, .long (31 * (zH (zDt tx) (31 * (31 * (31 * (zDgL S (zDgS S (zDgC S (nI sv) 3533) n) (2 * n - 2)) + zB1 (kp 0)) + zB1 (kp 1)) + (nI ln).toInt64) i) + ((tx i).toInt64))]))] := hD
                  have hP : va_P D vwCl [((g 1), .inl (y 0, 4023, .inl S)), ((g 2), .inl (y 2, 2, .inl kp)), ((g 3), .inl (y 0, 60, .inl tx)), ((g 0), .inr (5, [.int 0, .ref (g 1), .int (nI sv), .ref (g 2), .ref (g 3), .int (nI ln), .int (nI at9), .int (nI pl), .int va, .long (zH (zDt tx) (31 * (31 * (31 * (zDgL S (zDgS S (zDgC S (nI sv) 3533) n) (2 * n - 2)) + zB1 (kp 0)) + zB1 (kp 1)) + (nI ln).toInt64) (i + 1))]))] H := hP
                  have hD : va_D A [((g 1), .inl (y 0, 4023, .inl S)), ((g 2), .inl (y 2, 2, .inl kp)), ((g 3), .inl (y 0, 60, .inl tx)), ((g 0), .inr (5, [.int 0, .ref (g 1), .int (nI sv), .ref (g 2), .ref (g 3), .int (nI ln), .int (nI at9), .int (nI pl), .int va, .long (zH (zDt tx) (31 * (31 * (31 * (zDgL S (zDgS S (zDgC S (nI sv) 3533) n) (2 * n - 2)) + zB1 (kp 0)) + zB1 (kp 1)) + (nI ln).toInt64) (i + 1))]))] := hD
                  refine lv_iinc (v := nI (i + 1)) (lv' := [(1, .int (nI (i + 1))), (0, .ref (g 0))]) hx hb dX5_digest_254 hl (k := 1) rfl (nI_1 i) (by decide) rfl (fun ls hl => ?_)
                  refine lv_goto (tgt := 235) hx hb dX5_digest_257 (by decide) ?_
                  exact ih235 (i + 1) _ _ _ (by omega) ⟨by omega, hP, hD, hS, lv_sub hl [1, 0] rfl⟩
              · refine lv_lconst (v := 1) hx hb dX5_digest_216 (by decide) ?_
                refine lv_goto (tgt := 221) hx hb dX5_digest_217 (by decide) ?_
                refine zz_topl (y := zB1 (kp 1)) (if_neg c_213).symm ?_
                refine zw_callv (wr := [((g 1), .inl (y 0, 4023, .inl S)), ((g 2), .inl (y 2, 2, .inl kp)), ((g 3), .inl (y 0, 60, .inl tx))]) (w1 := (fun _ : Unit => [((g 0), .inr (5, [.int 0, .ref (g 1), .int (nI sv), .ref (g 2), .ref (g 3), .int (nI ln), .int (nI at9), .int (nI pl), .int va, .long (31 * (31 * (zDgL S (zDgS S (zDgC S (nI sv) 3533) n) (2 * n - 2)) + (zB1 (kp 0))) + (zB1 (kp 1)))]))])) hP hD hS hA [3] [0, 1, 2] rfl rfl (by decide +kernel) (by decide +kernel) (va_runV (As := [.long (zB1 (kp 1))]) (rest := []) ⟨hx, hb, hml, hown, hts⟩ (mX5_mix l D y _ g 0 sv ln at9 pl va (31 * (zDgL S (zDgS S (zDgC S (nI sv) 3533) n) (2 * n - 2)) + (zB1 (kp 0))) (zB1 (kp 1))) (cwV 1 hts (zgV tw_575 tw_576 tw_577 tw_369 tw_560) rfl rfl rfl (by decide +kernel) ⟨Nat.le_of_ble_eq_true rfl, Nat.le_of_ble_eq_true rfl⟩) (zRW_preV hKN hP hD (ci := 5) (q0 := 3) rfl rfl [3] rfl (by decide)) rfl rfl hl.1 rfl (lv_room (Nat.le_of_ble_eq_true rfl)) dX5_digest_221 ⟨Nat.zero_le _, Nat.zero_le _⟩) (fun u_5 H locs hw_221 hP hD hS => ?_)
                have hP : va_P D vwCl [((g 1), .inl (y 0, 4023, .inl S)), ((g 2), .inl (y 2, 2, .inl kp)), ((g 3), .inl (y 0, 60, .inl tx)), ((g 0), .inr (5, [.int 0, .ref (g 1), .int (nI sv), .ref (g 2), .ref (g 3), .int (nI ln), .int (nI at9), .int (nI pl), .int va, .long (31 * (31 * (zDgL S (zDgS S (zDgC S (nI sv) 3533) n) (2 * n - 2)) + (zB1 (kp 0))) + (zB1 (kp 1)))]))] H := hP
                have hD : va_D A [((g 1), .inl (y 0, 4023, .inl S)), ((g 2), .inl (y 2, 2, .inl kp)), ((g 3), .inl (y 0, 60, .inl tx)), ((g 0), .inr (5, [.int 0, .ref (g 1), .int (nI sv), .ref (g 2), .ref (g 3), .int (nI ln), .int (nI at9), .int (nI pl), .int va, .long (31 * (31 * (zDgL S (zDgS S (zDgC S (nI sv) 3533) n) (2 * n - 2)) + (zB1 (kp 0))) + (zB1 (kp 1)))]))] := hD
                refine lv_aload_n hx hb dX5_digest_224 rfl (lv_at hl 0 rfl) ?_
                refine lv_aload_n hx hb dX5_digest_225 rfl (lv_at hl 0 rfl) ?_
                refine va_get (D := D) (ci := 5) (v := .int (nI ln)) (C := RX5) (T := TX5) (N := 10) hx hb htg iX5 hown hK hP 3 rfl rfl 5 (by decide) (htg _ tw_449) (fun _ h9 => h9) rfl dX5_digest_226 ?_
                refine lv_i2l (v := (nI ln).toInt64) hx hb dX5_digest_229 rfl ?_
                refine zw_callv (wr := [((g 1), .inl (y 0, 4023, .inl S)), ((g 2), .inl (y 2, 2, .inl kp)), ((g 3), .inl (y 0, 60, .inl tx))]) (w1 := (fun _ : Unit => [((g 0), .inr (5, [.int 0, .ref (g 1), .int (nI sv), .ref (g 2), .ref (g 3), .int (nI ln), .int (nI at9), .int (nI pl), .int va, .long (31 * (31 * (31 * (zDgL S (zDgS S (zDgC S (nI sv) 3533) n) (2 * n - 2)) + (zB1 (kp 0))) + (zB1 (kp 1))) + ((nI ln).toInt64))]))])) hP hD hS hA [3] [0, 1, 2] rfl rfl (by decide +kernel) (by decide +kernel) (va_runV (As := [.long ((nI ln).toInt64)]) (rest := []) ⟨hx, hb, hml, hown, hts⟩ (mX5_mix l D y _ g 0 sv ln at9 pl va (31 * (31 * (zDgL S (zDgS S (zDgC S (nI sv) 3533) n) (2 * n - 2)) + (zB1 (kp 0))) + (zB1 (kp 1))) ((nI ln).toInt64)) (cwV 1 hts (zgV tw_575 tw_576 tw_577 tw_369 tw_560) rfl rfl rfl (by decide +kernel) ⟨Nat.le_of_ble_eq_true rfl, Nat.le_of_ble_eq_true rfl⟩) (zRW_preV hKN hP hD (ci := 5) (q0 := 3) rfl rfl [3] rfl (by decide)) rfl rfl hl.1 rfl (lv_room (Nat.le_of_ble_eq_true rfl)) dX5_digest_230 ⟨Nat.zero_le _, Nat.zero_le _⟩) (fun u_6 H locs hw_230 hP hD hS => ?_)
                have hP : va_P D vwCl [((g 1), .inl (y 0, 4023, .inl S)), ((g 2), .inl (y 2, 2, .inl kp)), ((g 3), .inl (y 0, 60, .inl tx)), ((g 0), .inr (5, [.int 0, .ref (g 1), .int (nI sv), .ref (g 2), .ref (g 3), .int (nI ln), .int (nI at9), .int (nI pl), .int va, .long (31 * (31 * (31 * (zDgL S (zDgS S (zDgC S (nI sv) 3533) n) (2 * n - 2)) + (zB1 (kp 0))) + (zB1 (kp 1))) + ((nI ln).toInt64))]))] H := hP
                have hD : va_D A [((g 1), .inl (y 0, 4023, .inl S)), ((g 2), .inl (y 2, 2, .inl kp)), ((g 3), .inl (y 0, 60, .inl tx)), ((g 0), .inr (5, [.int 0, .ref (g 1), .int (nI sv), .ref (g 2), .ref (g 3), .int (nI ln), .int (nI at9), .int (nI pl), .int va, .long (31 * (31 * (31 * (zDgL S (zDgS S (zDgC S (nI sv) 3533) n) (2 * n - 2)) + (zB1 (kp 0))) + (zB1 (kp 1))) + ((nI ln).toInt64))]))] := hD
                refine lv_iconst (v := 0) hx hb dX5_digest_233 (by decide) ?_
                refine lv_istore_n (lv' := [(1, .int 0), (0, .ref (g 0))]) hx hb dX5_digest_234 rfl hl (by decide) rfl (fun ls hl => ?_)
                refine zloop (fun i : Nat => 60 - i) (fun i H locs ls => i ≤ ln ∧ va_P D vwCl [((g 1), .inl (y 0, 4023, .inl S)), ((g 2), .inl (y 2, 2, .inl kp)), ((g 3), .inl (y 0, 60, .inl tx)), ((g 0), .inr (5, [.int 0, .ref (g 1), .int (nI sv), .ref (g 2), .ref (g 3), .int (nI ln), .int (nI at9), .int (nI pl), .int va, .long (zH (zDt tx) (31 * (31 * (31 * (zDgL S (zDgS S (zDgC S (nI sv) 3533) n) (2 * n - 2)) + zB1 (kp 0)) + zB1 (kp 1)) + (nI ln).toInt64) i)]))] H ∧ va_D A [((g 1), .inl (y 0, 4023, .inl S)), ((g 2), .inl (y 2, 2, .inl kp)), ((g 3), .inl (y 0, 60, .inl tx)), ((g 0), .inr (5, [.int 0, .ref (g 1), .int (nI sv), .ref (g 2), .ref (g 3), .int (nI ln), .int (nI at9), .int (nI pl), .int va, .long (zH (zDt tx) (31 * (31 * (31 * (zDgL S (zDgS S (zDgC S (nI sv) 3533) n) (2 * n - 2)) + zB1 (kp 0)) + zB1 (kp 1)) + (nI ln).toInt64) i)]))] ∧ va_S A s.heap H locs ∧ lv_has ls 2 [(0, .ref (g 0)), (1, .int (nI i))]) 235 (fun _ => 0) (fun _ => 0) ?_ (0) ⟨by omega, hP, hD, hS, lv_sub hl [1, 0] rfl⟩
                clear hl hS hP hD
                rintro i H locs ls ⟨hi, hP, hD, hS, hl⟩ ih235
                refine lv_iload_n hx hb dX5_digest_235 rfl (lv_at hl 1 rfl) ?_
                refine lv_aload_n hx hb dX5_digest_236 rfl (lv_at hl 0 rfl) ?_
                refine va_get (D := D) (ci := 5) (v := .int (nI ln)) (C := RX5) (T := TX5) (N := 10) hx hb htg iX5 hown hK hP 3 rfl rfl 5 (by decide) (htg _ tw_449) (fun _ h9 => h9) rfl dX5_digest_237 ?_
                refine lv_icmp_ge (tgt := 260) hx hb dX5_digest_240 (by decide) (fun c_240 => ?_) (fun c_240 => ?_)
                · replace c_240 : ln ≤ i := (nI_leI (a := ln) (b := i) (by omega) (by omega)).mp c_240
                  have e8 : i = ln := by omega
                  rw [e8] at hP hD
                  have hP : va_P D vwCl [((g 1), .inl (y 0, 4023, .inl S)), ((g 2), .inl (y 2, 2, .inl kp)), ((g 3), .inl (y 0, 60, .inl tx)), ((g 0), .inr (5, [.int 0, .ref (g 1), .int (nI sv), .ref (g 2), .ref (g 3), .int (nI ln), .int (nI at9), .int (nI pl), .int va, .long (zDg S sv n kp ln tx)]))] H := hP
                  have hD : va_D A [((g 1), .inl (y 0, 4023, .inl S)), ((g 2), .inl (y 2, 2, .inl kp)), ((g 3), .inl (y 0, 60, .inl tx)), ((g 0), .inr (5, [.int 0, .ref (g 1), .int (nI sv), .ref (g 2), .ref (g 3), .int (nI ln), .int (nI at9), .int (nI pl), .int va, .long (zDg S sv n kp ln tx)]))] := hD
                  refine lv_aload_n hx hb dX5_digest_260 rfl (lv_at hl 0 rfl) ?_
                  refine va_get (D := D) (ci := 5) (v := .long (zDg S sv n kp ln tx)) (C := RX5) (T := TX5) (N := 10) hx hb htg iX5 hown hK hP 3 rfl rfl 9 (by decide) (htg _ tw_562) (fun _ h9 => h9) rfl dX5_digest_261 ?_
                  have hP := hP.sub (ws' := [((g 0), .inr (5, [.int 0, .ref (g 1), .int (nI sv), .ref (g 2), .ref (g 3), .int (nI ln), .int (nI at9), .int (nI pl), .int va, .long (zDg S sv n kp ln tx)])), ((g 1), .inl (y 0, 4023, .inl S)), ((g 2), .inl (y 2, 2, .inl kp)), ((g 3), .inl (y 0, 60, .inl tx))]) [3, 0, 1, 2] rfl
                  have hD := hD.sub (ws' := [((g 0), .inr (5, [.int 0, .ref (g 1), .int (nI sv), .ref (g 2), .ref (g 3), .int (nI ln), .int (nI at9), .int (nI pl), .int va, .long (zDg S sv n kp ln tx)])), ((g 1), .inl (y 0, 4023, .inl S)), ((g 2), .inl (y 2, 2, .inl kp)), ((g 3), .inl (y 0, 60, .inl tx))]) [3, 0, 1, 2] (by decide) rfl
                  refine W.widen (k := 0) (n := 0) (by first | exact Nat.le_of_ble_eq_true rfl | omega) (by first | exact Nat.le_of_ble_eq_true rfl | omega) ?_
                  exact W.lret (v := (zDg S sv n kp ln tx)) hx hb hr (fun t ht hW => ⟨⟨zDg S sv n kp ln tx, (), rfl, rfl, ⟨by rw [ht]; exact hP, hD⟩⟩, hS.F ht⟩) hS.2.2 dX5_digest_264
                · replace c_240 : ¬ ln ≤ i := fun h => c_240 ((nI_leI (a := ln) (b := i) (by omega) (by omega)).mpr h)
                  refine lv_aload_n hx hb dX5_digest_243 rfl (lv_at hl 0 rfl) ?_
                  refine lv_aload_n hx hb dX5_digest_244 rfl (lv_at hl 0 rfl) ?_
                  refine va_get (D := D) (ci := 5) (v := .ref (g 3)) (C := RX5) (T := TX5) (N := 10) hx hb htg iX5 hown hK hP 3 rfl rfl 4 (by decide) (htg _ tw_361) (fun _ h9 => h9) rfl dX5_digest_245 ?_
                  refine lv_iload_n hx hb dX5_digest_248 rfl (lv_at hl 1 rfl) ?_
                  refine va_iald hx hb hK hP 2 0 rfl rfl (vp_in_nI (by omega) (by decide)) dX5_digest_249 ?_
                  refine zz_top (y := tx i) (congrArg tx (nI_clamp (by omega))) ?_
                  refine zz_top (y := tx i) (rfl) ?_
                  refine lv_i2l (v := (tx i).toInt64) hx hb dX5_digest_250 rfl ?_
                  refine zw_callv (wr := [((g 1), .inl (y 0, 4023, .inl S)), ((g 2), .inl (y 2, 2, .inl kp)), ((g 3), .inl (y 0, 60, .inl tx))]) (w1 := (fun _ : Unit => [((g 0), .inr (5, [.int 0, .ref (g 1), .int (nI sv), .ref (g 2), .ref (g 3), .int (nI ln), .int (nI at9), .int (nI pl), .int va, .long (31 * (zH (zDt tx) (31 * (31 * (31 * (zDgL S (zDgS S (zDgC S (nI sv) 3533) n) (2 * n - 2)) + zB1 (kp 0)) + zB1 (kp 1)) + (nI ln).toInt64) i) + ((tx i).toInt64))]))])) hP hD hS hA [3] [0, 1, 2] rfl rfl (by decide +kernel) (by decide +kernel) (va_runV (As := [.long ((tx i).toInt64)]) (rest := []) ⟨hx, hb, hml, hown, hts⟩ (mX5_mix l D y _ g 0 sv ln at9 pl va (zH (zDt tx) (31 * (31 * (31 * (zDgL S (zDgS S (zDgC S (nI sv) 3533) n) (2 * n - 2)) + zB1 (kp 0)) + zB1 (kp 1)) + (nI ln).toInt64) i) ((tx i).toInt64)) (cwV 1 hts (zgV tw_575 tw_576 tw_577 tw_369 tw_560) rfl rfl rfl (by decide +kernel) ⟨Nat.le_of_ble_eq_true rfl, Nat.le_of_ble_eq_true rfl⟩) (zRW_preV hKN hP hD (ci := 5) (q0 := 3) rfl rfl [3] rfl (by decide)) rfl rfl hl.1 rfl (lv_room (Nat.le_of_ble_eq_true rfl)) dX5_digest_251 ⟨Nat.zero_le _, Nat.zero_le _⟩) (fun u_7 H locs hw_251 hP hD hS => ?_)
                  have hP : va_P D vwCl [((g 1), .inl (y 0, 4023, .inl S)), ((g 2), .inl (y 2, 2, .inl kp)), ((g 3), .inl (y 0, 60, .inl tx)), ((g 0), .inr (5, [.int 0, .ref (g 1), .int (nI sv), .ref (g 2), .ref (g 3), .int (nI ln), .int (nI at9), .int (nI pl), .int va, .long (31 * (zH (zDt tx) (31 * (31 * (31 * (zDgL S (zDgS S (zDgC S (nI sv) 3533) n) (2 * n - 2)) + zB1 (kp 0)) + zB1 (kp 1)) + (nI ln).toInt64) i) + ((tx i).toInt64))]))] H := hP
                  have hD : va_D A [((g 1), .inl (y 0, 4023, .inl S)), ((g 2), .inl (y 2, 2, .inl kp)), ((g 3), .inl (y 0, 60, .inl tx)), ((g 0), .inr (5, [.int 0, .ref (g 1), .int (nI sv), .ref (g 2), .ref (g 3), .int (nI ln), .int (nI at9), .int (nI pl), .int va, .long (31 * (zH (zDt tx) (31 * (31 * (31 * (zDgL S (zDgS S (zDgC S (nI sv) 3533) n) (2 * n - 2)) + zB1 (kp 0)) + zB1 (kp 1)) + (nI ln).toInt64) i) + ((tx i).toInt64))]))] := hD
                  have hP : va_P D vwCl [((g 1), .inl (y 0, 4023, .inl S)), ((g 2), .inl (y 2, 2, .inl kp)), ((g 3), .inl (y 0, 60, .inl tx)), ((g 0), .inr (5, [.int 0, .ref (g 1), .int (nI sv), .ref (g 2), .ref (g 3), .int (nI ln), .int (nI at9), .int (nI pl), .int va, .long (zH (zDt tx) (31 * (31 * (31 * (zDgL S (zDgS S (zDgC S (nI sv) 3533) n) (2 * n - 2)) + zB1 (kp 0)) + zB1 (kp 1)) + (nI ln).toInt64) (i + 1))]))] H := hP
                  have hD : va_D A [((g 1), .inl (y 0, 4023, .inl S)), ((g 2), .inl (y 2, 2, .inl kp)), ((g 3), .inl (y 0, 60, .inl tx)), ((g 0), .inr (5, [.int 0, .ref (g 1), .int (nI sv), .ref (g 2), .ref (g 3), .int (nI ln), .int (nI at9), .int (nI pl), .int va, .long (zH (zDt tx) (31 * (31 * (31 * (zDgL S (zDgS S (zDgC S (nI sv) 3533) n) (2 * n - 2)) + zB1 (kp 0)) + zB1 (kp 1)) + (nI ln).toInt64) (i + 1))]))] := hD
                  refine lv_iinc (v := nI (i + 1)) (lv' := [(1, .int (nI (i + 1))), (0, .ref (g 0))]) hx hb dX5_digest_254 hl (k := 1) rfl (nI_1 i) (by decide) rfl (fun ls hl => ?_)
                  refine lv_goto (tgt := 235) hx hb dX5_digest_257 (by decide) ?_
                  exact ih235 (i + 1) _ _ _ (by omega) ⟨by omega, hP, hD, hS, lv_sub hl [1, 0] rfl⟩
            · refine lv_lconst (v := 1) hx hb dX5_digest_198 (by decide) ?_
              refine lv_goto (tgt := 203) hx hb dX5_digest_199 (by decide) ?_
              refine zz_topl (y := zB1 (kp 0)) (if_neg c_195).symm ?_
              refine zw_callv (wr := [((g 1), .inl (y 0, 4023, .inl S)), ((g 2), .inl (y 2, 2, .inl kp)), ((g 3), .inl (y 0, 60, .inl tx))]) (w1 := (fun _ : Unit => [((g 0), .inr (5, [.int 0, .ref (g 1), .int (nI sv), .ref (g 2), .ref (g 3), .int (nI ln), .int (nI at9), .int (nI pl), .int va, .long (31 * (zDgL S (zDgS S (zDgC S (nI sv) 3533) n) (2 * n - 2)) + (zB1 (kp 0)))]))])) hP hD hS hA [0] [1, 2, 3] rfl rfl (by decide +kernel) (by decide +kernel) (va_runV (As := [.long (zB1 (kp 0))]) (rest := []) ⟨hx, hb, hml, hown, hts⟩ (mX5_mix l D y _ g 0 sv ln at9 pl va (zDgL S (zDgS S (zDgC S (nI sv) 3533) n) (2 * n - 2)) (zB1 (kp 0))) (cwV 1 hts (zgV tw_575 tw_576 tw_577 tw_369 tw_560) rfl rfl rfl (by decide +kernel) ⟨Nat.le_of_ble_eq_true rfl, Nat.le_of_ble_eq_true rfl⟩) (zRW_preV hKN hP hD (ci := 5) (q0 := 0) rfl rfl [0] rfl (by decide)) rfl rfl hl.1 rfl (lv_room (Nat.le_of_ble_eq_true rfl)) dX5_digest_203 ⟨Nat.zero_le _, Nat.zero_le _⟩) (fun u_8 H locs hw_203 hP hD hS => ?_)
              have hP : va_P D vwCl [((g 1), .inl (y 0, 4023, .inl S)), ((g 2), .inl (y 2, 2, .inl kp)), ((g 3), .inl (y 0, 60, .inl tx)), ((g 0), .inr (5, [.int 0, .ref (g 1), .int (nI sv), .ref (g 2), .ref (g 3), .int (nI ln), .int (nI at9), .int (nI pl), .int va, .long (31 * (zDgL S (zDgS S (zDgC S (nI sv) 3533) n) (2 * n - 2)) + (zB1 (kp 0)))]))] H := hP
              have hD : va_D A [((g 1), .inl (y 0, 4023, .inl S)), ((g 2), .inl (y 2, 2, .inl kp)), ((g 3), .inl (y 0, 60, .inl tx)), ((g 0), .inr (5, [.int 0, .ref (g 1), .int (nI sv), .ref (g 2), .ref (g 3), .int (nI ln), .int (nI at9), .int (nI pl), .int va, .long (31 * (zDgL S (zDgS S (zDgC S (nI sv) 3533) n) (2 * n - 2)) + (zB1 (kp 0)))]))] := hD
              refine lv_aload_n hx hb dX5_digest_206 rfl (lv_at hl 0 rfl) ?_
              refine lv_aload_n hx hb dX5_digest_207 rfl (lv_at hl 0 rfl) ?_
              refine va_get (D := D) (ci := 5) (v := .ref (g 2)) (C := RX5) (T := TX5) (N := 10) hx hb htg iX5 hown hK hP 3 rfl rfl 3 (by decide) (htg _ tw_360) (fun _ h9 => h9) rfl dX5_digest_208 ?_
              refine lv_iconst (v := 1) hx hb dX5_digest_211 (by decide) ?_
              refine va_zald hx hb hK hP 1 2 rfl rfl (vp_in_nI (n := 1) (by decide) (by decide)) dX5_digest_212 ?_
              refine zz_top (y := kp 1) (congrArg kp (by decide)) ?_
              refine lv_if_eq (tgt := 220) hx hb dX5_digest_213 (by decide) (fun c_213 => ?_) (fun c_213 => ?_)
              · refine lv_lconst (v := 0) hx hb dX5_digest_220 (by decide) ?_
                refine zz_topl (y := zB1 (kp 1)) (if_pos c_213).symm ?_
                refine zw_callv (wr := [((g 1), .inl (y 0, 4023, .inl S)), ((g 2), .inl (y 2, 2, .inl kp)), ((g 3), .inl (y 0, 60, .inl tx))]) (w1 := (fun _ : Unit => [((g 0), .inr (5, [.int 0, .ref (g 1), .int (nI sv), .ref (g 2), .ref (g 3), .int (nI ln), .int (nI at9), .int (nI pl), .int va, .long (31 * (31 * (zDgL S (zDgS S (zDgC S (nI sv) 3533) n) (2 * n - 2)) + (zB1 (kp 0))) + (zB1 (kp 1)))]))])) hP hD hS hA [3] [0, 1, 2] rfl rfl (by decide +kernel) (by decide +kernel) (va_runV (As := [.long (zB1 (kp 1))]) (rest := []) ⟨hx, hb, hml, hown, hts⟩ (mX5_mix l D y _ g 0 sv ln at9 pl va (31 * (zDgL S (zDgS S (zDgC S (nI sv) 3533) n) (2 * n - 2)) + (zB1 (kp 0))) (zB1 (kp 1))) (cwV 1 hts (zgV tw_575 tw_576 tw_577 tw_369 tw_560) rfl rfl rfl (by decide +kernel) ⟨Nat.le_of_ble_eq_true rfl, Nat.le_of_ble_eq_true rfl⟩) (zRW_preV hKN hP hD (ci := 5) (q0 := 3) rfl rfl [3] rfl (by decide)) rfl rfl hl.1 rfl (lv_room (Nat.le_of_ble_eq_true rfl)) dX5_digest_221 ⟨Nat.zero_le _, Nat.zero_le _⟩) (fun u_9 H locs hw_221 hP hD hS => ?_)
                have hP : va_P D vwCl [((g 1), .inl (y 0, 4023, .inl S)), ((g 2), .inl (y 2, 2, .inl kp)), ((g 3), .inl (y 0, 60, .inl tx)), ((g 0), .inr (5, [.int 0, .ref (g 1), .int (nI sv), .ref (g 2), .ref (g 3), .int (nI ln), .int (nI at9), .int (nI pl), .int va, .long (31 * (31 * (zDgL S (zDgS S (zDgC S (nI sv) 3533) n) (2 * n - 2)) + (zB1 (kp 0))) + (zB1 (kp 1)))]))] H := hP
                have hD : va_D A [((g 1), .inl (y 0, 4023, .inl S)), ((g 2), .inl (y 2, 2, .inl kp)), ((g 3), .inl (y 0, 60, .inl tx)), ((g 0), .inr (5, [.int 0, .ref (g 1), .int (nI sv), .ref (g 2), .ref (g 3), .int (nI ln), .int (nI at9), .int (nI pl), .int va, .long (31 * (31 * (zDgL S (zDgS S (zDgC S (nI sv) 3533) n) (2 * n - 2)) + (zB1 (kp 0))) + (zB1 (kp 1)))]))] := hD
                refine lv_aload_n hx hb dX5_digest_224 rfl (lv_at hl 0 rfl) ?_
                refine lv_aload_n hx hb dX5_digest_225 rfl (lv_at hl 0 rfl) ?_
                refine va_get (D := D) (ci := 5) (v := .int (nI ln)) (C := RX5) (T := TX5) (N := 10) hx hb htg iX5 hown hK hP 3 rfl rfl 5 (by decide) (htg _ tw_449) (fun _ h9 => h9) rfl dX5_digest_226 ?_
                refine lv_i2l (v := (nI ln).toInt64) hx hb dX5_digest_229 rfl ?_
                refine zw_callv (wr := [((g 1), .inl (y 0, 4023, .inl S)), ((g 2), .inl (y 2, 2, .inl kp)), ((g 3), .inl (y 0, 60, .inl tx))]) (w1 := (fun _ : Unit => [((g 0), .inr (5, [.int 0, .ref (g 1), .int (nI sv), .ref (g 2), .ref (g 3), .int (nI ln), .int (nI at9), .int (nI pl), .int va, .long (31 * (31 * (31 * (zDgL S (zDgS S (zDgC S (nI sv) 3533) n) (2 * n - 2)) + (zB1 (kp 0))) + (zB1 (kp 1))) + ((nI ln).toInt64))]))])) hP hD hS hA [3] [0, 1, 2] rfl rfl (by decide +kernel) (by decide +kernel) (va_runV (As := [.long ((nI ln).toInt64)]) (rest := []) ⟨hx, hb, hml, hown, hts⟩ (mX5_mix l D y _ g 0 sv ln at9 pl va (31 * (31 * (zDgL S (zDgS S (zDgC S (nI sv) 3533) n) (2 * n - 2)) + (zB1 (kp 0))) + (zB1 (kp 1))) ((nI ln).toInt64)) (cwV 1 hts (zgV tw_575 tw_576 tw_577 tw_369 tw_560) rfl rfl rfl (by decide +kernel) ⟨Nat.le_of_ble_eq_true rfl, Nat.le_of_ble_eq_true rfl⟩) (zRW_preV hKN hP hD (ci := 5) (q0 := 3) rfl rfl [3] rfl (by decide)) rfl rfl hl.1 rfl (lv_room (Nat.le_of_ble_eq_true rfl)) dX5_digest_230 ⟨Nat.zero_le _, Nat.zero_le _⟩) (fun u_10 H locs hw_230 hP hD hS => ?_)
                have hP : va_P D vwCl [((g 1), .inl (y 0, 4023, .inl S)), ((g 2), .inl (y 2, 2, .inl kp)), ((g 3), .inl (y 0, 60, .inl tx)), ((g 0), .inr (5, [.int 0, .ref (g 1), .int (nI sv), .ref (g 2), .ref (g 3), .int (nI ln), .int (nI at9), .int (nI pl), .int va, .long (31 * (31 * (31 * (zDgL S (zDgS S (zDgC S (nI sv) 3533) n) (2 * n - 2)) + (zB1 (kp 0))) + (zB1 (kp 1))) + ((nI ln).toInt64))]))] H := hP
                have hD : va_D A [((g 1), .inl (y 0, 4023, .inl S)), ((g 2), .inl (y 2, 2, .inl kp)), ((g 3), .inl (y 0, 60, .inl tx)), ((g 0), .inr (5, [.int 0, .ref (g 1), .int (nI sv), .ref (g 2), .ref (g 3), .int (nI ln), .int (nI at9), .int (nI pl), .int va, .long (31 * (31 * (31 * (zDgL S (zDgS S (zDgC S (nI sv) 3533) n) (2 * n - 2)) + (zB1 (kp 0))) + (zB1 (kp 1))) + ((nI ln).toInt64))]))] := hD
                refine lv_iconst (v := 0) hx hb dX5_digest_233 (by decide) ?_
                refine lv_istore_n (lv' := [(1, .int 0), (0, .ref (g 0))]) hx hb dX5_digest_234 rfl hl (by decide) rfl (fun ls hl => ?_)
                refine zloop (fun i : Nat => 60 - i) (fun i H locs ls => i ≤ ln ∧ va_P D vwCl [((g 1), .inl (y 0, 4023, .inl S)), ((g 2), .inl (y 2, 2, .inl kp)), ((g 3), .inl (y 0, 60, .inl tx)), ((g 0), .inr (5, [.int 0, .ref (g 1), .int (nI sv), .ref (g 2), .ref (g 3), .int (nI ln), .int (nI at9), .int (nI pl), .int va, .long (zH (zDt tx) (31 * (31 * (31 * (zDgL S (zDgS S (zDgC S (nI sv) 3533) n) (2 * n - 2)) + zB1 (kp 0)) + zB1 (kp 1)) + (nI ln).toInt64) i)]))] H ∧ va_D A [((g 1), .inl (y 0, 4023, .inl S)), ((g 2), .inl (y 2, 2, .inl kp)), ((g 3), .inl (y 0, 60, .inl tx)), ((g 0), .inr (5, [.int 0, .ref (g 1), .int (nI sv), .ref (g 2), .ref (g 3), .int (nI ln), .int (nI at9), .int (nI pl), .int va, .long (zH (zDt tx) (31 * (31 * (31 * (zDgL S (zDgS S (zDgC S (nI sv) 3533) n) (2 * n - 2)) + zB1 (kp 0)) + zB1 (kp 1)) + (nI ln).toInt64) i)]))] ∧ va_S A s.heap H locs ∧ lv_has ls 2 [(0, .ref (g 0)), (1, .int (nI i))]) 235 (fun _ => 0) (fun _ => 0) ?_ (0) ⟨by omega, hP, hD, hS, lv_sub hl [1, 0] rfl⟩
                clear hl hS hP hD
                rintro i H locs ls ⟨hi, hP, hD, hS, hl⟩ ih235
                refine lv_iload_n hx hb dX5_digest_235 rfl (lv_at hl 1 rfl) ?_
                refine lv_aload_n hx hb dX5_digest_236 rfl (lv_at hl 0 rfl) ?_
                refine va_get (D := D) (ci := 5) (v := .int (nI ln)) (C := RX5) (T := TX5) (N := 10) hx hb htg iX5 hown hK hP 3 rfl rfl 5 (by decide) (htg _ tw_449) (fun _ h9 => h9) rfl dX5_digest_237 ?_
                refine lv_icmp_ge (tgt := 260) hx hb dX5_digest_240 (by decide) (fun c_240 => ?_) (fun c_240 => ?_)
                · replace c_240 : ln ≤ i := (nI_leI (a := ln) (b := i) (by omega) (by omega)).mp c_240
                  have e8 : i = ln := by omega
                  rw [e8] at hP hD
                  have hP : va_P D vwCl [((g 1), .inl (y 0, 4023, .inl S)), ((g 2), .inl (y 2, 2, .inl kp)), ((g 3), .inl (y 0, 60, .inl tx)), ((g 0), .inr (5, [.int 0, .ref (g 1), .int (nI sv), .ref (g 2), .ref (g 3), .int (nI ln), .int (nI at9), .int (nI pl), .int va, .long (zDg S sv n kp ln tx)]))] H := hP
                  have hD : va_D A [((g 1), .inl (y 0, 4023, .inl S)), ((g 2), .inl (y 2, 2, .inl kp)), ((g 3), .inl (y 0, 60, .inl tx)), ((g 0), .inr (5, [.int 0, .ref (g 1), .int (nI sv), .ref (g 2), .ref (g 3), .int (nI ln), .int (nI at9), .int (nI pl), .int va, .long (zDg S sv n kp ln tx)]))] := hD
                  refine lv_aload_n hx hb dX5_digest_260 rfl (lv_at hl 0 rfl) ?_
                  refine va_get (D := D) (ci := 5) (v := .long (zDg S sv n kp ln tx)) (C := RX5) (T := TX5) (N := 10) hx hb htg iX5 hown hK hP 3 rfl rfl 9 (by decide) (htg _ tw_562) (fun _ h9 => h9) rfl dX5_digest_261 ?_
                  have hP := hP.sub (ws' := [((g 0), .inr (5, [.int 0, .ref (g 1), .int (nI sv), .ref (g 2), .ref (g 3), .int (nI ln), .int (nI at9), .int (nI pl), .int va, .long (zDg S sv n kp ln tx)])), ((g 1), .inl (y 0, 4023, .inl S)), ((g 2), .inl (y 2, 2, .inl kp)), ((g 3), .inl (y 0, 60, .inl tx))]) [3, 0, 1, 2] rfl
                  have hD := hD.sub (ws' := [((g 0), .inr (5, [.int 0, .ref (g 1), .int (nI sv), .ref (g 2), .ref (g 3), .int (nI ln), .int (nI at9), .int (nI pl), .int va, .long (zDg S sv n kp ln tx)])), ((g 1), .inl (y 0, 4023, .inl S)), ((g 2), .inl (y 2, 2, .inl kp)), ((g 3), .inl (y 0, 60, .inl tx))]) [3, 0, 1, 2] (by decide) rfl
                  refine W.widen (k := 0) (n := 0) (by first | exact Nat.le_of_ble_eq_true rfl | omega) (by first | exact Nat.le_of_ble_eq_true rfl | omega) ?_
                  exact W.lret (v := (zDg S sv n kp ln tx)) hx hb hr (fun t ht hW => ⟨⟨zDg S sv n kp ln tx, (), rfl, rfl, ⟨by rw [ht]; exact hP, hD⟩⟩, hS.F ht⟩) hS.2.2 dX5_digest_264
                · replace c_240 : ¬ ln ≤ i := fun h => c_240 ((nI_leI (a := ln) (b := i) (by omega) (by omega)).mpr h)
                  refine lv_aload_n hx hb dX5_digest_243 rfl (lv_at hl 0 rfl) ?_
                  refine lv_aload_n hx hb dX5_digest_244 rfl (lv_at hl 0 rfl) ?_
                  refine va_get (D := D) (ci := 5) (v := .ref (g 3)) (C := RX5) (T := TX5) (N := 10) hx hb htg iX5 hown hK hP 3 rfl rfl 4 (by decide) (htg _ tw_361) (fun _ h9 => h9) rfl dX5_digest_245 ?_
                  refine lv_iload_n hx hb dX5_digest_248 rfl (lv_at hl 1 rfl) ?_
                  refine va_iald hx hb hK hP 2 0 rfl rfl (vp_in_nI (by omega) (by decide)) dX5_digest_249 ?_
                  refine zz_top (y := tx i) (congrArg tx (nI_clamp (by omega))) ?_
                  refine zz_top (y := tx i) (rfl) ?_
                  refine lv_i2l (v := (tx i).toInt64) hx hb dX5_digest_250 rfl ?_
                  refine zw_callv (wr := [((g 1), .inl (y 0, 4023, .inl S)), ((g 2), .inl (y 2, 2, .inl kp)), ((g 3), .inl (y 0, 60, .inl tx))]) (w1 := (fun _ : Unit => [((g 0), .inr (5, [.int 0, .ref (g 1), .int (nI sv), .ref (g 2), .ref (g 3), .int (nI ln), .int (nI at9), .int (nI pl), .int va, .long (31 * (zH (zDt tx) (31 * (31 * (31 * (zDgL S (zDgS S (zDgC S (nI sv) 3533) n) (2 * n - 2)) + zB1 (kp 0)) + zB1 (kp 1)) + (nI ln).toInt64) i) + ((tx i).toInt64))]))])) hP hD hS hA [3] [0, 1, 2] rfl rfl (by decide +kernel) (by decide +kernel) (va_runV (As := [.long ((tx i).toInt64)]) (rest := []) ⟨hx, hb, hml, hown, hts⟩ (mX5_mix l D y _ g 0 sv ln at9 pl va (zH (zDt tx) (31 * (31 * (31 * (zDgL S (zDgS S (zDgC S (nI sv) 3533) n) (2 * n - 2)) + zB1 (kp 0)) + zB1 (kp 1)) + (nI ln).toInt64) i) ((tx i).toInt64)) (cwV 1 hts (zgV tw_575 tw_576 tw_577 tw_369 tw_560) rfl rfl rfl (by decide +kernel) ⟨Nat.le_of_ble_eq_true rfl, Nat.le_of_ble_eq_true rfl⟩) (zRW_preV hKN hP hD (ci := 5) (q0 := 3) rfl rfl [3] rfl (by decide)) rfl rfl hl.1 rfl (lv_room (Nat.le_of_ble_eq_true rfl)) dX5_digest_251 ⟨Nat.zero_le _, Nat.zero_le _⟩) (fun u_11 H locs hw_251 hP hD hS => ?_)
                  have hP : va_P D vwCl [((g 1), .inl (y 0, 4023, .inl S)), ((g 2), .inl (y 2, 2, .inl kp)), ((g 3), .inl (y 0, 60, .inl tx)), ((g 0), .inr (5, [.int 0, .ref (g 1), .int (nI sv), .ref (g 2), .ref (g 3), .int (nI ln), .int (nI at9), .int (nI pl), .int va, .long (31 * (zH (zDt tx) (31 * (31 * (31 * (zDgL S (zDgS S (zDgC S (nI sv) 3533) n) (2 * n - 2)) + zB1 (kp 0)) + zB1 (kp 1)) + (nI ln).toInt64) i) + ((tx i).toInt64))]))] H := hP
                  have hD : va_D A [((g 1), .inl (y 0, 4023, .inl S)), ((g 2), .inl (y 2, 2, .inl kp)), ((g 3), .inl (y 0, 60, .inl tx)), ((g 0), .inr (5, [.int 0, .ref (g 1), .int (nI sv), .ref (g 2), .ref (g 3), .int (nI ln), .int (nI at9), .int (nI pl), .int va, .long (31 * (zH (zDt tx) (31 * (31 * (31 * (zDgL S (zDgS S (zDgC S (nI sv) 3533) n) (2 * n - 2)) + zB1 (kp 0)) + zB1 (kp 1)) + (nI ln).toInt64) i) + ((tx i).toInt64))]))] := hD
                  have hP : va_P D vwCl [((g 1), .inl (y 0, 4023, .inl S)), ((g 2), .inl (y 2, 2, .inl kp)), ((g 3), .inl (y 0, 60, .inl tx)), ((g 0), .inr (5, [.int 0, .ref (g 1), .int (nI sv), .ref (g 2), .ref (g 3), .int (nI ln), .int (nI at9), .int (nI pl), .int va, .long (zH (zDt tx) (31 * (31 * (31 * (zDgL S (zDgS S (zDgC S (nI sv) 3533) n) (2 * n - 2)) + zB1 (kp 0)) + zB1 (kp 1)) + (nI ln).toInt64) (i + 1))]))] H := hP
                  have hD : va_D A [((g 1), .inl (y 0, 4023, .inl S)), ((g 2), .inl (y 2, 2, .inl kp)), ((g 3), .inl (y 0, 60, .inl tx)), ((g 0), .inr (5, [.int 0, .ref (g 1), .int (nI sv), .ref (g 2), .ref (g 3), .int (nI ln), .int (nI at9), .int (nI pl), .int va, .long (zH (zDt tx) (31 * (31 * (31 * (zDgL S (zDgS S (zDgC S (nI sv) 3533) n) (2 * n - 2)) + zB1 (kp 0)) + zB1 (kp 1)) + (nI ln).toInt64) (i + 1))]))] := hD
                  refine lv_iinc (v := nI (i + 1)) (lv' := [(1, .int (nI (i + 1))), (0, .ref (g 0))]) hx hb dX5_digest_254 hl (k := 1) rfl (nI_1 i) (by decide) rfl (fun ls hl => ?_)
                  refine lv_goto (tgt := 235) hx hb dX5_digest_257 (by decide) ?_
                  exact ih235 (i + 1) _ _ _ (by omega) ⟨by omega, hP, hD, hS, lv_sub hl [1, 0] rfl⟩
              · refine lv_lconst (v := 1) hx hb dX5_digest_216 (by decide) ?_
                refine lv_goto (tgt := 221) hx hb dX5_digest_217 (by decide) ?_
                refine zz_topl (y := zB1 (kp 1)) (if_neg c_213).symm ?_
                refine zw_callv (wr := [((g 1), .inl (y 0, 4023, .inl S)), ((g 2), .inl (y 2, 2, .inl kp)), ((g 3), .inl (y 0, 60, .inl tx))]) (w1 := (fun _ : Unit => [((g 0), .inr (5, [.int 0, .ref (g 1), .int (nI sv), .ref (g 2), .ref (g 3), .int (nI ln), .int (nI at9), .int (nI pl), .int va, .long (31 * (31 * (zDgL S (zDgS S (zDgC S (nI sv) 3533) n) (2 * n - 2)) + (zB1 (kp 0))) + (zB1 (kp 1)))]))])) hP hD hS hA [3] [0, 1, 2] rfl rfl (by decide +kernel) (by decide +kernel) (va_runV (As := [.long (zB1 (kp 1))]) (rest := []) ⟨hx, hb, hml, hown, hts⟩ (mX5_mix l D y _ g 0 sv ln at9 pl va (31 * (zDgL S (zDgS S (zDgC S (nI sv) 3533) n) (2 * n - 2)) + (zB1 (kp 0))) (zB1 (kp 1))) (cwV 1 hts (zgV tw_575 tw_576 tw_577 tw_369 tw_560) rfl rfl rfl (by decide +kernel) ⟨Nat.le_of_ble_eq_true rfl, Nat.le_of_ble_eq_true rfl⟩) (zRW_preV hKN hP hD (ci := 5) (q0 := 3) rfl rfl [3] rfl (by decide)) rfl rfl hl.1 rfl (lv_room (Nat.le_of_ble_eq_true rfl)) dX5_digest_221 ⟨Nat.zero_le _, Nat.zero_le _⟩) (fun u_12 H locs hw_221 hP hD hS => ?_)
                have hP : va_P D vwCl [((g 1), .inl (y 0, 4023, .inl S)), ((g 2), .inl (y 2, 2, .inl kp)), ((g 3), .inl (y 0, 60, .inl tx)), ((g 0), .inr (5, [.int 0, .ref (g 1), .int (nI sv), .ref (g 2), .ref (g 3), .int (nI ln), .int (nI at9), .int (nI pl), .int va, .long (31 * (31 * (zDgL S (zDgS S (zDgC S (nI sv) 3533) n) (2 * n - 2)) + (zB1 (kp 0))) + (zB1 (kp 1)))]))] H := hP
                have hD : va_D A [((g 1), .inl (y 0, 4023, .inl S)), ((g 2), .inl (y 2, 2, .inl kp)), ((g 3), .inl (y 0, 60, .inl tx)), ((g 0), .inr (5, [.int 0, .ref (g 1), .int (nI sv), .ref (g 2), .ref (g 3), .int (nI ln), .int (nI at9), .int (nI pl), .int va, .long (31 * (31 * (zDgL S (zDgS S (zDgC S (nI sv) 3533) n) (2 * n - 2)) + (zB1 (kp 0))) + (zB1 (kp 1)))]))] := hD
                refine lv_aload_n hx hb dX5_digest_224 rfl (lv_at hl 0 rfl) ?_
                refine lv_aload_n hx hb dX5_digest_225 rfl (lv_at hl 0 rfl) ?_
                refine va_get (D := D) (ci := 5) (v := .int (nI ln)) (C := RX5) (T := TX5) (N := 10) hx hb htg iX5 hown hK hP 3 rfl rfl 5 (by decide) (htg _ tw_449) (fun _ h9 => h9) rfl dX5_digest_226 ?_
                refine lv_i2l (v := (nI ln).toInt64) hx hb dX5_digest_229 rfl ?_
                refine zw_callv (wr := [((g 1), .inl (y 0, 4023, .inl S)), ((g 2), .inl (y 2, 2, .inl kp)), ((g 3), .inl (y 0, 60, .inl tx))]) (w1 := (fun _ : Unit => [((g 0), .inr (5, [.int 0, .ref (g 1), .int (nI sv), .ref (g 2), .ref (g 3), .int (nI ln), .int (nI at9), .int (nI pl), .int va, .long (31 * (31 * (31 * (zDgL S (zDgS S (zDgC S (nI sv) 3533) n) (2 * n - 2)) + (zB1 (kp 0))) + (zB1 (kp 1))) + ((nI ln).toInt64))]))])) hP hD hS hA [3] [0, 1, 2] rfl rfl (by decide +kernel) (by decide +kernel) (va_runV (As := [.long ((nI ln).toInt64)]) (rest := []) ⟨hx, hb, hml, hown, hts⟩ (mX5_mix l D y _ g 0 sv ln at9 pl va (31 * (31 * (zDgL S (zDgS S (zDgC S (nI sv) 3533) n) (2 * n - 2)) + (zB1 (kp 0))) + (zB1 (kp 1))) ((nI ln).toInt64)) (cwV 1 hts (zgV tw_575 tw_576 tw_577 tw_369 tw_560) rfl rfl rfl (by decide +kernel) ⟨Nat.le_of_ble_eq_true rfl, Nat.le_of_ble_eq_true rfl⟩) (zRW_preV hKN hP hD (ci := 5) (q0 := 3) rfl rfl [3] rfl (by decide)) rfl rfl hl.1 rfl (lv_room (Nat.le_of_ble_eq_true rfl)) dX5_digest_230 ⟨Nat.zero_le _, Nat.zero_le _⟩) (fun u_13 H locs hw_230 hP hD hS => ?_)
                have hP : va_P D vwCl [((g 1), .inl (y 0, 4023, .inl S)), ((g 2), .inl (y 2, 2, .inl kp)), ((g 3), .inl (y 0, 60, .inl tx)), ((g 0), .inr (5, [.int 0, .ref (g 1), .int (nI sv), .ref (g 2), .ref (g 3), .int (nI ln), .int (nI at9), .int (nI pl), .int va, .long (31 * (31 * (31 * (zDgL S (zDgS S (zDgC S (nI sv) 3533) n) (2 * n - 2)) + (zB1 (kp 0))) + (zB1 (kp 1))) + ((nI ln).toInt64))]))] H := hP
                have hD : va_D A [((g 1), .inl (y 0, 4023, .inl S)), ((g 2), .inl (y 2, 2, .inl kp)), ((g 3), .inl (y 0, 60, .inl tx)), ((g 0), .inr (5, [.int 0, .ref (g 1), .int (nI sv), .ref (g 2), .ref (g 3), .int (nI ln), .int (nI at9), .int (nI pl), .int va, .long (31 * (31 * (31 * (zDgL S (zDgS S (zDgC S (nI sv) 3533) n) (2 * n - 2)) + (zB1 (kp 0))) + (zB1 (kp 1))) + ((nI ln).toInt64))]))] := hD
                refine lv_iconst (v := 0) hx hb dX5_digest_233 (by decide) ?_
                refine lv_istore_n (lv' := [(1, .int 0), (0, .ref (g 0))]) hx hb dX5_digest_234 rfl hl (by decide) rfl (fun ls hl => ?_)
                refine zloop (fun i : Nat => 60 - i) (fun i H locs ls => i ≤ ln ∧ va_P D vwCl [((g 1), .inl (y 0, 4023, .inl S)), ((g 2), .inl (y 2, 2, .inl kp)), ((g 3), .inl (y 0, 60, .inl tx)), ((g 0), .inr (5, [.int 0, .ref (g 1), .int (nI sv), .ref (g 2), .ref (g 3), .int (nI ln), .int (nI at9), .int (nI pl), .int va, .long (zH (zDt tx) (31 * (31 * (31 * (zDgL S (zDgS S (zDgC S (nI sv) 3533) n) (2 * n - 2)) + zB1 (kp 0)) + zB1 (kp 1)) + (nI ln).toInt64) i)]))] H ∧ va_D A [((g 1), .inl (y 0, 4023, .inl S)), ((g 2), .inl (y 2, 2, .inl kp)), ((g 3), .inl (y 0, 60, .inl tx)), ((g 0), .inr (5, [.int 0, .ref (g 1), .int (nI sv), .ref (g 2), .ref (g 3), .int (nI ln), .int (nI at9), .int (nI pl), .int va, .long (zH (zDt tx) (31 * (31 * (31 * (zDgL S (zDgS S (zDgC S (nI sv) 3533) n) (2 * n - 2)) + zB1 (kp 0)) + zB1 (kp 1)) + (nI ln).toInt64) i)]))] ∧ va_S A s.heap H locs ∧ lv_has ls 2 [(0, .ref (g 0)), (1, .int (nI i))]) 235 (fun _ => 0) (fun _ => 0) ?_ (0) ⟨by omega, hP, hD, hS, lv_sub hl [1, 0] rfl⟩
                clear hl hS hP hD
                rintro i H locs ls ⟨hi, hP, hD, hS, hl⟩ ih235
                refine lv_iload_n hx hb dX5_digest_235 rfl (lv_at hl 1 rfl) ?_
                refine lv_aload_n hx hb dX5_digest_236 rfl (lv_at hl 0 rfl) ?_
                refine va_get (D := D) (ci := 5) (v := .int (nI ln)) (C := RX5) (T := TX5) (N := 10) hx hb htg iX5 hown hK hP 3 rfl rfl 5 (by decide) (htg _ tw_449) (fun _ h9 => h9) rfl dX5_digest_237 ?_
                refine lv_icmp_ge (tgt := 260) hx hb dX5_digest_240 (by decide) (fun c_240 => ?_) (fun c_240 => ?_)
                · replace c_240 : ln ≤ i := (nI_leI (a := ln) (b := i) (by omega) (by omega)).mp c_240
                  have e8 : i = ln := by omega
                  rw [e8] at hP hD
                  have hP : va_P D vwCl [((g 1), .inl (y 0, 4023, .inl S)), ((g 2), .inl (y 2, 2, .inl kp)), ((g 3), .inl (y 0, 60, .inl tx)), ((g 0), .inr (5, [.int 0, .ref (g 1), .int (nI sv), .ref (g 2), .ref (g 3), .int (nI ln), .int (nI at9), .int (nI pl), .int va, .long (zDg S sv n kp ln tx)]))] H := hP
                  have hD : va_D A [((g 1), .inl (y 0, 4023, .inl S)), ((g 2), .inl (y 2, 2, .inl kp)), ((g 3), .inl (y 0, 60, .inl tx)), ((g 0), .inr (5, [.int 0, .ref (g 1), .int (nI sv), .ref (g 2), .ref (g 3), .int (nI ln), .int (nI at9), .int (nI pl), .int va, .long (zDg S sv n kp ln tx)]))] := hD
                  refine lv_aload_n hx hb dX5_digest_260 rfl (lv_at hl 0 rfl) ?_
                  refine va_get (D := D) (ci := 5) (v := .long (zDg S sv n kp ln tx)) (C := RX5) (T := TX5) (N := 10) hx hb htg iX5 hown hK hP 3 rfl rfl 9 (by decide) (htg _ tw_562) (fun _ h9 => h9) rfl dX5_digest_261 ?_
                  have hP := hP.sub (ws' := [((g 0), .inr (5, [.int 0, .ref (g 1), .int (nI sv), .ref (g 2), .ref (g 3), .int (nI ln), .int (nI at9), .int (nI pl), .int va, .long (zDg S sv n kp ln tx)])), ((g 1), .inl (y 0, 4023, .inl S)), ((g 2), .inl (y 2, 2, .inl kp)), ((g 3), .inl (y 0, 60, .inl tx))]) [3, 0, 1, 2] rfl
                  have hD := hD.sub (ws' := [((g 0), .inr (5, [.int 0, .ref (g 1), .int (nI sv), .ref (g 2), .ref (g 3), .int (nI ln), .int (nI at9), .int (nI pl), .int va, .long (zDg S sv n kp ln tx)])), ((g 1), .inl (y 0, 4023, .inl S)), ((g 2), .inl (y 2, 2, .inl kp)), ((g 3), .inl (y 0, 60, .inl tx))]) [3, 0, 1, 2] (by decide) rfl
                  refine W.widen (k := 0) (n := 0) (by first | exact Nat.le_of_ble_eq_true rfl | omega) (by first | exact Nat.le_of_ble_eq_true rfl | omega) ?_
                  exact W.lret (v := (zDg S sv n kp ln tx)) hx hb hr (fun t ht hW => ⟨⟨zDg S sv n kp ln tx, (), rfl, rfl, ⟨by rw [ht]; exact hP, hD⟩⟩, hS.F ht⟩) hS.2.2 dX5_digest_264
                · replace c_240 : ¬ ln ≤ i := fun h => c_240 ((nI_leI (a := ln) (b := i) (by omega) (by omega)).mpr h)
                  refine lv_aload_n hx hb dX5_digest_243 rfl (lv_at hl 0 rfl) ?_
                  refine lv_aload_n hx hb dX5_digest_244 rfl (lv_at hl 0 rfl) ?_
                  refine va_get (D := D) (ci := 5) (v := .ref (g 3)) (C := RX5) (T := TX5) (N := 10) hx hb htg iX5 hown hK hP 3 rfl rfl 4 (by decide) (htg _ tw_361) (fun _ h9 => h9) rfl dX5_digest_245 ?_
                  refine lv_iload_n hx hb dX5_digest_248 rfl (lv_at hl 1 rfl) ?_
                  refine va_iald hx hb hK hP 2 0 rfl rfl (vp_in_nI (by omega) (by decide)) dX5_digest_249 ?_
                  refine zz_top (y := tx i) (congrArg tx (nI_clamp (by omega))) ?_
                  refine zz_top (y := tx i) (rfl) ?_
                  refine lv_i2l (v := (tx i).toInt64) hx hb dX5_digest_250 rfl ?_
                  refine zw_callv (wr := [((g 1), .inl (y 0, 4023, .inl S)), ((g 2), .inl (y 2, 2, .inl kp)), ((g 3), .inl (y 0, 60, .inl tx))]) (w1 := (fun _ : Unit => [((g 0), .inr (5, [.int 0, .ref (g 1), .int (nI sv), .ref (g 2), .ref (g 3), .int (nI ln), .int (nI at9), .int (nI pl), .int va, .long (31 * (zH (zDt tx) (31 * (31 * (31 * (zDgL S (zDgS S (zDgC S (nI sv) 3533) n) (2 * n - 2)) + zB1 (kp 0)) + zB1 (kp 1)) + (nI ln).toInt64) i) + ((tx i).toInt64))]))])) hP hD hS hA [3] [0, 1, 2] rfl rfl (by decide +kernel) (by decide +kernel) (va_runV (As := [.long ((tx i).toInt64)]) (rest := []) ⟨hx, hb, hml, hown, hts⟩ (mX5_mix l D y _ g 0 sv ln at9 pl va (zH (zDt tx) (31 * (31 * (31 * (zDgL S (zDgS S (zDgC S (nI sv) 3533) n) (2 * n - 2)) + zB1 (kp 0)) + zB1 (kp 1)) + (nI ln).toInt64) i) ((tx i).toInt64)) (cwV 1 hts (zgV tw_575 tw_576 tw_577 tw_369 tw_560) rfl rfl rfl (by decide +kernel) ⟨Nat.le_of_ble_eq_true rfl, Nat.le_of_ble_eq_true rfl⟩) (zRW_preV hKN hP hD (ci := 5) (q0 := 3) rfl rfl [3] rfl (by decide)) rfl rfl hl.1 rfl (lv_room (Nat.le_of_ble_eq_true rfl)) dX5_digest_251 ⟨Nat.zero_le _, Nat.zero_le _⟩) (fun u_14 H locs hw_251 hP hD hS => ?_)
                  have hP : va_P D vwCl [((g 1), .inl (y 0, 4023, .inl S)), ((g 2), .inl (y 2, 2, .inl kp)), ((g 3), .inl (y 0, 60, .inl tx)), ((g 0), .inr (5, [.int 0, .ref (g 1), .int (nI sv), .ref (g 2), .ref (g 3), .int (nI ln), .int (nI at9), .int (nI pl), .int va, .long (31 * (zH (zDt tx) (31 * (31 * (31 * (zDgL S (zDgS S (zDgC S (nI sv) 3533) n) (2 * n - 2)) + zB1 (kp 0)) + zB1 (kp 1)) + (nI ln).toInt64) i) + ((tx i).toInt64))]))] H := hP
                  have hD : va_D A [((g 1), .inl (y 0, 4023, .inl S)), ((g 2), .inl (y 2, 2, .inl kp)), ((g 3), .inl (y 0, 60, .inl tx)), ((g 0), .inr (5, [.int 0, .ref (g 1), .int (nI sv), .ref (g 2), .ref (g 3), .int (nI ln), .int (nI at9), .int (nI pl), .int va, .long (31 * (zH (zDt tx) (31 * (31 * (31 * (zDgL S (zDgS S (zDgC S (nI sv) 3533) n) (2 * n - 2)) + zB1 (kp 0)) + zB1 (kp 1)) + (nI ln).toInt64) i) + ((tx i).toInt64))]))] := hD
                  have hP : va_P D vwCl [((g 1), .inl (y 0, 4023, .inl S)), ((g 2), .inl (y 2, 2, .inl kp)), ((g 3), .inl (y 0, 60, .inl tx)), ((g 0), .inr (5, [.int 0, .ref (g 1), .int (nI sv), .ref (g 2), .ref (g 3), .int (nI ln), .int (nI at9), .int (nI pl), .int va, .long (zH (zDt tx) (31 * (31 * (31 * (zDgL S (zDgS S (zDgC S (nI sv) 3533) n) (2 * n - 2)) + zB1 (kp 0)) + zB1 (kp 1)) + (nI ln).toInt64) (i + 1))]))] H := hP
                  have hD : va_D A [((g 1), .inl (y 0, 4023, .inl S)), ((g 2), .inl (y 2, 2, .inl kp)), ((g 3), .inl (y 0, 60, .inl tx)), ((g 0), .inr (5, [.int 0, .ref (g 1), .int (nI sv), .ref (g 2), .ref (g 3), .int (nI ln), .int (nI at9), .int (nI pl), .int va, .long (zH (zDt tx) (31 * (31 * (31 * (zDgL S (zDgS S (zDgC S (nI sv) 3533) n) (2 * n - 2)) + zB1 (kp 0)) + zB1 (kp 1)) + (nI ln).toInt64) (i + 1))]))] := hD
                  refine lv_iinc (v := nI (i + 1)) (lv' := [(1, .int (nI (i + 1))), (0, .ref (g 0))]) hx hb dX5_digest_254 hl (k := 1) rfl (nI_1 i) (by decide) rfl (fun ls hl => ?_)
                  refine lv_goto (tgt := 235) hx hb dX5_digest_257 (by decide) ?_
                  exact ih235 (i + 1) _ _ _ (by omega) ⟨by omega, hP, hD, hS, lv_sub hl [1, 0] rfl⟩
          · replace c_128 : ¬ (2 * n) ≤ i := fun h => c_128 ((nI_leI (a := (2 * n)) (b := i) (by omega) (by omega)).mpr h)
            refine lv_aload_n hx hb dX5_digest_131 rfl (lv_at hl 0 rfl) ?_
            refine lv_aload_n hx hb dX5_digest_132 rfl (lv_at hl 0 rfl) ?_
            refine lv_iconst (v := 0) hx hb dX5_digest_133 (by decide) ?_
            refine lv_iload_n hx hb dX5_digest_134 rfl (lv_at hl 1 rfl) ?_
            refine lv_iconst (v := 2) hx hb dX5_digest_135 (by decide) ?_
            refine lv_idiv hx hb dX5_digest_136 (by decide) ?_
            refine zz_top (y := nI (i / 2)) (pk_div (by omega) (by decide) (by decide)) ?_
            refine lv_iload_n hx hb dX5_digest_137 rfl (lv_at hl 1 rfl) ?_
            refine lv_iconst (v := 2) hx hb dX5_digest_138 (by decide) ?_
            refine lv_irem hx hb dX5_digest_139 (by decide) ?_
            refine zz_top (y := nI (i % 2)) (pk_rem (by omega) (by decide) (by decide)) ?_
            refine zr_calli (va_runV (As := [.int 0, .int (nI (i / 2)), .int (nI (i % 2))]) (rest := [.ref (g 0)]) ⟨hx, hb, hml, hown, hts⟩ (mX5_sliding l D y g S 0 sv ln at9 pl va (zDgL S (zDgS S (zDgC S (nI sv) 3533) n) (i - 2)) 0 (i / 2) (i % 2) (by first | assumption | rfl | omega | decide) (by first | assumption | rfl | omega | decide) (by first | assumption | rfl | omega | decide) (by first | assumption | rfl | omega | decide)) (cwV 3 hts (zgV tw_530 tw_531 tw_532 tw_369 tw_528) rfl rfl rfl (by decide +kernel) ⟨Nat.le_of_ble_eq_true rfl, Nat.le_of_ble_eq_true rfl⟩) (zRO_preV hKN hP (ci := 5) (q0 := 0) rfl rfl [0, 1] rfl) rfl rfl hl.1 rfl (lv_room (Nat.le_of_ble_eq_true rfl)) dX5_digest_140 ⟨Nat.zero_le _, Nat.zero_le _⟩) hS (fun r_15 H locs hw_140 hT hS => ?_)
            replace hP := hT _ _ hP
            obtain rfl : r_15 = (qSl S 0 (i / 2) (i % 2) 16).1 := hw_140
            refine lv_i2l (v := ((qSl S 0 (i / 2) (i % 2) 16).1).toInt64) hx hb dX5_digest_143 rfl ?_
            refine zw_callv (wr := [((g 1), .inl (y 0, 4023, .inl S)), ((g 2), .inl (y 2, 2, .inl kp)), ((g 3), .inl (y 0, 60, .inl tx))]) (w1 := (fun _ : Unit => [((g 0), .inr (5, [.int 0, .ref (g 1), .int (nI sv), .ref (g 2), .ref (g 3), .int (nI ln), .int (nI at9), .int (nI pl), .int va, .long (31 * (zDgL S (zDgS S (zDgC S (nI sv) 3533) n) (i - 2)) + (((qSl S 0 (i / 2) (i % 2) 16).1).toInt64))]))])) hP hD hS hA [0] [1, 2, 3] rfl rfl (by decide +kernel) (by decide +kernel) (va_runV (As := [.long (((qSl S 0 (i / 2) (i % 2) 16).1).toInt64)]) (rest := []) ⟨hx, hb, hml, hown, hts⟩ (mX5_mix l D y _ g 0 sv ln at9 pl va (zDgL S (zDgS S (zDgC S (nI sv) 3533) n) (i - 2)) (((qSl S 0 (i / 2) (i % 2) 16).1).toInt64)) (cwV 1 hts (zgV tw_575 tw_576 tw_577 tw_369 tw_560) rfl rfl rfl (by decide +kernel) ⟨Nat.le_of_ble_eq_true rfl, Nat.le_of_ble_eq_true rfl⟩) (zRW_preV hKN hP hD (ci := 5) (q0 := 0) rfl rfl [0] rfl (by decide)) rfl rfl hl.1 rfl (lv_room (Nat.le_of_ble_eq_true rfl)) dX5_digest_144 ⟨Nat.zero_le _, Nat.zero_le _⟩) (fun u_16 H locs hw_144 hP hD hS => ?_)
            have hP : va_P D vwCl [((g 1), .inl (y 0, 4023, .inl S)), ((g 2), .inl (y 2, 2, .inl kp)), ((g 3), .inl (y 0, 60, .inl tx)), ((g 0), .inr (5, [.int 0, .ref (g 1), .int (nI sv), .ref (g 2), .ref (g 3), .int (nI ln), .int (nI at9), .int (nI pl), .int va, .long (31 * (zDgL S (zDgS S (zDgC S (nI sv) 3533) n) (i - 2)) + (((qSl S 0 (i / 2) (i % 2) 16).1).toInt64))]))] H := hP
            have hD : va_D A [((g 1), .inl (y 0, 4023, .inl S)), ((g 2), .inl (y 2, 2, .inl kp)), ((g 3), .inl (y 0, 60, .inl tx)), ((g 0), .inr (5, [.int 0, .ref (g 1), .int (nI sv), .ref (g 2), .ref (g 3), .int (nI ln), .int (nI at9), .int (nI pl), .int va, .long (31 * (zDgL S (zDgS S (zDgC S (nI sv) 3533) n) (i - 2)) + (((qSl S 0 (i / 2) (i % 2) 16).1).toInt64))]))] := hD
            refine lv_aload_n hx hb dX5_digest_147 rfl (lv_at hl 0 rfl) ?_
            refine lv_aload_n hx hb dX5_digest_148 rfl (lv_at hl 0 rfl) ?_
            refine lv_iconst (v := 0) hx hb dX5_digest_149 (by decide) ?_
            refine lv_iload_n hx hb dX5_digest_150 rfl (lv_at hl 1 rfl) ?_
            refine lv_iconst (v := 2) hx hb dX5_digest_151 (by decide) ?_
            refine lv_idiv hx hb dX5_digest_152 (by decide) ?_
            refine zz_top (y := nI (i / 2)) (pk_div (by omega) (by decide) (by decide)) ?_
            refine lv_iload_n hx hb dX5_digest_153 rfl (lv_at hl 1 rfl) ?_
            refine lv_iconst (v := 2) hx hb dX5_digest_154 (by decide) ?_
            refine lv_irem hx hb dX5_digest_155 (by decide) ?_
            refine zz_top (y := nI (i % 2)) (pk_rem (by omega) (by decide) (by decide)) ?_
            refine lv_iconst (v := 5) hx hb dX5_digest_156 (by decide) ?_
            refine zr_calli (va_runV (As := [.int 0, .int (nI (i / 2)), .int (nI (i % 2)), .int 5]) (rest := [.ref (g 0)]) ⟨hx, hb, hml, hown, hts⟩ (mX5_firstFar l D y g S 0 sv ln at9 pl va (31 * (zDgL S (zDgS S (zDgC S (nI sv) 3533) n) (i - 2)) + (((qSl S 0 (i / 2) (i % 2) 16).1).toInt64)) 0 (i / 2) (i % 2) 5 (by first | assumption | rfl | omega | decide) (by first | assumption | rfl | omega | decide) (by first | assumption | rfl | omega | decide) (by first | assumption | rfl | omega | decide)) (cwV 4 hts (zgV tw_535 tw_536 tw_537 tw_369 tw_533) rfl rfl rfl (by decide +kernel) ⟨Nat.le_of_ble_eq_true rfl, Nat.le_of_ble_eq_true rfl⟩) (zRO_preV hKN hP (ci := 5) (q0 := 3) rfl rfl [3, 0] rfl) rfl rfl hl.1 rfl (lv_room (Nat.le_of_ble_eq_true rfl)) dX5_digest_157 ⟨Nat.zero_le _, Nat.zero_le _⟩) hS (fun r_17 H locs hw_157 hT hS => ?_)
            replace hP := hT _ _ hP
            obtain rfl : r_17 = qFm S 0 (i / 2) (i % 2) 5 16 0 := hw_157
            refine lv_i2l (v := (qFm S 0 (i / 2) (i % 2) 5 16 0).toInt64) hx hb dX5_digest_160 rfl ?_
            refine zw_callv (wr := [((g 1), .inl (y 0, 4023, .inl S)), ((g 2), .inl (y 2, 2, .inl kp)), ((g 3), .inl (y 0, 60, .inl tx))]) (w1 := (fun _ : Unit => [((g 0), .inr (5, [.int 0, .ref (g 1), .int (nI sv), .ref (g 2), .ref (g 3), .int (nI ln), .int (nI at9), .int (nI pl), .int va, .long (31 * (31 * (zDgL S (zDgS S (zDgC S (nI sv) 3533) n) (i - 2)) + (((qSl S 0 (i / 2) (i % 2) 16).1).toInt64)) + ((qFm S 0 (i / 2) (i % 2) 5 16 0).toInt64))]))])) hP hD hS hA [3] [0, 1, 2] rfl rfl (by decide +kernel) (by decide +kernel) (va_runV (As := [.long ((qFm S 0 (i / 2) (i % 2) 5 16 0).toInt64)]) (rest := []) ⟨hx, hb, hml, hown, hts⟩ (mX5_mix l D y _ g 0 sv ln at9 pl va (31 * (zDgL S (zDgS S (zDgC S (nI sv) 3533) n) (i - 2)) + (((qSl S 0 (i / 2) (i % 2) 16).1).toInt64)) ((qFm S 0 (i / 2) (i % 2) 5 16 0).toInt64)) (cwV 1 hts (zgV tw_575 tw_576 tw_577 tw_369 tw_560) rfl rfl rfl (by decide +kernel) ⟨Nat.le_of_ble_eq_true rfl, Nat.le_of_ble_eq_true rfl⟩) (zRW_preV hKN hP hD (ci := 5) (q0 := 3) rfl rfl [3] rfl (by decide)) rfl rfl hl.1 rfl (lv_room (Nat.le_of_ble_eq_true rfl)) dX5_digest_161 ⟨Nat.zero_le _, Nat.zero_le _⟩) (fun u_18 H locs hw_161 hP hD hS => ?_)
            have hP : va_P D vwCl [((g 1), .inl (y 0, 4023, .inl S)), ((g 2), .inl (y 2, 2, .inl kp)), ((g 3), .inl (y 0, 60, .inl tx)), ((g 0), .inr (5, [.int 0, .ref (g 1), .int (nI sv), .ref (g 2), .ref (g 3), .int (nI ln), .int (nI at9), .int (nI pl), .int va, .long (31 * (31 * (zDgL S (zDgS S (zDgC S (nI sv) 3533) n) (i - 2)) + (((qSl S 0 (i / 2) (i % 2) 16).1).toInt64)) + ((qFm S 0 (i / 2) (i % 2) 5 16 0).toInt64))]))] H := hP
            have hD : va_D A [((g 1), .inl (y 0, 4023, .inl S)), ((g 2), .inl (y 2, 2, .inl kp)), ((g 3), .inl (y 0, 60, .inl tx)), ((g 0), .inr (5, [.int 0, .ref (g 1), .int (nI sv), .ref (g 2), .ref (g 3), .int (nI ln), .int (nI at9), .int (nI pl), .int va, .long (31 * (31 * (zDgL S (zDgS S (zDgC S (nI sv) 3533) n) (i - 2)) + (((qSl S 0 (i / 2) (i % 2) 16).1).toInt64)) + ((qFm S 0 (i / 2) (i % 2) 5 16 0).toInt64))]))] := hD
            refine lv_aload_n hx hb dX5_digest_164 rfl (lv_at hl 0 rfl) ?_
            refine lv_aload_n hx hb dX5_digest_165 rfl (lv_at hl 0 rfl) ?_
            refine lv_iconst (v := 0) hx hb dX5_digest_166 (by decide) ?_
            refine lv_iload_n hx hb dX5_digest_167 rfl (lv_at hl 1 rfl) ?_
            refine lv_iconst (v := 2) hx hb dX5_digest_168 (by decide) ?_
            refine lv_idiv hx hb dX5_digest_169 (by decide) ?_
            refine zz_top (y := nI (i / 2)) (pk_div (by omega) (by decide) (by decide)) ?_
            refine lv_iload_n hx hb dX5_digest_170 rfl (lv_at hl 1 rfl) ?_
            refine lv_iconst (v := 2) hx hb dX5_digest_171 (by decide) ?_
            refine lv_irem hx hb dX5_digest_172 (by decide) ?_
            refine zz_top (y := nI (i % 2)) (pk_rem (by omega) (by decide) (by decide)) ?_
            refine zr_calld (va_runV (As := [.int 0, .int (nI (i / 2)), .int (nI (i % 2))]) (rest := [.ref (g 0)]) ⟨hx, hb, hml, hown, hts⟩ (mX5_rate l D y g S 0 sv ln at9 pl va (31 * (31 * (zDgL S (zDgS S (zDgC S (nI sv) 3533) n) (i - 2)) + (((qSl S 0 (i / 2) (i % 2) 16).1).toInt64)) + ((qFm S 0 (i / 2) (i % 2) 5 16 0).toInt64)) 0 (i / 2) (i % 2) (by first | assumption | rfl | omega | decide) (by first | assumption | rfl | omega | decide) (by first | assumption | rfl | omega | decide) (by first | assumption | rfl | omega | decide)) (cwV 3 hts (zgV tw_540 tw_541 tw_542 tw_369 tw_538) rfl rfl rfl (by decide +kernel) ⟨Nat.le_of_ble_eq_true rfl, Nat.le_of_ble_eq_true rfl⟩) (zRO_preV hKN hP (ci := 5) (q0 := 3) rfl rfl [3, 0] rfl) rfl rfl hl.1 rfl (lv_room (Nat.le_of_ble_eq_true rfl)) dX5_digest_173 ⟨Nat.zero_le _, Nat.zero_le _⟩) hS (fun r_19 H locs hw_173 hT hS => ?_)
            replace hP := hT _ _ hP
            obtain rfl : r_19 = qSp S 0 (i / 2) (i % 2) := hw_173
            refine zr_calll (va_runS (As := [.double (qSp S 0 (i / 2) (i % 2))]) (rest := [.ref (g 0)]) ⟨hx, hb, hml, hown, hts⟩ (mX5_doubleBits l (qSp S 0 (i / 2) (i % 2)) (zDig_sp)) (va_cwS 1 hts (zgS tw_578 tw_579 tw_369 tw_565) rfl rfl rfl (by decide +kernel) ⟨Nat.le_of_ble_eq_true rfl, Nat.le_of_ble_eq_true rfl⟩) zP_pre rfl rfl hl.1 rfl (lv_room (Nat.le_of_ble_eq_true rfl)) dX5_digest_176 ⟨Nat.zero_le _, Nat.zero_le _⟩) hS (fun r_20 H locs hw_176 hT hS => ?_)
            replace hP := hT _ _ hP
            obtain rfl : r_20 = zBits (qSp S 0 (i / 2) (i % 2)) 4503599627370496 1023 (-9223372036854775808) := hw_176
            refine zw_callv (wr := [((g 1), .inl (y 0, 4023, .inl S)), ((g 2), .inl (y 2, 2, .inl kp)), ((g 3), .inl (y 0, 60, .inl tx))]) (w1 := (fun _ : Unit => [((g 0), .inr (5, [.int 0, .ref (g 1), .int (nI sv), .ref (g 2), .ref (g 3), .int (nI ln), .int (nI at9), .int (nI pl), .int va, .long (31 * (31 * (31 * (zDgL S (zDgS S (zDgC S (nI sv) 3533) n) (i - 2)) + (((qSl S 0 (i / 2) (i % 2) 16).1).toInt64)) + ((qFm S 0 (i / 2) (i % 2) 5 16 0).toInt64)) + (zBits (qSp S 0 (i / 2) (i % 2)) 4503599627370496 1023 (-9223372036854775808)))]))])) hP hD hS hA [3] [0, 1, 2] rfl rfl (by decide +kernel) (by decide +kernel) (va_runV (As := [.long (zBits (qSp S 0 (i / 2) (i % 2)) 4503599627370496 1023 (-9223372036854775808))]) (rest := []) ⟨hx, hb, hml, hown, hts⟩ (mX5_mix l D y _ g 0 sv ln at9 pl va (31 * (31 * (zDgL S (zDgS S (zDgC S (nI sv) 3533) n) (i - 2)) + (((qSl S 0 (i / 2) (i % 2) 16).1).toInt64)) + ((qFm S 0 (i / 2) (i % 2) 5 16 0).toInt64)) (zBits (qSp S 0 (i / 2) (i % 2)) 4503599627370496 1023 (-9223372036854775808))) (cwV 1 hts (zgV tw_575 tw_576 tw_577 tw_369 tw_560) rfl rfl rfl (by decide +kernel) ⟨Nat.le_of_ble_eq_true rfl, Nat.le_of_ble_eq_true rfl⟩) (zRW_preV hKN hP hD (ci := 5) (q0 := 3) rfl rfl [3] rfl (by decide)) rfl rfl hl.1 rfl (lv_room (Nat.le_of_ble_eq_true rfl)) dX5_digest_179 ⟨Nat.zero_le _, Nat.zero_le _⟩) (fun u_21 H locs hw_179 hP hD hS => ?_)
            have hP : va_P D vwCl [((g 1), .inl (y 0, 4023, .inl S)), ((g 2), .inl (y 2, 2, .inl kp)), ((g 3), .inl (y 0, 60, .inl tx)), ((g 0), .inr (5, [.int 0, .ref (g 1), .int (nI sv), .ref (g 2), .ref (g 3), .int (nI ln), .int (nI at9), .int (nI pl), .int va, .long (31 * (31 * (31 * (zDgL S (zDgS S (zDgC S (nI sv) 3533) n) (i - 2)) + (((qSl S 0 (i / 2) (i % 2) 16).1).toInt64)) + ((qFm S 0 (i / 2) (i % 2) 5 16 0).toInt64)) + (zBits (qSp S 0 (i / 2) (i % 2)) 4503599627370496 1023 (-9223372036854775808)))]))] H := hP
            have hD : va_D A [((g 1), .inl (y 0, 4023, .inl S)), ((g 2), .inl (y 2, 2, .inl kp)), ((g 3), .inl (y 0, 60, .inl tx)), ((g 0), .inr (5, [.int 0, .ref (g 1), .int (nI sv), .ref (g 2), .ref (g 3), .int (nI ln), .int (nI at9), .int (nI pl), .int va, .long (31 * (31 * (31 * (zDgL S (zDgS S (zDgC S (nI sv) 3533) n) (i - 2)) + (((qSl S 0 (i / 2) (i % 2) 16).1).toInt64)) + ((qFm S 0 (i / 2) (i % 2) 5 16 0).toInt64)) + (zBits (qSp S 0 (i / 2) (i % 2)) 4503599627370496 1023 (-9223372036854775808)))]))] := hD
            have e9h : 31 * (31 * (31 * (zDgL S (zDgS S (zDgC S (nI sv) 3533) n) (i - 2)) + (((qSl S 0 (i / 2) (i % 2) 16).1).toInt64)) + ((qFm S 0 (i / 2) (i % 2) 5 16 0).toInt64)) + (zBits (qSp S 0 (i / 2) (i % 2)) 4503599627370496 1023 (-9223372036854775808)) = zDgL S (zDgS S (zDgC S (nI sv) 3533) n) (i + 1 - 2) := zDgL_s hi2
            rw [e9h] at hP hD
            have hP : va_P D vwCl [((g 1), .inl (y 0, 4023, .inl S)), ((g 2), .inl (y 2, 2, .inl kp)), ((g 3), .inl (y 0, 60, .inl tx)), ((g 0), .inr (5, [.int 0, .ref (g 1), .int (nI sv), .ref (g 2), .ref (g 3), .int (nI ln), .int (nI at9), .int (nI pl), .int va, .long (zDgL S (zDgS S (zDgC S (nI sv) 3533) n) (i + 1 - 2))]))] H := hP
            have hD : va_D A [((g 1), .inl (y 0, 4023, .inl S)), ((g 2), .inl (y 2, 2, .inl kp)), ((g 3), .inl (y 0, 60, .inl tx)), ((g 0), .inr (5, [.int 0, .ref (g 1), .int (nI sv), .ref (g 2), .ref (g 3), .int (nI ln), .int (nI at9), .int (nI pl), .int va, .long (zDgL S (zDgS S (zDgC S (nI sv) 3533) n) (i + 1 - 2))]))] := hD
            refine lv_iinc (v := nI (i + 1)) (lv' := [(1, .int (nI (i + 1))), (0, .ref (g 0))]) hx hb dX5_digest_182 hl (k := 1) rfl (nI_1 i) (by decide) rfl (fun ls hl => ?_)
            refine lv_goto (tgt := 119) hx hb dX5_digest_185 (by decide) ?_
            have hP := hP.sub (ws' := [((g 0), .inr (5, [.int 0, .ref (g 1), .int (nI sv), .ref (g 2), .ref (g 3), .int (nI ln), .int (nI at9), .int (nI pl), .int va, .long (zDgL S (zDgS S (zDgC S (nI sv) 3533) n) (i + 1 - 2))])), ((g 1), .inl (y 0, 4023, .inl S)), ((g 2), .inl (y 2, 2, .inl kp)), ((g 3), .inl (y 0, 60, .inl tx))]) [3, 0, 1, 2] rfl
            have hD := hD.sub (ws' := [((g 0), .inr (5, [.int 0, .ref (g 1), .int (nI sv), .ref (g 2), .ref (g 3), .int (nI ln), .int (nI at9), .int (nI pl), .int va, .long (zDgL S (zDgS S (zDgC S (nI sv) 3533) n) (i + 1 - 2))])), ((g 1), .inl (y 0, 4023, .inl S)), ((g 2), .inl (y 2, 2, .inl kp)), ((g 3), .inl (y 0, 60, .inl tx))]) [3, 0, 1, 2] (by decide) rfl
            exact ih119 (i + 1) _ _ _ (by omega) ⟨by omega, by omega, hP, hD, hS, lv_sub hl [1, 0] rfl⟩
        · replace c_103 : ¬ n ≤ i := fun h => c_103 ((nI_leI (a := n) (b := i) (by omega) (by omega)).mpr h)
          refine lv_aload_n hx hb dX5_digest_106 rfl (lv_at hl 0 rfl) ?_
          refine lv_iload_n hx hb dX5_digest_107 rfl (lv_at hl 1 rfl) ?_
          refine zw_callv (wr := [((g 2), .inl (y 2, 2, .inl kp)), ((g 3), .inl (y 0, 60, .inl tx))]) (w1 := (fun _ : Unit => [((g 0), .inr (5, [.int 0, .ref (g 1), .int (nI sv), .ref (g 2), .ref (g 3), .int (nI ln), .int (nI at9), .int (nI pl), .int va, .long (zHs S i (zDgS S (zDgC S (nI sv) 3533) i))])), ((g 1), .inl (y 0, 4023, .inl S))])) hP hD hS hA [0, 1] [2, 3] rfl rfl (by decide +kernel) (by decide +kernel) (va_runV (As := [.int (nI i)]) (rest := []) ⟨hx, hb, hml, hown, hts⟩ (mX5_mixSurvey l D y _ g S 0 sv ln at9 pl va (zDgS S (zDgC S (nI sv) 3533) i) i (by first | assumption | rfl | omega | decide) (by first | assumption | rfl | omega | decide) (hB9 i (by omega))) (cwV 1 hts (zgV tw_582 tw_583 tw_584 tw_369 tw_571) rfl rfl rfl (by decide +kernel) ⟨Nat.le_of_ble_eq_true rfl, Nat.le_of_ble_eq_true rfl⟩) (zRW_preV hKN hP hD (ci := 5) (q0 := 0) rfl rfl [0, 1] rfl (by decide)) rfl rfl hl.1 rfl (lv_room (Nat.le_of_ble_eq_true rfl)) dX5_digest_108 ⟨Nat.zero_le _, Nat.zero_le _⟩) (fun u_22 H locs hw_108 hP hD hS => ?_)
          have hP : va_P D vwCl [((g 2), .inl (y 2, 2, .inl kp)), ((g 3), .inl (y 0, 60, .inl tx)), ((g 0), .inr (5, [.int 0, .ref (g 1), .int (nI sv), .ref (g 2), .ref (g 3), .int (nI ln), .int (nI at9), .int (nI pl), .int va, .long (zHs S i (zDgS S (zDgC S (nI sv) 3533) i))])), ((g 1), .inl (y 0, 4023, .inl S))] H := hP
          have hD : va_D A [((g 2), .inl (y 2, 2, .inl kp)), ((g 3), .inl (y 0, 60, .inl tx)), ((g 0), .inr (5, [.int 0, .ref (g 1), .int (nI sv), .ref (g 2), .ref (g 3), .int (nI ln), .int (nI at9), .int (nI pl), .int va, .long (zHs S i (zDgS S (zDgC S (nI sv) 3533) i))])), ((g 1), .inl (y 0, 4023, .inl S))] := hD
          have hP : va_P D vwCl [((g 2), .inl (y 2, 2, .inl kp)), ((g 3), .inl (y 0, 60, .inl tx)), ((g 0), .inr (5, [.int 0, .ref (g 1), .int (nI sv), .ref (g 2), .ref (g 3), .int (nI ln), .int (nI at9), .int (nI pl), .int va, .long (zDgS S (zDgC S (nI sv) 3533) (i + 1))])), ((g 1), .inl (y 0, 4023, .inl S))] H := hP
          have hD : va_D A [((g 2), .inl (y 2, 2, .inl kp)), ((g 3), .inl (y 0, 60, .inl tx)), ((g 0), .inr (5, [.int 0, .ref (g 1), .int (nI sv), .ref (g 2), .ref (g 3), .int (nI ln), .int (nI at9), .int (nI pl), .int va, .long (zDgS S (zDgC S (nI sv) 3533) (i + 1))])), ((g 1), .inl (y 0, 4023, .inl S))] := hD
          refine lv_iinc (v := nI (i + 1)) (lv' := [(1, .int (nI (i + 1))), (0, .ref (g 0))]) hx hb dX5_digest_111 hl (k := 1) rfl (nI_1 i) (by decide) rfl (fun ls hl => ?_)
          refine lv_goto (tgt := 96) hx hb dX5_digest_114 (by decide) ?_
          have hP := hP.sub (ws' := [((g 0), .inr (5, [.int 0, .ref (g 1), .int (nI sv), .ref (g 2), .ref (g 3), .int (nI ln), .int (nI at9), .int (nI pl), .int va, .long (zDgS S (zDgC S (nI sv) 3533) (i + 1))])), ((g 1), .inl (y 0, 4023, .inl S)), ((g 2), .inl (y 2, 2, .inl kp)), ((g 3), .inl (y 0, 60, .inl tx))]) [2, 3, 0, 1] rfl
          have hD := hD.sub (ws' := [((g 0), .inr (5, [.int 0, .ref (g 1), .int (nI sv), .ref (g 2), .ref (g 3), .int (nI ln), .int (nI at9), .int (nI pl), .int va, .long (zDgS S (zDgC S (nI sv) 3533) (i + 1))])), ((g 1), .inl (y 0, 4023, .inl S)), ((g 2), .inl (y 2, 2, .inl kp)), ((g 3), .inl (y 0, 60, .inl tx))]) [2, 3, 0, 1] (by decide) rfl
          exact ih96 (i + 1) _ _ _ (by omega) ⟨by omega, hP, hD, hS, lv_sub hl [1, 0] rfl⟩
      · replace c_68 : ¬ 112 ≤ i := fun h => c_68 ((nI_leI (a := 112) (b := i) (by omega) (by omega)).mpr h)
        refine lv_aload_n hx hb dX5_digest_71 rfl (lv_at hl 0 rfl) ?_
        refine lv_aload_n hx hb dX5_digest_72 rfl (lv_at hl 0 rfl) ?_
        refine lv_iload_n hx hb dX5_digest_73 rfl (lv_at hl 1 rfl) ?_
        refine lv_bipush (v := 7) hx hb dX5_digest_74 (by decide) ?_
        refine lv_idiv hx hb dX5_digest_76 (by decide) ?_
        refine zz_top (y := nI (i / 7)) (pk_div (by omega) (by decide) (by decide)) ?_
        refine lv_iload_n hx hb dX5_digest_77 rfl (lv_at hl 1 rfl) ?_
        refine lv_bipush (v := 7) hx hb dX5_digest_78 (by decide) ?_
        refine lv_irem hx hb dX5_digest_80 (by decide) ?_
        refine zz_top (y := nI (i % 7)) (pk_rem (by omega) (by decide) (by decide)) ?_
        refine zr_calli (va_runV (As := [.int (nI (i / 7)), .int (nI (i % 7))]) (rest := [.ref (g 0)]) ⟨hx, hb, hml, hown, hts⟩ (mX5_ofLevel l D y g S 0 sv ln at9 pl va (zH (zDl S) (zH (zDs S) (zH (zDc S (nI sv)) 3533 8) 3) i) (i / 7) (i % 7) (by first | assumption | rfl | omega | decide) (by first | assumption | rfl | omega | decide) (by first | assumption | rfl | omega | decide)) (cwV 2 hts (zgV tw_481 tw_482 tw_483 tw_369 tw_479) rfl rfl rfl (by decide +kernel) ⟨Nat.le_of_ble_eq_true rfl, Nat.le_of_ble_eq_true rfl⟩) (zRO_preV hKN hP (ci := 5) (q0 := 0) rfl rfl [0, 1] rfl) rfl rfl hl.1 rfl (lv_room (Nat.le_of_ble_eq_true rfl)) dX5_digest_81 ⟨Nat.zero_le _, Nat.zero_le _⟩) hS (fun r_23 H locs hw_81 hT hS => ?_)
        replace hP := hT _ _ hP
        obtain rfl : r_23 = qOfL S (i / 7) (i % 7) := hw_81
        refine lv_i2l (v := (qOfL S (i / 7) (i % 7)).toInt64) hx hb dX5_digest_84 rfl ?_
        refine zz_topl (y := zDl S i) (rfl) ?_
        refine zw_callv (wr := [((g 1), .inl (y 0, 4023, .inl S)), ((g 2), .inl (y 2, 2, .inl kp)), ((g 3), .inl (y 0, 60, .inl tx))]) (w1 := (fun _ : Unit => [((g 0), .inr (5, [.int 0, .ref (g 1), .int (nI sv), .ref (g 2), .ref (g 3), .int (nI ln), .int (nI at9), .int (nI pl), .int va, .long (31 * (zH (zDl S) (zH (zDs S) (zH (zDc S (nI sv)) 3533 8) 3) i) + (zDl S i))]))])) hP hD hS hA [0] [1, 2, 3] rfl rfl (by decide +kernel) (by decide +kernel) (va_runV (As := [.long (zDl S i)]) (rest := []) ⟨hx, hb, hml, hown, hts⟩ (mX5_mix l D y _ g 0 sv ln at9 pl va (zH (zDl S) (zH (zDs S) (zH (zDc S (nI sv)) 3533 8) 3) i) (zDl S i)) (cwV 1 hts (zgV tw_575 tw_576 tw_577 tw_369 tw_560) rfl rfl rfl (by decide +kernel) ⟨Nat.le_of_ble_eq_true rfl, Nat.le_of_ble_eq_true rfl⟩) (zRW_preV hKN hP hD (ci := 5) (q0 := 0) rfl rfl [0] rfl (by decide)) rfl rfl hl.1 rfl (lv_room (Nat.le_of_ble_eq_true rfl)) dX5_digest_85 ⟨Nat.zero_le _, Nat.zero_le _⟩) (fun u_24 H locs hw_85 hP hD hS => ?_)
        have hP : va_P D vwCl [((g 1), .inl (y 0, 4023, .inl S)), ((g 2), .inl (y 2, 2, .inl kp)), ((g 3), .inl (y 0, 60, .inl tx)), ((g 0), .inr (5, [.int 0, .ref (g 1), .int (nI sv), .ref (g 2), .ref (g 3), .int (nI ln), .int (nI at9), .int (nI pl), .int va, .long (31 * (zH (zDl S) (zH (zDs S) (zH (zDc S (nI sv)) 3533 8) 3) i) + (zDl S i))]))] H := hP
        have hD : va_D A [((g 1), .inl (y 0, 4023, .inl S)), ((g 2), .inl (y 2, 2, .inl kp)), ((g 3), .inl (y 0, 60, .inl tx)), ((g 0), .inr (5, [.int 0, .ref (g 1), .int (nI sv), .ref (g 2), .ref (g 3), .int (nI ln), .int (nI at9), .int (nI pl), .int va, .long (31 * (zH (zDl S) (zH (zDs S) (zH (zDc S (nI sv)) 3533 8) 3) i) + (zDl S i))]))] := hD
        have hP : va_P D vwCl [((g 1), .inl (y 0, 4023, .inl S)), ((g 2), .inl (y 2, 2, .inl kp)), ((g 3), .inl (y 0, 60, .inl tx)), ((g 0), .inr (5, [.int 0, .ref (g 1), .int (nI sv), .ref (g 2), .ref (g 3), .int (nI ln), .int (nI at9), .int (nI pl), .int va, .long (zH (zDl S) (zH (zDs S) (zH (zDc S (nI sv)) 3533 8) 3) (i + 1))]))] H := hP
        have hD : va_D A [((g 1), .inl (y 0, 4023, .inl S)), ((g 2), .inl (y 2, 2, .inl kp)), ((g 3), .inl (y 0, 60, .inl tx)), ((g 0), .inr (5, [.int 0, .ref (g 1), .int (nI sv), .ref (g 2), .ref (g 3), .int (nI ln), .int (nI at9), .int (nI pl), .int va, .long (zH (zDl S) (zH (zDs S) (zH (zDc S (nI sv)) 3533 8) 3) (i + 1))]))] := hD
        refine lv_iinc (v := nI (i + 1)) (lv' := [(1, .int (nI (i + 1))), (0, .ref (g 0))]) hx hb dX5_digest_88 hl (k := 1) rfl (nI_1 i) (by decide) rfl (fun ls hl => ?_)
        refine lv_goto (tgt := 65) hx hb dX5_digest_91 (by decide) ?_
        have hP := hP.sub (ws' := [((g 0), .inr (5, [.int 0, .ref (g 1), .int (nI sv), .ref (g 2), .ref (g 3), .int (nI ln), .int (nI at9), .int (nI pl), .int va, .long (zH (zDl S) (zH (zDs S) (zH (zDc S (nI sv)) 3533 8) 3) (i + 1))])), ((g 1), .inl (y 0, 4023, .inl S)), ((g 2), .inl (y 2, 2, .inl kp)), ((g 3), .inl (y 0, 60, .inl tx))]) [3, 0, 1, 2] rfl
        have hD := hD.sub (ws' := [((g 0), .inr (5, [.int 0, .ref (g 1), .int (nI sv), .ref (g 2), .ref (g 3), .int (nI ln), .int (nI at9), .int (nI pl), .int va, .long (zH (zDl S) (zH (zDs S) (zH (zDc S (nI sv)) 3533 8) 3) (i + 1))])), ((g 1), .inl (y 0, 4023, .inl S)), ((g 2), .inl (y 2, 2, .inl kp)), ((g 3), .inl (y 0, 60, .inl tx))]) [3, 0, 1, 2] (by decide) rfl
        exact ih65 (i + 1) _ _ _ (by omega) ⟨by omega, hP, hD, hS, lv_sub hl [1, 0] rfl⟩
    · replace c_40 : ¬ 3 ≤ i := fun h => c_40 ((nI_leI (a := 3) (b := i) (by omega) (by omega)).mpr h)
      refine lv_aload_n hx hb dX5_digest_43 rfl (lv_at hl 0 rfl) ?_
      refine lv_aload_n hx hb dX5_digest_44 rfl (lv_at hl 0 rfl) ?_
      refine va_get (D := D) (ci := 5) (v := .ref (g 1)) (C := RX5) (T := TX5) (N := 10) hx hb htg iX5 hown hK hP 0 rfl rfl 1 (by decide) (htg _ tw_359) (fun _ h9 => h9) rfl dX5_digest_45 ?_
      refine lv_bipush (v := 6) hx hb dX5_digest_48 (by decide) ?_
      refine lv_iload_n hx hb dX5_digest_50 rfl (lv_at hl 1 rfl) ?_
      refine lv_iadd hx hb dX5_digest_51 ?_
      refine zz_top (y := nI (6 + i)) (nI_add 6 i) ?_
      refine va_iald hx hb hK hP 1 0 rfl rfl (vp_in_nI (by omega) (by decide)) dX5_digest_52 ?_
      refine zz_top (y := S (6 + i)) (congrArg S (nI_clamp (by omega))) ?_
      refine lv_i2l (v := (S (6 + i)).toInt64) hx hb dX5_digest_53 rfl ?_
      refine zz_topl (y := zDs S i) (rfl) ?_
      refine zw_callv (wr := [((g 1), .inl (y 0, 4023, .inl S)), ((g 2), .inl (y 2, 2, .inl kp)), ((g 3), .inl (y 0, 60, .inl tx))]) (w1 := (fun _ : Unit => [((g 0), .inr (5, [.int 0, .ref (g 1), .int (nI sv), .ref (g 2), .ref (g 3), .int (nI ln), .int (nI at9), .int (nI pl), .int va, .long (31 * (zH (zDs S) (zH (zDc S (nI sv)) 3533 8) i) + (zDs S i))]))])) hP hD hS hA [0] [1, 2, 3] rfl rfl (by decide +kernel) (by decide +kernel) (va_runV (As := [.long (zDs S i)]) (rest := []) ⟨hx, hb, hml, hown, hts⟩ (mX5_mix l D y _ g 0 sv ln at9 pl va (zH (zDs S) (zH (zDc S (nI sv)) 3533 8) i) (zDs S i)) (cwV 1 hts (zgV tw_575 tw_576 tw_577 tw_369 tw_560) rfl rfl rfl (by decide +kernel) ⟨Nat.le_of_ble_eq_true rfl, Nat.le_of_ble_eq_true rfl⟩) (zRW_preV hKN hP hD (ci := 5) (q0 := 0) rfl rfl [0] rfl (by decide)) rfl rfl hl.1 rfl (lv_room (Nat.le_of_ble_eq_true rfl)) dX5_digest_54 ⟨Nat.zero_le _, Nat.zero_le _⟩) (fun u_25 H locs hw_54 hP hD hS => ?_)
      have hP : va_P D vwCl [((g 1), .inl (y 0, 4023, .inl S)), ((g 2), .inl (y 2, 2, .inl kp)), ((g 3), .inl (y 0, 60, .inl tx)), ((g 0), .inr (5, [.int 0, .ref (g 1), .int (nI sv), .ref (g 2), .ref (g 3), .int (nI ln), .int (nI at9), .int (nI pl), .int va, .long (31 * (zH (zDs S) (zH (zDc S (nI sv)) 3533 8) i) + (zDs S i))]))] H := hP
      have hD : va_D A [((g 1), .inl (y 0, 4023, .inl S)), ((g 2), .inl (y 2, 2, .inl kp)), ((g 3), .inl (y 0, 60, .inl tx)), ((g 0), .inr (5, [.int 0, .ref (g 1), .int (nI sv), .ref (g 2), .ref (g 3), .int (nI ln), .int (nI at9), .int (nI pl), .int va, .long (31 * (zH (zDs S) (zH (zDc S (nI sv)) 3533 8) i) + (zDs S i))]))] := hD
      have hP : va_P D vwCl [((g 1), .inl (y 0, 4023, .inl S)), ((g 2), .inl (y 2, 2, .inl kp)), ((g 3), .inl (y 0, 60, .inl tx)), ((g 0), .inr (5, [.int 0, .ref (g 1), .int (nI sv), .ref (g 2), .ref (g 3), .int (nI ln), .int (nI at9), .int (nI pl), .int va, .long (zH (zDs S) (zH (zDc S (nI sv)) 3533 8) (i + 1))]))] H := hP
      have hD : va_D A [((g 1), .inl (y 0, 4023, .inl S)), ((g 2), .inl (y 2, 2, .inl kp)), ((g 3), .inl (y 0, 60, .inl tx)), ((g 0), .inr (5, [.int 0, .ref (g 1), .int (nI sv), .ref (g 2), .ref (g 3), .int (nI ln), .int (nI at9), .int (nI pl), .int va, .long (zH (zDs S) (zH (zDc S (nI sv)) 3533 8) (i + 1))]))] := hD
      refine lv_iinc (v := nI (i + 1)) (lv' := [(1, .int (nI (i + 1))), (0, .ref (g 0))]) hx hb dX5_digest_57 hl (k := 1) rfl (nI_1 i) (by decide) rfl (fun ls hl => ?_)
      refine lv_goto (tgt := 38) hx hb dX5_digest_60 (by decide) ?_
      have hP := hP.sub (ws' := [((g 0), .inr (5, [.int 0, .ref (g 1), .int (nI sv), .ref (g 2), .ref (g 3), .int (nI ln), .int (nI at9), .int (nI pl), .int va, .long (zH (zDs S) (zH (zDc S (nI sv)) 3533 8) (i + 1))])), ((g 1), .inl (y 0, 4023, .inl S)), ((g 2), .inl (y 2, 2, .inl kp)), ((g 3), .inl (y 0, 60, .inl tx))]) [3, 0, 1, 2] rfl
      have hD := hD.sub (ws' := [((g 0), .inr (5, [.int 0, .ref (g 1), .int (nI sv), .ref (g 2), .ref (g 3), .int (nI ln), .int (nI at9), .int (nI pl), .int va, .long (zH (zDs S) (zH (zDc S (nI sv)) 3533 8) (i + 1))])), ((g 1), .inl (y 0, 4023, .inl S)), ((g 2), .inl (y 2, 2, .inl kp)), ((g 3), .inl (y 0, 60, .inl tx))]) [3, 0, 1, 2] (by decide) rfl
      exact ih38 (i + 1) _ _ _ (by omega) ⟨by omega, hP, hD, hS, lv_sub hl [1, 0] rfl⟩
  · replace c_17 : ¬ 8 ≤ i := fun h => c_17 ((nI_leI (a := 8) (b := i) (by omega) (by omega)).mpr h)
    refine lv_aload_n hx hb dX5_digest_20 rfl (lv_at hl 0 rfl) ?_
    refine lv_aload_n hx hb dX5_digest_21 rfl (lv_at hl 0 rfl) ?_
    refine lv_iload_n hx hb dX5_digest_22 rfl (lv_at hl 1 rfl) ?_
    refine zr_calli (va_runV (As := [.int (nI i)]) (rest := [.ref (g 0)]) ⟨hx, hb, hml, hown, hts⟩ (mX5_counted l D y g S 0 sv ln at9 pl va (zH (zDc S (nI sv)) 3533 i) i (by first | assumption | rfl | omega | decide)) (cwV 1 hts (zgV tw_515 tw_516 tw_517 tw_369 tw_510) rfl rfl rfl (by decide +kernel) ⟨Nat.le_of_ble_eq_true rfl, Nat.le_of_ble_eq_true rfl⟩) (zRO_preV hKN hP (ci := 5) (q0 := 0) rfl rfl [0, 1] rfl) rfl rfl hl.1 rfl (lv_room (Nat.le_of_ble_eq_true rfl)) dX5_digest_23 ⟨Nat.zero_le _, Nat.zero_le _⟩) hS (fun r_26 H locs hw_23 hT hS => ?_)
    replace hP := hT _ _ hP
    obtain rfl : r_26 = qCt S (nI sv) i := hw_23
    refine lv_i2l (v := (qCt S (nI sv) i).toInt64) hx hb dX5_digest_26 rfl ?_
    refine zz_topl (y := zDc S (nI sv) i) (rfl) ?_
    refine zw_callv (wr := [((g 1), .inl (y 0, 4023, .inl S)), ((g 2), .inl (y 2, 2, .inl kp)), ((g 3), .inl (y 0, 60, .inl tx))]) (w1 := (fun _ : Unit => [((g 0), .inr (5, [.int 0, .ref (g 1), .int (nI sv), .ref (g 2), .ref (g 3), .int (nI ln), .int (nI at9), .int (nI pl), .int va, .long (31 * (zH (zDc S (nI sv)) 3533 i) + (zDc S (nI sv) i))]))])) hP hD hS hA [0] [1, 2, 3] rfl rfl (by decide +kernel) (by decide +kernel) (va_runV (As := [.long (zDc S (nI sv) i)]) (rest := []) ⟨hx, hb, hml, hown, hts⟩ (mX5_mix l D y _ g 0 sv ln at9 pl va (zH (zDc S (nI sv)) 3533 i) (zDc S (nI sv) i)) (cwV 1 hts (zgV tw_575 tw_576 tw_577 tw_369 tw_560) rfl rfl rfl (by decide +kernel) ⟨Nat.le_of_ble_eq_true rfl, Nat.le_of_ble_eq_true rfl⟩) (zRW_preV hKN hP hD (ci := 5) (q0 := 0) rfl rfl [0] rfl (by decide)) rfl rfl hl.1 rfl (lv_room (Nat.le_of_ble_eq_true rfl)) dX5_digest_27 ⟨Nat.zero_le _, Nat.zero_le _⟩) (fun u_27 H locs hw_27 hP hD hS => ?_)
    have hP : va_P D vwCl [((g 1), .inl (y 0, 4023, .inl S)), ((g 2), .inl (y 2, 2, .inl kp)), ((g 3), .inl (y 0, 60, .inl tx)), ((g 0), .inr (5, [.int 0, .ref (g 1), .int (nI sv), .ref (g 2), .ref (g 3), .int (nI ln), .int (nI at9), .int (nI pl), .int va, .long (31 * (zH (zDc S (nI sv)) 3533 i) + (zDc S (nI sv) i))]))] H := hP
    have hD : va_D A [((g 1), .inl (y 0, 4023, .inl S)), ((g 2), .inl (y 2, 2, .inl kp)), ((g 3), .inl (y 0, 60, .inl tx)), ((g 0), .inr (5, [.int 0, .ref (g 1), .int (nI sv), .ref (g 2), .ref (g 3), .int (nI ln), .int (nI at9), .int (nI pl), .int va, .long (31 * (zH (zDc S (nI sv)) 3533 i) + (zDc S (nI sv) i))]))] := hD
    have hP : va_P D vwCl [((g 1), .inl (y 0, 4023, .inl S)), ((g 2), .inl (y 2, 2, .inl kp)), ((g 3), .inl (y 0, 60, .inl tx)), ((g 0), .inr (5, [.int 0, .ref (g 1), .int (nI sv), .ref (g 2), .ref (g 3), .int (nI ln), .int (nI at9), .int (nI pl), .int va, .long (zH (zDc S (nI sv)) 3533 (i + 1))]))] H := hP
    have hD : va_D A [((g 1), .inl (y 0, 4023, .inl S)), ((g 2), .inl (y 2, 2, .inl kp)), ((g 3), .inl (y 0, 60, .inl tx)), ((g 0), .inr (5, [.int 0, .ref (g 1), .int (nI sv), .ref (g 2), .ref (g 3), .int (nI ln), .int (nI at9), .int (nI pl), .int va, .long (zH (zDc S (nI sv)) 3533 (i + 1))]))] := hD
    refine lv_iinc (v := nI (i + 1)) (lv' := [(1, .int (nI (i + 1))), (0, .ref (g 0))]) hx hb dX5_digest_30 hl (k := 1) rfl (nI_1 i) (by decide) rfl (fun ls hl => ?_)
    refine lv_goto (tgt := 14) hx hb dX5_digest_33 (by decide) ?_
    have hP := hP.sub (ws' := [((g 0), .inr (5, [.int 0, .ref (g 1), .int (nI sv), .ref (g 2), .ref (g 3), .int (nI ln), .int (nI at9), .int (nI pl), .int va, .long (zH (zDc S (nI sv)) 3533 (i + 1))])), ((g 1), .inl (y 0, 4023, .inl S)), ((g 2), .inl (y 2, 2, .inl kp)), ((g 3), .inl (y 0, 60, .inl tx))]) [3, 0, 1, 2] rfl
    have hD := hD.sub (ws' := [((g 0), .inr (5, [.int 0, .ref (g 1), .int (nI sv), .ref (g 2), .ref (g 3), .int (nI ln), .int (nI at9), .int (nI pl), .int va, .long (zH (zDc S (nI sv)) 3533 (i + 1))])), ((g 1), .inl (y 0, 4023, .inl S)), ((g 2), .inl (y 2, 2, .inl kp)), ((g 3), .inl (y 0, 60, .inl tx))]) [3, 0, 1, 2] (by decide) rfl
    exact ih14 (i + 1) _ _ _ (by omega) ⟨by omega, hP, hD, hS, lv_sub hl [1, 0] rfl⟩
