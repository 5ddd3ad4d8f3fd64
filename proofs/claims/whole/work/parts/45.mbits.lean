set_option maxHeartbeats 4000000 in
set_option maxRecDepth 100000 in
theorem mX5_bits_n (l : Launch) (x : UInt64) (sb : Bool) (c9 : Nat) (q : Int) (fr : Int64) (ex : Int64) (sg : Int64) (hxv : FP.Core.val64 x = .fin sb c9 q) (hc1 : 4503599627370496 ≤ c9) (hc2 : c9 < 9007199254740992) (hq1 : -130 ≤ q) (hq2 : q ≤ 30) (hfr : fr ≠ 0) : Met l yX5_bits (ws_ yX5_bits cX5_bits 12 (some .long)) ({ frames := 0, cells := 0, slots := 0, locals := 0 }) (va_Pc [.double x, .long fr, .long ex, .long sg] (fun _ => True)) (va_Ql (fun (r : Int64) (_ : Unit) => r = zBits x fr ex sg) (fun _ _ => True) (fun _ => False)) 0 0 (fun _ => False) := by
  refine Met.ofW (cc := cX5_bits) (maxL := 12) (ret := (some .long)) (by decide) rfl ?_
  intro p e s m args below meth c s₁ B hml hpre9
  obtain ⟨rfl, -⟩ := hpre9
  have hx := B.exec
  have hb := B.bytes
  have hr := B.returns
  have hts := atoms_spec (ws := (ws_ yX5_bits cX5_bits 12 (some .long))) B.pre
  have htg : ∀ w ∈ gT, w.before _ s = true := fun w h => hts w (List.mem_cons_of_mem _ h)
  have hown : s.vm.findClass RX5 = some m.cls := findClass_of_methodNamed B.named
  have hlocks := B.notSynchronized
  have hS : va_S (fun _ => False) s.heap s.heap [] := va_S.rf
  have hl := lv_entry ([.double x, .long fr, .long ex, .long sg]) (n := 12) (Nat.le_of_ble_eq_true rfl)
  rw [lg_entry_eq]
  generalize (lg_sl ([.double x, .long fr, .long ex, .long sg]) ++ List.replicate (12 - (lg_sl ([.double x, .long fr, .long ex, .long sg])).length) Slot.unset).toArray = ls at hl ⊢
  have hl : lv_has ls 12 [(0, .double x), (2, .long fr), (4, .long ex), (6, .long sg)] := hl
  refine lv_dload_n hx hb dX5_bits_0 rfl (lv_at hl 0 rfl) ?_
  refine lv_dconst0 hx hb dX5_bits_1 ?_
  refine lv_dcmp hx hb dX5_bits_2 ?_
  refine lv_if_ne (tgt := 8) hx hb dX5_bits_3 (by decide) (fun _ => ?_) (fun c_3 => absurd c_3 (zsg_n (zsg64 hxv (by omega))))
  refine lv_dload_n hx hb dX5_bits_8 rfl (lv_at hl 0 rfl) ?_
  refine lv_dconst0 hx hb dX5_bits_9 ?_
  refine lv_dcmp hx hb dX5_bits_10 ?_
  refine lv_if_ge (tgt := 19) hx hb dX5_bits_11 (by decide) (fun c_11 => ?_) (fun c_11 => ?_)
  · have hsb : sb = false := zsg_f (zsg64 hxv (by omega)) c_11
    subst hsb
    refine lv_dload_n hx hb dX5_bits_19 rfl (lv_at hl 0 rfl) ?_
    refine lv_dstore (lv' := [(8, .double x), (0, .double x), (2, .long fr), (4, .long ex), (6, .long sg)]) hx hb dX5_bits_20 hl (by decide) rfl (fun ls hl => ?_)
    refine lv_lload hx hb dX5_bits_22 (lv_at hl 3 rfl) ?_
    refine lv_lstore (lv' := [(10, .long ex), (8, .double x), (0, .double x), (2, .long fr), (4, .long ex), (6, .long sg)]) hx hb dX5_bits_24 hl (by decide) rfl (fun ls hl => ?_)
    refine zloop (fun i : Nat => 200 - i) (fun i H locs ls => ∃ yy : UInt64, ∃ lv : Int64, zLp yy c9 (q - i) ∧ (i = 0 ∨ -52 ≤ q - i) ∧ lv = ex + Int64.ofNat i ∧ va_S (fun _ => False) s.heap H locs ∧ lv_has ls 12 [(0, .double x), (2, .long fr), (4, .long ex), (6, .long sg), (8, .double yy), (10, .long lv)]) 26 (fun _ => 0) (fun _ => 0) ?_ (0) ⟨x, ex, zLp_cast (zLp_pos hxv hc1 hc2 hq1 hq2) (by omega), Or.inl rfl, (Int64.add_zero _).symm, hS, lv_sub hl [2, 3, 4, 5, 1, 0] rfl⟩
    clear hl hS
    rintro i H locs ls ⟨yy, lv, hy, hi, hlv, hS, hl⟩ ih26
    refine lv_dload hx hb dX5_bits_26 (lv_at hl 4 rfl) ?_
    refine lv_ldc2d hx hb hown (htg _ tw_564) dX5_bits_28 ?_
    refine lv_dcmp hx hb dX5_bits_31 ?_
    refine lv_if_lt (tgt := 52) hx hb dX5_bits_32 (by decide) (fun c_32 => ?_) (fun c_32 => ?_)
    · replace c_32 : q - i ≤ -52 := (zLp_2 hy).mp c_32
      refine zloop (fun j : Nat => 200 - j) (fun j H locs ls => ∃ zz : UInt64, ∃ lv : Int64, zLp zz c9 (q - i + j) ∧ q - i + j ≤ -52 ∧ lv = ex + Int64.ofNat i - Int64.ofNat j ∧ va_S (fun _ => False) s.heap H locs ∧ lv_has ls 12 [(0, .double x), (2, .long fr), (4, .long ex), (6, .long sg), (8, .double zz), (10, .long lv)]) 52 (fun _ => 0) (fun _ => 0) ?_ (0) ⟨yy, lv, zLp_cast hy (by omega), by omega, hlv.trans (Int64.sub_zero _).symm, hS, lv_sub hl [0, 1, 2, 3, 4, 5] rfl⟩
      clear hl hS
      rintro j H locs ls ⟨zz, lv, hz, hj, hv9, hS, hl⟩ ih52
      refine lv_dload hx hb dX5_bits_52 (lv_at hl 4 rfl) ?_
      refine lv_dconst1 hx hb dX5_bits_54 ?_
      refine lv_dcmp hx hb dX5_bits_55 ?_
      refine lv_if_ge (tgt := 76) hx hb dX5_bits_56 (by decide) (fun c_56 => ?_) (fun c_56 => ?_)
      · replace c_56 : ¬ (q - i + j ≤ -53) := fun h => absurd ((zLp_1 hz).mpr h) (Int32.not_lt.mpr c_56)
        refine lv_lload hx hb dX5_bits_76 (lv_at hl 5 rfl) ?_
        refine lv_lload_n hx hb dX5_bits_78 rfl (lv_at hl 1 rfl) ?_
        refine lv_lmul hx hb dX5_bits_79 ?_
        refine lv_dload hx hb dX5_bits_80 (lv_at hl 4 rfl) ?_
        refine lv_dconst1 hx hb dX5_bits_82 ?_
        refine lv_dsub hx hb dX5_bits_83 (znn_s hz) ?_
        refine lv_lload_n hx hb dX5_bits_84 rfl (lv_at hl 1 rfl) ?_
        refine lv_l2d hx hb dX5_bits_85 ?_
        refine lv_dmul hx hb dX5_bits_86 (znn_m hz hfr) ?_
        refine lv_d2l hx hb dX5_bits_87 ?_
        refine lv_ladd hx hb dX5_bits_88 ?_
        refine lv_dload_n hx hb dX5_bits_89 rfl (lv_at hl 0 rfl) ?_
        refine lv_dconst0 hx hb dX5_bits_90 ?_
        refine lv_dcmp hx hb dX5_bits_91 ?_
        refine lv_if_ge (tgt := 100) hx hb dX5_bits_92 (by decide) (fun _ => ?_) (fun c_92 => absurd (c_11) c_92)
        refine lv_lconst (v := 0) hx hb dX5_bits_100 (by decide) ?_
        refine lv_ladd hx hb dX5_bits_101 ?_
        exact W.lret (v := (((lv * fr) + (FP.d2l (FP.dmul (FP.dsub zz FP.dconst1) (FP.l2d fr)))) + 0)) hx hb hr (fun t ht hW => ⟨⟨((lv * fr) + (FP.d2l (FP.dmul (FP.dsub zz FP.dconst1) (FP.l2d fr)))) + 0, (), rfl, (congrArg (· + _) (zBm_eq hz (by omega) hv9)).trans (zBits_n hxv (by omega)).symm, trivial⟩, hS.F ht⟩) hS.2.2 dX5_bits_102
      · replace c_56 : q - i + j ≤ -53 := (zLp_1 hz).mp (Int32.not_le.mp c_56)
        refine lv_dload hx hb dX5_bits_59 (lv_at hl 4 rfl) ?_
        refine lv_ldc2d hx hb hown (htg _ tw_564) dX5_bits_61 ?_
        refine lv_dmul hx hb dX5_bits_64 (zLp_nand hz (by omega)) ?_
        refine lv_dstore (lv' := [(8, .double (FP.dmul zz (4611686018427387904))), (0, .double x), (2, .long fr), (4, .long ex), (6, .long sg), (10, .long lv)]) hx hb dX5_bits_65 hl (by decide) rfl (fun ls hl => ?_)
        refine lv_lload hx hb dX5_bits_67 (lv_at hl 5 rfl) ?_
        refine lv_lconst (v := 1) hx hb dX5_bits_69 (by decide) ?_
        refine lv_lsub hx hb dX5_bits_70 ?_
        refine lv_lstore (lv' := [(10, .long (lv - 1)), (8, .double (FP.dmul zz (4611686018427387904))), (0, .double x), (2, .long fr), (4, .long ex), (6, .long sg)]) hx hb dX5_bits_71 hl (by decide) rfl (fun ls hl => ?_)
        refine lv_goto (tgt := 52) hx hb dX5_bits_73 (by decide) ?_
        exact ih52 (j + 1) _ _ _ (by omega) ⟨FP.dmul zz (4611686018427387904), lv - 1, zLp_cast (zLp_dbl hz (by omega)) (by omega), by omega, (congrArg (· - 1) hv9).trans (zI64d _ j), hS, lv_sub hl [2, 3, 4, 5, 1, 0] rfl⟩
    · replace c_32 : ¬ (q - i ≤ -52) := fun h => c_32 ((zLp_2 hy).mpr h)
      refine lv_dload hx hb dX5_bits_35 (lv_at hl 4 rfl) ?_
      refine lv_ldc2d hx hb hown (htg _ tw_564) dX5_bits_37 ?_
      refine lv_ddiv hx hb dX5_bits_40 (zLp_nanh hy (by omega)) ?_
      refine lv_dstore (lv' := [(8, .double (FP.ddiv yy (4611686018427387904))), (0, .double x), (2, .long fr), (4, .long ex), (6, .long sg), (10, .long lv)]) hx hb dX5_bits_41 hl (by decide) rfl (fun ls hl => ?_)
      refine lv_lload hx hb dX5_bits_43 (lv_at hl 5 rfl) ?_
      refine lv_lconst (v := 1) hx hb dX5_bits_45 (by decide) ?_
      refine lv_ladd hx hb dX5_bits_46 ?_
      refine lv_lstore (lv' := [(10, .long (lv + 1)), (8, .double (FP.ddiv yy (4611686018427387904))), (0, .double x), (2, .long fr), (4, .long ex), (6, .long sg)]) hx hb dX5_bits_47 hl (by decide) rfl (fun ls hl => ?_)
      refine lv_goto (tgt := 26) hx hb dX5_bits_49 (by decide) ?_
      exact ih26 (i + 1) _ _ _ (by omega) ⟨FP.ddiv yy (4611686018427387904), lv + 1, zLp_cast (zLp_half hy (by omega)) (by omega), Or.inr (by omega), (congrArg (· + 1) hlv).trans (zI64s _ i), hS, lv_sub hl [2, 3, 4, 5, 1, 0] rfl⟩
  · have hsb : sb = true := zsg_t (zsg64 hxv (by omega)) c_11
    subst hsb
    refine lv_dload_n hx hb dX5_bits_14 rfl (lv_at hl 0 rfl) ?_
    refine lv_dneg hx hb dX5_bits_15 ?_
    refine lv_goto (tgt := 20) hx hb dX5_bits_16 (by decide) ?_
    refine lv_dstore (lv' := [(8, .double (FP.dneg x)), (0, .double x), (2, .long fr), (4, .long ex), (6, .long sg)]) hx hb dX5_bits_20 hl (by decide) rfl (fun ls hl => ?_)
    refine lv_lload hx hb dX5_bits_22 (lv_at hl 3 rfl) ?_
    refine lv_lstore (lv' := [(10, .long ex), (8, .double (FP.dneg x)), (0, .double x), (2, .long fr), (4, .long ex), (6, .long sg)]) hx hb dX5_bits_24 hl (by decide) rfl (fun ls hl => ?_)
    refine zloop (fun i : Nat => 200 - i) (fun i H locs ls => ∃ yy : UInt64, ∃ lv : Int64, zLp yy c9 (q - i) ∧ (i = 0 ∨ -52 ≤ q - i) ∧ lv = ex + Int64.ofNat i ∧ va_S (fun _ => False) s.heap H locs ∧ lv_has ls 12 [(0, .double x), (2, .long fr), (4, .long ex), (6, .long sg), (8, .double yy), (10, .long lv)]) 26 (fun _ => 0) (fun _ => 0) ?_ (0) ⟨FP.dneg x, ex, zLp_cast (zLp_neg hxv hc1 hc2 hq1 hq2) (by omega), Or.inl rfl, (Int64.add_zero _).symm, hS, lv_sub hl [2, 3, 4, 5, 1, 0] rfl⟩
    clear hl hS
    rintro i H locs ls ⟨yy, lv, hy, hi, hlv, hS, hl⟩ ih26
    refine lv_dload hx hb dX5_bits_26 (lv_at hl 4 rfl) ?_
    refine lv_ldc2d hx hb hown (htg _ tw_564) dX5_bits_28 ?_
    refine lv_dcmp hx hb dX5_bits_31 ?_
    refine lv_if_lt (tgt := 52) hx hb dX5_bits_32 (by decide) (fun c_32 => ?_) (fun c_32 => ?_)
    · replace c_32 : q - i ≤ -52 := (zLp_2 hy).mp c_32
      refine zloop (fun j : Nat => 200 - j) (fun j H locs ls => ∃ zz : UInt64, ∃ lv : Int64, zLp zz c9 (q - i + j) ∧ q - i + j ≤ -52 ∧ lv = ex + Int64.ofNat i - Int64.ofNat j ∧ va_S (fun _ => False) s.heap H locs ∧ lv_has ls 12 [(0, .double x), (2, .long fr), (4, .long ex), (6, .long sg), (8, .double zz), (10, .long lv)]) 52 (fun _ => 0) (fun _ => 0) ?_ (0) ⟨yy, lv, zLp_cast hy (by omega), by omega, hlv.trans (Int64.sub_zero _).symm, hS, lv_sub hl [0, 1, 2, 3, 4, 5] rfl⟩
      clear hl hS
      rintro j H locs ls ⟨zz, lv, hz, hj, hv9, hS, hl⟩ ih52
      refine lv_dload hx hb dX5_bits_52 (lv_at hl 4 rfl) ?_
      refine lv_dconst1 hx hb dX5_bits_54 ?_
      refine lv_dcmp hx hb dX5_bits_55 ?_
      refine lv_if_ge (tgt := 76) hx hb dX5_bits_56 (by decide) (fun c_56 => ?_) (fun c_56 => ?_)
      · replace c_56 : ¬ (q - i + j ≤ -53) := fun h => absurd ((zLp_1 hz).mpr h) (Int32.not_lt.mpr c_56)
        refine lv_lload hx hb dX5_bits_76 (lv_at hl 5 rfl) ?_
        refine lv_lload_n hx hb dX5_bits_78 rfl (lv_at hl 1 rfl) ?_
        refine lv_lmul hx hb dX5_bits_79 ?_
        refine lv_dload hx hb dX5_bits_80 (lv_at hl 4 rfl) ?_
        refine lv_dconst1 hx hb dX5_bits_82 ?_
        refine lv_dsub hx hb dX5_bits_83 (znn_s hz) ?_
        refine lv_lload_n hx hb dX5_bits_84 rfl (lv_at hl 1 rfl) ?_
        refine lv_l2d hx hb dX5_bits_85 ?_
        refine lv_dmul hx hb dX5_bits_86 (znn_m hz hfr) ?_
        refine lv_d2l hx hb dX5_bits_87 ?_
        refine lv_ladd hx hb dX5_bits_88 ?_
        refine lv_dload_n hx hb dX5_bits_89 rfl (lv_at hl 0 rfl) ?_
        refine lv_dconst0 hx hb dX5_bits_90 ?_
        refine lv_dcmp hx hb dX5_bits_91 ?_
        refine lv_if_ge (tgt := 100) hx hb dX5_bits_92 (by decide) (fun c_92 => absurd c_92 (c_11)) (fun _ => ?_)
        refine lv_lload hx hb dX5_bits_95 (lv_at hl 3 rfl) ?_
        refine lv_goto (tgt := 101) hx hb dX5_bits_97 (by decide) ?_
        refine lv_ladd hx hb dX5_bits_101 ?_
        exact W.lret (v := (((lv * fr) + (FP.d2l (FP.dmul (FP.dsub zz FP.dconst1) (FP.l2d fr)))) + sg)) hx hb hr (fun t ht hW => ⟨⟨((lv * fr) + (FP.d2l (FP.dmul (FP.dsub zz FP.dconst1) (FP.l2d fr)))) + sg, (), rfl, (congrArg (· + _) (zBm_eq hz (by omega) hv9)).trans (zBits_n hxv (by omega)).symm, trivial⟩, hS.F ht⟩) hS.2.2 dX5_bits_102
      · replace c_56 : q - i + j ≤ -53 := (zLp_1 hz).mp (Int32.not_le.mp c_56)
        refine lv_dload hx hb dX5_bits_59 (lv_at hl 4 rfl) ?_
        refine lv_ldc2d hx hb hown (htg _ tw_564) dX5_bits_61 ?_
        refine lv_dmul hx hb dX5_bits_64 (zLp_nand hz (by omega)) ?_
        refine lv_dstore (lv' := [(8, .double (FP.dmul zz (4611686018427387904))), (0, .double x), (2, .long fr), (4, .long ex), (6, .long sg), (10, .long lv)]) hx hb dX5_bits_65 hl (by decide) rfl (fun ls hl => ?_)
        refine lv_lload hx hb dX5_bits_67 (lv_at hl 5 rfl) ?_
        refine lv_lconst (v := 1) hx hb dX5_bits_69 (by decide) ?_
        refine lv_lsub hx hb dX5_bits_70 ?_
        refine lv_lstore (lv' := [(10, .long (lv - 1)), (8, .double (FP.dmul zz (4611686018427387904))), (0, .double x), (2, .long fr), (4, .long ex), (6, .long sg)]) hx hb dX5_bits_71 hl (by decide) rfl (fun ls hl => ?_)
        refine lv_goto (tgt := 52) hx hb dX5_bits_73 (by decide) ?_
        exact ih52 (j + 1) _ _ _ (by omega) ⟨FP.dmul zz (4611686018427387904), lv - 1, zLp_cast (zLp_dbl hz (by omega)) (by omega), by omega, (congrArg (· - 1) hv9).trans (zI64d _ j), hS, lv_sub hl [2, 3, 4, 5, 1, 0] rfl⟩
    · replace c_32 : ¬ (q - i ≤ -52) := fun h => c_32 ((zLp_2 hy).mpr h)
      refine lv_dload hx hb dX5_bits_35 (lv_at hl 4 rfl) ?_
      refine lv_ldc2d hx hb hown (htg _ tw_564) dX5_bits_37 ?_
      refine lv_ddiv hx hb dX5_bits_40 (zLp_nanh hy (by omega)) ?_
      refine lv_dstore (lv' := [(8, .double (FP.ddiv yy (4611686018427387904))), (0, .double x), (2, .long fr), (4, .long ex), (6, .long sg), (10, .long lv)]) hx hb dX5_bits_41 hl (by decide) rfl (fun ls hl => ?_)
      refine lv_lload hx hb dX5_bits_43 (lv_at hl 5 rfl) ?_
      refine lv_lconst (v := 1) hx hb dX5_bits_45 (by decide) ?_
      refine lv_ladd hx hb dX5_bits_46 ?_
      refine lv_lstore (lv' := [(10, .long (lv + 1)), (8, .double (FP.ddiv yy (4611686018427387904))), (0, .double x), (2, .long fr), (4, .long ex), (6, .long sg)]) hx hb dX5_bits_47 hl (by decide) rfl (fun ls hl => ?_)
      refine lv_goto (tgt := 26) hx hb dX5_bits_49 (by decide) ?_
      exact ih26 (i + 1) _ _ _ (by omega) ⟨FP.ddiv yy (4611686018427387904), lv + 1, zLp_cast (zLp_half hy (by omega)) (by omega), Or.inr (by omega), (congrArg (· + 1) hlv).trans (zI64s _ i), hS, lv_sub hl [2, 3, 4, 5, 1, 0] rfl⟩

set_option maxHeartbeats 4000000 in
set_option maxRecDepth 100000 in
theorem mX5_bits_z (l : Launch) (x : UInt64) (fr : Int64) (ex : Int64) (sg : Int64) (hz0 : FP.Core.DZero x) : Met l yX5_bits (ws_ yX5_bits cX5_bits 12 (some .long)) ({ frames := 0, cells := 0, slots := 0, locals := 0 }) (va_Pc [.double x, .long fr, .long ex, .long sg] (fun _ => True)) (va_Ql (fun (r : Int64) (_ : Unit) => r = zBits x fr ex sg) (fun _ _ => True) (fun _ => False)) 0 0 (fun _ => False) := by
  refine Met.ofW (cc := cX5_bits) (maxL := 12) (ret := (some .long)) (by decide) rfl ?_
  intro p e s m args below meth c s₁ B hml hpre9
  obtain ⟨rfl, -⟩ := hpre9
  have hx := B.exec
  have hb := B.bytes
  have hr := B.returns
  have hts := atoms_spec (ws := (ws_ yX5_bits cX5_bits 12 (some .long))) B.pre
  have htg : ∀ w ∈ gT, w.before _ s = true := fun w h => hts w (List.mem_cons_of_mem _ h)
  have hown : s.vm.findClass RX5 = some m.cls := findClass_of_methodNamed B.named
  have hlocks := B.notSynchronized
  have hS : va_S (fun _ => False) s.heap s.heap [] := va_S.rf
  have hl := lv_entry ([.double x, .long fr, .long ex, .long sg]) (n := 12) (Nat.le_of_ble_eq_true rfl)
  rw [lg_entry_eq]
  generalize (lg_sl ([.double x, .long fr, .long ex, .long sg]) ++ List.replicate (12 - (lg_sl ([.double x, .long fr, .long ex, .long sg])).length) Slot.unset).toArray = ls at hl ⊢
  have hl : lv_has ls 12 [(0, .double x), (2, .long fr), (4, .long ex), (6, .long sg)] := hl
  refine lv_dload_n hx hb dX5_bits_0 rfl (lv_at hl 0 rfl) ?_
  refine lv_dconst0 hx hb dX5_bits_1 ?_
  refine lv_dcmp hx hb dX5_bits_2 ?_
  refine lv_if_ne (tgt := 8) hx hb dX5_bits_3 (by decide) (fun c_3 => absurd ((zsg_z (zzero64 hz0)).1) c_3) (fun _ => ?_)
  refine lv_lconst (v := 0) hx hb dX5_bits_6 (by decide) ?_
  exact W.lret (v := 0) hx hb hr (fun t ht hW => ⟨⟨0, (), rfl, (zBits_0 hz0).symm, trivial⟩, hS.F ht⟩) hS.2.2 dX5_bits_7

theorem mX5_bits (l : Launch) (x : UInt64) (fr : Int64) (ex : Int64) (sg : Int64) (hfr : fr ≠ 0) (hd0 : zDig x) : Met l yX5_bits (ws_ yX5_bits cX5_bits 12 (some .long)) ({ frames := 0, cells := 0, slots := 0, locals := 0 }) (va_Pc [.double x, .long fr, .long ex, .long sg] (fun _ => True)) (va_Ql (fun (r : Int64) (_ : Unit) => r = zBits x fr ex sg) (fun _ _ => True) (fun _ => False)) 0 0 (fun _ => False) := by
  rcases hd0 with hz0 | ⟨sb, c9, q, hxv, hc1, hc2, hq1, hq2⟩
  · exact mX5_bits_z l x fr ex sg hz0
  · rw [ztt] at hc1; rw [zpp] at hc2
    exact mX5_bits_n l x sb c9 q fr ex sg hxv hc1 hc2 hq1 hq2 hfr
set_option maxHeartbeats 4000000 in
set_option maxRecDepth 100000 in
theorem mX5_doubleBits (l : Launch) (x : UInt64) (hd0 : zDig x) : Met l yX5_doubleBits (ws_ yX5_doubleBits cX5_doubleBits 2 (some .long)) ({ frames := 1, cells := 0, slots := 0, locals := 31 }) (va_Pc [.double x] (fun _ => True)) (va_Ql (fun (r : Int64) (_ : Unit) => r = zBits x 4503599627370496 1023 (-9223372036854775808)) (fun _ _ => True) (fun _ => False)) 0 0 (fun _ => False) := by
  refine Met.ofW (cc := cX5_doubleBits) (maxL := 2) (ret := (some .long)) (by decide) rfl ?_
  intro p e s m args below meth c s₁ B hml hpre9
  obtain ⟨rfl, -⟩ := hpre9
  have hx := B.exec
  have hb := B.bytes
  have hr := B.returns
  have hts := atoms_spec (ws := (ws_ yX5_doubleBits cX5_doubleBits 2 (some .long))) B.pre
  have htg : ∀ w ∈ gT, w.before _ s = true := fun w h => hts w (List.mem_cons_of_mem _ h)
  have hown : s.vm.findClass RX5 = some m.cls := findClass_of_methodNamed B.named
  have hlocks := B.notSynchronized
  have hS : va_S (fun _ => False) s.heap s.heap [] := va_S.rf
  have hl := lv_entry ([.double x]) (n := 2) (Nat.le_of_ble_eq_true rfl)
  rw [lg_entry_eq]
  generalize (lg_sl ([.double x]) ++ List.replicate (2 - (lg_sl ([.double x])).length) Slot.unset).toArray = ls at hl ⊢
  have hl : lv_has ls 2 [(0, .double x)] := hl
  refine lv_dload_n hx hb dX5_doubleBits_0 rfl (lv_at hl 0 rfl) ?_
  refine lv_ldc2 hx hb hown (htg _ tw_566) dX5_doubleBits_1 ?_
  refine lv_ldc2 hx hb hown (htg _ tw_567) dX5_doubleBits_4 ?_
  refine lv_ldc2 hx hb hown (htg _ tw_568) dX5_doubleBits_7 ?_
  refine zr_calll (va_runS (As := [.double x, .long (4503599627370496), .long (1023), .long (-9223372036854775808)]) (rest := []) ⟨hx, hb, hml, hown, hts⟩ (mX5_bits l x (4503599627370496) (1023) (-9223372036854775808) (by decide) (by first | assumption | rfl | omega | decide)) (va_cwS 4 hts (zgS tw_569 tw_570 tw_369 tw_563) rfl rfl rfl (by decide +kernel) ⟨Nat.le_of_ble_eq_true rfl, Nat.le_of_ble_eq_true rfl⟩) zP_pre rfl rfl hl.1 rfl (lv_room (Nat.le_of_ble_eq_true rfl)) dX5_doubleBits_10 ⟨Nat.zero_le _, Nat.zero_le _⟩) hS (fun r_1 H locs hw_10 hT hS => ?_)
  obtain rfl : r_1 = zBits x (4503599627370496) (1023) (-9223372036854775808) := hw_10
  exact W.lret (v := (zBits x (4503599627370496) (1023) (-9223372036854775808))) hx hb hr (fun t ht hW => ⟨⟨zBits x (4503599627370496) (1023) (-9223372036854775808), (), rfl, by first | rfl | trivial | simp_all, trivial⟩, hS.F ht⟩) hS.2.2 dX5_doubleBits_13

set_option maxHeartbeats 4000000 in
set_option maxRecDepth 100000 in
theorem mX4_bitsOfMagnitude_n (l : Launch) (mm : UInt64) (c9 : Nat) (q : Int) (fr : Int64) (ex : Int32) (w9 : Int32) (hy0 : zLp mm c9 q) (hq1 : -130 ≤ q) (hq2 : q ≤ 30) (hw : ∀ a : Int64, a <<< ((w9 : Int32).toInt64 &&& 63) = a * fr) (hfr : fr ≠ 0) : Met l yX4_bitsOfMagnitude (ws_ yX4_bitsOfMagnitude cX4_bitsOfMagnitude 9 (some .long)) ({ frames := 0, cells := 0, slots := 0, locals := 0 }) (va_Pc [.double mm, .int ex, .int w9] (fun _ => True)) (va_Ql (fun (r : Int64) (_ : Unit) => r = zBm c9 q fr ((ex : Int32).toInt64)) (fun _ _ => True) (fun _ => False)) 0 0 (fun _ => False) := by
  refine Met.ofW (cc := cX4_bitsOfMagnitude) (maxL := 9) (ret := (some .long)) (by decide) rfl ?_
  intro p e s m args below meth c s₁ B hml hpre9
  obtain ⟨rfl, -⟩ := hpre9
  have hx := B.exec
  have hb := B.bytes
  have hr := B.returns
  have hts := atoms_spec (ws := (ws_ yX4_bitsOfMagnitude cX4_bitsOfMagnitude 9 (some .long))) B.pre
  have htg : ∀ w ∈ gT, w.before _ s = true := fun w h => hts w (List.mem_cons_of_mem _ h)
  have hown : s.vm.findClass RX4 = some m.cls := findClass_of_methodNamed B.named
  have hlocks := B.notSynchronized
  have hS : va_S (fun _ => False) s.heap s.heap [] := va_S.rf
  have hl := lv_entry ([.double mm, .int ex, .int w9]) (n := 9) (Nat.le_of_ble_eq_true rfl)
  rw [lg_entry_eq]
  generalize (lg_sl ([.double mm, .int ex, .int w9]) ++ List.replicate (9 - (lg_sl ([.double mm, .int ex, .int w9])).length) Slot.unset).toArray = ls at hl ⊢
  have hl : lv_has ls 9 [(0, .double mm), (2, .int ex), (3, .int w9)] := hl
  refine lv_dload_n hx hb dX4_bitsOfMagnitude_0 rfl (lv_at hl 0 rfl) ?_
  refine lv_dconst0 hx hb dX4_bitsOfMagnitude_1 ?_
  refine lv_dcmp hx hb dX4_bitsOfMagnitude_2 ?_
  refine lv_if_gt (tgt := 8) hx hb dX4_bitsOfMagnitude_3 (by decide) (fun _ => ?_) (fun c_3 => absurd (zsg_g (zLp_gt hy0)) c_3)
  refine lv_dload_n hx hb dX4_bitsOfMagnitude_8 rfl (lv_at hl 0 rfl) ?_
  refine lv_dstore (lv' := [(4, .double mm), (0, .double mm), (2, .int ex), (3, .int w9)]) hx hb dX4_bitsOfMagnitude_9 hl (by decide) rfl (fun ls hl => ?_)
  refine lv_iload_n hx hb dX4_bitsOfMagnitude_11 rfl (lv_at hl 2 rfl) ?_
  refine lv_i2l (v := ex.toInt64) hx hb dX4_bitsOfMagnitude_12 rfl ?_
  refine lv_lstore (lv' := [(6, .long ex.toInt64), (4, .double mm), (0, .double mm), (2, .int ex), (3, .int w9)]) hx hb dX4_bitsOfMagnitude_13 hl (by decide) rfl (fun ls hl => ?_)
  refine lv_iconst (v := 0) hx hb dX4_bitsOfMagnitude_15 (by decide) ?_
  refine lv_istore (lv' := [(8, .int 0), (6, .long ex.toInt64), (4, .double mm), (0, .double mm), (2, .int ex), (3, .int w9)]) hx hb dX4_bitsOfMagnitude_16 hl (by decide) rfl (fun ls hl => ?_)
  refine zloop (fun i : Nat => 200 - i) (fun i H locs ls => ∃ yy : UInt64, ∃ lv : Int64, zLp yy c9 (q - i) ∧ (i = 0 ∨ -52 ≤ q - i) ∧ lv = ex.toInt64 + Int64.ofNat i ∧ i ≤ 100 ∧ va_S (fun _ => False) s.heap H locs ∧ lv_has ls 9 [(0, .double mm), (2, .int ex), (3, .int w9), (4, .double yy), (6, .long lv), (8, .int (nI i))]) 18 (fun _ => 0) (fun _ => 0) ?_ (0) ⟨mm, ex.toInt64, zLp_cast (hy0) (by omega), Or.inl rfl, (Int64.add_zero _).symm, by omega, hS, lv_sub hl [3, 4, 5, 2, 1, 0] rfl⟩
  clear hl hS
  rintro i H locs ls ⟨yy, lv, hy, hi, hlv, hib, hS, hl⟩ ih18
  refine lv_iload hx hb dX4_bitsOfMagnitude_18 (lv_at hl 5 rfl) ?_
  refine lv_bipush (v := 100) hx hb dX4_bitsOfMagnitude_20 (by decide) ?_
  refine lv_icmp_ge (tgt := 54) hx hb dX4_bitsOfMagnitude_22 (by decide) (fun c_22 => ?_) (fun c_22 => ?_)
  · replace c_22 : 100 ≤ i := (nI_leI (a := 100) (b := i) (by omega) (by omega)).mp c_22
    exfalso; omega
  · replace c_22 : ¬ 100 ≤ i := fun h => c_22 ((nI_leI (a := 100) (b := i) (by omega) (by omega)).mpr h)
    refine lv_dload hx hb dX4_bitsOfMagnitude_25 (lv_at hl 3 rfl) ?_
    refine lv_ldc2d hx hb hown (htg _ tw_336) dX4_bitsOfMagnitude_27 ?_
    refine lv_dcmp hx hb dX4_bitsOfMagnitude_30 ?_
    refine lv_if_lt (tgt := 54) hx hb dX4_bitsOfMagnitude_31 (by decide) (fun c_31 => ?_) (fun c_31 => ?_)
    · replace c_31 : q - i ≤ -52 := (zLp_2 hy).mp c_31
      refine lv_iconst (v := 0) hx hb dX4_bitsOfMagnitude_54 (by decide) ?_
      refine lv_istore (lv' := [(8, .int 0), (0, .double mm), (2, .int ex), (3, .int w9), (4, .double yy), (6, .long lv)]) hx hb dX4_bitsOfMagnitude_55 hl (by decide) rfl (fun ls hl => ?_)
      refine zloop (fun j : Nat => 200 - j) (fun j H locs ls => ∃ zz : UInt64, ∃ lv : Int64, zLp zz c9 (q - i + j) ∧ q - i + j ≤ -52 ∧ lv = ex.toInt64 + Int64.ofNat i - Int64.ofNat j ∧ j ≤ 100 ∧ va_S (fun _ => False) s.heap H locs ∧ lv_has ls 9 [(0, .double mm), (2, .int ex), (3, .int w9), (4, .double zz), (6, .long lv), (8, .int (nI j))]) 57 (fun _ => 0) (fun _ => 0) ?_ (0) ⟨yy, lv, zLp_cast hy (by omega), by omega, hlv.trans (Int64.sub_zero _).symm, by omega, hS, lv_sub hl [1, 2, 3, 4, 5, 0] rfl⟩
      clear hl hS
      rintro j H locs ls ⟨zz, lv, hz, hj, hv9, hjb, hS, hl⟩ ih57
      refine lv_iload hx hb dX4_bitsOfMagnitude_57 (lv_at hl 5 rfl) ?_
      refine lv_bipush (v := 100) hx hb dX4_bitsOfMagnitude_59 (by decide) ?_
      refine lv_icmp_ge (tgt := 91) hx hb dX4_bitsOfMagnitude_61 (by decide) (fun c_61 => ?_) (fun c_61 => ?_)
      · replace c_61 : 100 ≤ j := (nI_leI (a := 100) (b := j) (by omega) (by omega)).mp c_61
        exfalso; omega
      · replace c_61 : ¬ 100 ≤ j := fun h => c_61 ((nI_leI (a := 100) (b := j) (by omega) (by omega)).mpr h)
        refine lv_dload hx hb dX4_bitsOfMagnitude_64 (lv_at hl 3 rfl) ?_
        refine lv_dconst1 hx hb dX4_bitsOfMagnitude_66 ?_
        refine lv_dcmp hx hb dX4_bitsOfMagnitude_67 ?_
        refine lv_if_ge (tgt := 91) hx hb dX4_bitsOfMagnitude_68 (by decide) (fun c_68 => ?_) (fun c_68 => ?_)
        · replace c_68 : ¬ (q - i + j ≤ -53) := fun h => absurd ((zLp_1 hz).mpr h) (Int32.not_lt.mpr c_68)
          refine lv_lload hx hb dX4_bitsOfMagnitude_91 (lv_at hl 4 rfl) ?_
          refine lv_iload_n hx hb dX4_bitsOfMagnitude_93 rfl (lv_at hl 2 rfl) ?_
          refine lv_lshl (v := lv <<< (w9.toInt64 &&& 63)) hx hb dX4_bitsOfMagnitude_94 rfl ?_
          refine zz_topl (y := lv * fr) (hw lv) ?_
          refine lv_dload hx hb dX4_bitsOfMagnitude_95 (lv_at hl 3 rfl) ?_
          refine lv_dconst1 hx hb dX4_bitsOfMagnitude_97 ?_
          refine lv_dsub hx hb dX4_bitsOfMagnitude_98 (znn_s hz) ?_
          refine lv_lconst (v := 1) hx hb dX4_bitsOfMagnitude_99 (by decide) ?_
          refine lv_iload_n hx hb dX4_bitsOfMagnitude_100 rfl (lv_at hl 2 rfl) ?_
          refine lv_lshl (v := 1 <<< (w9.toInt64 &&& 63)) hx hb dX4_bitsOfMagnitude_101 rfl ?_
          refine zz_topl (y := fr) ((hw 1).trans (Int64.one_mul fr)) ?_
          refine lv_l2d hx hb dX4_bitsOfMagnitude_102 ?_
          refine lv_dmul hx hb dX4_bitsOfMagnitude_103 (znn_m hz hfr) ?_
          refine lv_d2l hx hb dX4_bitsOfMagnitude_104 ?_
          refine lv_ladd hx hb dX4_bitsOfMagnitude_105 ?_
          exact W.lret (v := ((lv * fr) + (FP.d2l (FP.dmul (FP.dsub zz FP.dconst1) (FP.l2d fr))))) hx hb hr (fun t ht hW => ⟨⟨(lv * fr) + (FP.d2l (FP.dmul (FP.dsub zz FP.dconst1) (FP.l2d fr))), (), rfl, zBm_eq hz (by omega) hv9, trivial⟩, hS.F ht⟩) hS.2.2 dX4_bitsOfMagnitude_106
        · replace c_68 : q - i + j ≤ -53 := (zLp_1 hz).mp (Int32.not_le.mp c_68)
          refine lv_dload hx hb dX4_bitsOfMagnitude_71 (lv_at hl 3 rfl) ?_
          refine lv_ldc2d hx hb hown (htg _ tw_336) dX4_bitsOfMagnitude_73 ?_
          refine lv_dmul hx hb dX4_bitsOfMagnitude_76 (zLp_nand hz (by omega)) ?_
          refine lv_dstore (lv' := [(4, .double (FP.dmul zz (4611686018427387904))), (0, .double mm), (2, .int ex), (3, .int w9), (6, .long lv), (8, .int (nI j))]) hx hb dX4_bitsOfMagnitude_77 hl (by decide) rfl (fun ls hl => ?_)
          refine lv_lload hx hb dX4_bitsOfMagnitude_79 (lv_at hl 4 rfl) ?_
          refine lv_lconst (v := 1) hx hb dX4_bitsOfMagnitude_81 (by decide) ?_
          refine lv_lsub hx hb dX4_bitsOfMagnitude_82 ?_
          refine lv_lstore (lv' := [(6, .long (lv - 1)), (4, .double (FP.dmul zz (4611686018427387904))), (0, .double mm), (2, .int ex), (3, .int w9), (8, .int (nI j))]) hx hb dX4_bitsOfMagnitude_83 hl (by decide) rfl (fun ls hl => ?_)
          refine lv_iinc (v := nI (j + 1)) (lv' := [(8, .int (nI (j + 1))), (6, .long (lv - 1)), (4, .double (FP.dmul zz (4611686018427387904))), (0, .double mm), (2, .int ex), (3, .int w9)]) hx hb dX4_bitsOfMagnitude_85 hl (k := 5) rfl (nI_1 j) (by decide) rfl (fun ls hl => ?_)
          refine lv_goto (tgt := 57) hx hb dX4_bitsOfMagnitude_88 (by decide) ?_
          exact ih57 (j + 1) _ _ _ (by omega) ⟨FP.dmul zz (4611686018427387904), lv - 1, zLp_cast (zLp_dbl hz (by omega)) (by omega), by omega, (congrArg (· - 1) hv9).trans (zI64d _ j), by omega, hS, lv_sub hl [3, 4, 5, 2, 1, 0] rfl⟩
    · replace c_31 : ¬ (q - i ≤ -52) := fun h => c_31 ((zLp_2 hy).mpr h)
      refine lv_dload hx hb dX4_bitsOfMagnitude_34 (lv_at hl 3 rfl) ?_
      refine lv_ldc2d hx hb hown (htg _ tw_336) dX4_bitsOfMagnitude_36 ?_
      refine lv_ddiv hx hb dX4_bitsOfMagnitude_39 (zLp_nanh hy (by omega)) ?_
      refine lv_dstore (lv' := [(4, .double (FP.ddiv yy (4611686018427387904))), (0, .double mm), (2, .int ex), (3, .int w9), (6, .long lv), (8, .int (nI i))]) hx hb dX4_bitsOfMagnitude_40 hl (by decide) rfl (fun ls hl => ?_)
      refine lv_lload hx hb dX4_bitsOfMagnitude_42 (lv_at hl 4 rfl) ?_
      refine lv_lconst (v := 1) hx hb dX4_bitsOfMagnitude_44 (by decide) ?_
      refine lv_ladd hx hb dX4_bitsOfMagnitude_45 ?_
      refine lv_lstore (lv' := [(6, .long (lv + 1)), (4, .double (FP.ddiv yy (4611686018427387904))), (0, .double mm), (2, .int ex), (3, .int w9), (8, .int (nI i))]) hx hb dX4_bitsOfMagnitude_46 hl (by decide) rfl (fun ls hl => ?_)
      refine lv_iinc (v := nI (i + 1)) (lv' := [(8, .int (nI (i + 1))), (6, .long (lv + 1)), (4, .double (FP.ddiv yy (4611686018427387904))), (0, .double mm), (2, .int ex), (3, .int w9)]) hx hb dX4_bitsOfMagnitude_48 hl (k := 5) rfl (nI_1 i) (by decide) rfl (fun ls hl => ?_)
      refine lv_goto (tgt := 18) hx hb dX4_bitsOfMagnitude_51 (by decide) ?_
      exact ih18 (i + 1) _ _ _ (by omega) ⟨FP.ddiv yy (4611686018427387904), lv + 1, zLp_cast (zLp_half hy (by omega)) (by omega), Or.inr (by omega), (congrArg (· + 1) hlv).trans (zI64s _ i), by omega, hS, lv_sub hl [3, 4, 5, 2, 1, 0] rfl⟩

set_option maxHeartbeats 4000000 in
set_option maxRecDepth 100000 in
theorem mX4_bitsOfMagnitude_z (l : Launch) (mm : UInt64) (ex : Int32) (w9 : Int32) (hz0 : FP.Core.DZero mm) : Met l yX4_bitsOfMagnitude (ws_ yX4_bitsOfMagnitude cX4_bitsOfMagnitude 9 (some .long)) ({ frames := 0, cells := 0, slots := 0, locals := 0 }) (va_Pc [.double mm, .int ex, .int w9] (fun _ => True)) (va_Ql (fun (r : Int64) (_ : Unit) => r = 0) (fun _ _ => True) (fun _ => False)) 0 0 (fun _ => False) := by
  refine Met.ofW (cc := cX4_bitsOfMagnitude) (maxL := 9) (ret := (some .long)) (by decide) rfl ?_
  intro p e s m args below meth c s₁ B hml hpre9
  obtain ⟨rfl, -⟩ := hpre9
  have hx := B.exec
  have hb := B.bytes
  have hr := B.returns
  have hts := atoms_spec (ws := (ws_ yX4_bitsOfMagnitude cX4_bitsOfMagnitude 9 (some .long))) B.pre
  have htg : ∀ w ∈ gT, w.before _ s = true := fun w h => hts w (List.mem_cons_of_mem _ h)
  have hown : s.vm.findClass RX4 = some m.cls := findClass_of_methodNamed B.named
  have hlocks := B.notSynchronized
  have hS : va_S (fun _ => False) s.heap s.heap [] := va_S.rf
  have hl := lv_entry ([.double mm, .int ex, .int w9]) (n := 9) (Nat.le_of_ble_eq_true rfl)
  rw [lg_entry_eq]
  generalize (lg_sl ([.double mm, .int ex, .int w9]) ++ List.replicate (9 - (lg_sl ([.double mm, .int ex, .int w9])).length) Slot.unset).toArray = ls at hl ⊢
  have hl : lv_has ls 9 [(0, .double mm), (2, .int ex), (3, .int w9)] := hl
  refine lv_dload_n hx hb dX4_bitsOfMagnitude_0 rfl (lv_at hl 0 rfl) ?_
  refine lv_dconst0 hx hb dX4_bitsOfMagnitude_1 ?_
  refine lv_dcmp hx hb dX4_bitsOfMagnitude_2 ?_
  refine lv_if_gt (tgt := 8) hx hb dX4_bitsOfMagnitude_3 (by decide) (fun c_3 => absurd c_3 ((zsg_z (zzero64 hz0)).2.1)) (fun _ => ?_)
  refine lv_lconst (v := 0) hx hb dX4_bitsOfMagnitude_6 (by decide) ?_
  exact W.lret (v := 0) hx hb hr (fun t ht hW => ⟨⟨0, (), rfl, rfl, trivial⟩, hS.F ht⟩) hS.2.2 dX4_bitsOfMagnitude_7

set_option maxHeartbeats 4000000 in
set_option maxRecDepth 100000 in
theorem mX4_bitsOfDouble_n (l : Launch) (x : UInt64) (sb : Bool) (c9 : Nat) (q : Int) (hxv : FP.Core.val64 x = .fin sb c9 q) (hc1 : 4503599627370496 ≤ c9) (hc2 : c9 < 9007199254740992) (hq1 : -130 ≤ q) (hq2 : q ≤ 30) : Met l yX4_bitsOfDouble (ws_ yX4_bitsOfDouble cX4_bitsOfDouble 2 (some .long)) ({ frames := 1, cells := 0, slots := 0, locals := 28 }) (va_Pc [.double x] (fun _ => True)) (va_Ql (fun (r : Int64) (_ : Unit) => r = zBits x 4503599627370496 1023 (-9223372036854775808)) (fun _ _ => True) (fun _ => False)) 0 0 (fun _ => False) := by
  refine Met.ofW (cc := cX4_bitsOfDouble) (maxL := 2) (ret := (some .long)) (by decide) rfl ?_
  intro p e s m args below meth c s₁ B hml hpre9
  obtain ⟨rfl, -⟩ := hpre9
  have hx := B.exec
  have hb := B.bytes
  have hr := B.returns
  have hts := atoms_spec (ws := (ws_ yX4_bitsOfDouble cX4_bitsOfDouble 2 (some .long))) B.pre
  have htg : ∀ w ∈ gT, w.before _ s = true := fun w h => hts w (List.mem_cons_of_mem _ h)
  have hown : s.vm.findClass RX4 = some m.cls := findClass_of_methodNamed B.named
  have hlocks := B.notSynchronized
  have hS : va_S (fun _ => False) s.heap s.heap [] := va_S.rf
  have hl := lv_entry ([.double x]) (n := 2) (Nat.le_of_ble_eq_true rfl)
  rw [lg_entry_eq]
  generalize (lg_sl ([.double x]) ++ List.replicate (2 - (lg_sl ([.double x])).length) Slot.unset).toArray = ls at hl ⊢
  have hl : lv_has ls 2 [(0, .double x)] := hl
  refine lv_dload_n hx hb dX4_bitsOfDouble_0 rfl (lv_at hl 0 rfl) ?_
  refine lv_dconst0 hx hb dX4_bitsOfDouble_1 ?_
  refine lv_dcmp hx hb dX4_bitsOfDouble_2 ?_
  refine lv_if_ge (tgt := 21) hx hb dX4_bitsOfDouble_3 (by decide) (fun c_3 => ?_) (fun c_3 => ?_)
  · have hsb : sb = false := zsg_f (zsg64 hxv (by omega)) c_3
    subst hsb
    refine lv_dload_n hx hb dX4_bitsOfDouble_21 rfl (lv_at hl 0 rfl) ?_
    refine lv_sipush (v := 1023) hx hb dX4_bitsOfDouble_22 (by decide) ?_
    refine lv_bipush (v := 52) hx hb dX4_bitsOfDouble_25 (by decide) ?_
    refine zr_calll (va_runS (As := [.double x, .int 1023, .int 52]) (rest := []) ⟨hx, hb, hml, hown, hts⟩ (mX4_bitsOfMagnitude_n l x c9 q 4503599627370496 1023 52 (zLp_pos hxv hc1 hc2 hq1 hq2) (by first | assumption | rfl | omega | decide) (by first | assumption | rfl | omega | decide) (zshl52) (by decide)) (va_cwS 3 hts (zgS tw_333 tw_334 tw_23 tw_335) rfl rfl rfl (by decide +kernel) ⟨Nat.le_of_ble_eq_true rfl, Nat.le_of_ble_eq_true rfl⟩) zP_pre rfl rfl hl.1 rfl (lv_room (Nat.le_of_ble_eq_true rfl)) dX4_bitsOfDouble_27 ⟨Nat.zero_le _, Nat.zero_le _⟩) hS (fun r_1 H locs hw_27 hT hS => ?_)
    obtain rfl : r_1 = zBm c9 q 4503599627370496 ((1023 : Int32).toInt64) := hw_27
    exact W.lret (v := (zBm c9 q 4503599627370496 ((1023 : Int32).toInt64))) hx hb hr (fun t ht hW => ⟨⟨zBm c9 q 4503599627370496 ((1023 : Int32).toInt64), (), rfl, (Int64.add_zero _).symm.trans (zBits_n hxv (by omega)).symm, trivial⟩, hS.F ht⟩) hS.2.2 dX4_bitsOfDouble_30
  · have hsb : sb = true := zsg_t (zsg64 hxv (by omega)) c_3
    subst hsb
    refine lv_ldc2 hx hb hown (htg _ tw_343) dX4_bitsOfDouble_6 ?_
    refine lv_dload_n hx hb dX4_bitsOfDouble_9 rfl (lv_at hl 0 rfl) ?_
    refine lv_dneg hx hb dX4_bitsOfDouble_10 ?_
    refine lv_sipush (v := 1023) hx hb dX4_bitsOfDouble_11 (by decide) ?_
    refine lv_bipush (v := 52) hx hb dX4_bitsOfDouble_14 (by decide) ?_
    refine zr_calll (va_runS (As := [.double (FP.dneg x), .int 1023, .int 52]) (rest := [.long (-9223372036854775808)]) ⟨hx, hb, hml, hown, hts⟩ (mX4_bitsOfMagnitude_n l (FP.dneg x) c9 q 4503599627370496 1023 52 (zLp_neg hxv hc1 hc2 hq1 hq2) (by first | assumption | rfl | omega | decide) (by first | assumption | rfl | omega | decide) (zshl52) (by decide)) (va_cwS 3 hts (zgS tw_333 tw_334 tw_23 tw_335) rfl rfl rfl (by decide +kernel) ⟨Nat.le_of_ble_eq_true rfl, Nat.le_of_ble_eq_true rfl⟩) zP_pre rfl rfl hl.1 rfl (lv_room (Nat.le_of_ble_eq_true rfl)) dX4_bitsOfDouble_16 ⟨Nat.zero_le _, Nat.zero_le _⟩) hS (fun r_2 H locs hw_16 hT hS => ?_)
    obtain rfl : r_2 = zBm c9 q 4503599627370496 ((1023 : Int32).toInt64) := hw_16
    refine lv_lor hx hb dX4_bitsOfDouble_19 ?_
    exact W.lret (v := ((-9223372036854775808) ||| (zBm c9 q 4503599627370496 ((1023 : Int32).toInt64)))) hx hb hr (fun t ht hW => ⟨⟨(-9223372036854775808) ||| (zBm c9 q 4503599627370496 ((1023 : Int32).toInt64)), (), rfl, (zor64 (zBm52 hc1 hc2 hq1 hq2)).trans (zBits_n hxv (by omega)).symm, trivial⟩, hS.F ht⟩) hS.2.2 dX4_bitsOfDouble_20

set_option maxHeartbeats 4000000 in
set_option maxRecDepth 100000 in
theorem mX4_bitsOfDouble_z (l : Launch) (x : UInt64) (hz0 : FP.Core.DZero x) : Met l yX4_bitsOfDouble (ws_ yX4_bitsOfDouble cX4_bitsOfDouble 2 (some .long)) ({ frames := 1, cells := 0, slots := 0, locals := 28 }) (va_Pc [.double x] (fun _ => True)) (va_Ql (fun (r : Int64) (_ : Unit) => r = zBits x 4503599627370496 1023 (-9223372036854775808)) (fun _ _ => True) (fun _ => False)) 0 0 (fun _ => False) := by
  refine Met.ofW (cc := cX4_bitsOfDouble) (maxL := 2) (ret := (some .long)) (by decide) rfl ?_
  intro p e s m args below meth c s₁ B hml hpre9
  obtain ⟨rfl, -⟩ := hpre9
  have hx := B.exec
  have hb := B.bytes
  have hr := B.returns
  have hts := atoms_spec (ws := (ws_ yX4_bitsOfDouble cX4_bitsOfDouble 2 (some .long))) B.pre
  have htg : ∀ w ∈ gT, w.before _ s = true := fun w h => hts w (List.mem_cons_of_mem _ h)
  have hown : s.vm.findClass RX4 = some m.cls := findClass_of_methodNamed B.named
  have hlocks := B.notSynchronized
  have hS : va_S (fun _ => False) s.heap s.heap [] := va_S.rf
  have hl := lv_entry ([.double x]) (n := 2) (Nat.le_of_ble_eq_true rfl)
  rw [lg_entry_eq]
  generalize (lg_sl ([.double x]) ++ List.replicate (2 - (lg_sl ([.double x])).length) Slot.unset).toArray = ls at hl ⊢
  have hl : lv_has ls 2 [(0, .double x)] := hl
  refine lv_dload_n hx hb dX4_bitsOfDouble_0 rfl (lv_at hl 0 rfl) ?_
  refine lv_dconst0 hx hb dX4_bitsOfDouble_1 ?_
  refine lv_dcmp hx hb dX4_bitsOfDouble_2 ?_
  refine lv_if_ge (tgt := 21) hx hb dX4_bitsOfDouble_3 (by decide) (fun _ => ?_) (fun c_3 => absurd ((zsg_z (zzero64 hz0)).2.2) c_3)
  refine lv_dload_n hx hb dX4_bitsOfDouble_21 rfl (lv_at hl 0 rfl) ?_
  refine lv_sipush (v := 1023) hx hb dX4_bitsOfDouble_22 (by decide) ?_
  refine lv_bipush (v := 52) hx hb dX4_bitsOfDouble_25 (by decide) ?_
  refine zr_calll (va_runS (As := [.double x, .int 1023, .int 52]) (rest := []) ⟨hx, hb, hml, hown, hts⟩ (mX4_bitsOfMagnitude_z l x 1023 52 (by first | assumption | rfl | omega | decide)) (va_cwS 3 hts (zgS tw_333 tw_334 tw_23 tw_335) rfl rfl rfl (by decide +kernel) ⟨Nat.le_of_ble_eq_true rfl, Nat.le_of_ble_eq_true rfl⟩) zP_pre rfl rfl hl.1 rfl (lv_room (Nat.le_of_ble_eq_true rfl)) dX4_bitsOfDouble_27 ⟨Nat.zero_le _, Nat.zero_le _⟩) hS (fun r_1 H locs hw_27 hT hS => ?_)
  obtain rfl : r_1 = (0 : Int64) := hw_27
  exact W.lret (v := (0 : Int64)) hx hb hr (fun t ht hW => ⟨⟨(0 : Int64), (), rfl, (zBits_0 hz0).symm, trivial⟩, hS.F ht⟩) hS.2.2 dX4_bitsOfDouble_30

theorem mX4_bitsOfDouble (l : Launch) (x : UInt64) (hd0 : zDig x) : Met l yX4_bitsOfDouble (ws_ yX4_bitsOfDouble cX4_bitsOfDouble 2 (some .long)) ({ frames := 1, cells := 0, slots := 0, locals := 28 }) (va_Pc [.double x] (fun _ => True)) (va_Ql (fun (r : Int64) (_ : Unit) => r = zBits x 4503599627370496 1023 (-9223372036854775808)) (fun _ _ => True) (fun _ => False)) 0 0 (fun _ => False) := by
  rcases hd0 with hz0 | ⟨sb, c9, q, hxv, hc1, hc2, hq1, hq2⟩
  · exact mX4_bitsOfDouble_z l x hz0
  · rw [ztt] at hc1; rw [zpp] at hc2
    exact mX4_bitsOfDouble_n l x sb c9 q hxv hc1 hc2 hq1 hq2
set_option maxHeartbeats 4000000 in
set_option maxRecDepth 100000 in
theorem mX4_bitsOfFloat_n (l : Launch) (x : UInt32) (sb : Bool) (c9 : Nat) (q : Int) (hxv : FP.Core.val64 (FP.f2d x) = .fin sb c9 q) (hc1 : 4503599627370496 ≤ c9) (hc2 : c9 < 9007199254740992) (hq1 : -130 ≤ q) (hq2 : q ≤ 30) (hsg : FP.fcmp x FP.fconst0 = some (if sb then .lt else .gt)) (hn : sb = true → FP.Core.val64 (FP.f2d (FP.fneg x)) = .fin false c9 q) : Met l yX4_bitsOfFloat (ws_ yX4_bitsOfFloat cX4_bitsOfFloat 1 (some .int)) ({ frames := 1, cells := 0, slots := 0, locals := 28 }) (va_Pc [.float x] (fun _ => True)) (va_Qi (fun (r : Int32) (_ : Unit) => r.toInt64 = zBits (FP.f2d x) 8388608 127 (-2147483648)) (fun _ _ => True) (fun _ => False)) 0 0 (fun _ => False) := by
  refine Met.ofW (cc := cX4_bitsOfFloat) (maxL := 1) (ret := (some .int)) (by decide) rfl ?_
  intro p e s m args below meth c s₁ B hml hpre9
  obtain ⟨rfl, -⟩ := hpre9
  have hx := B.exec
  have hb := B.bytes
  have hr := B.returns
  have hts := atoms_spec (ws := (ws_ yX4_bitsOfFloat cX4_bitsOfFloat 1 (some .int))) B.pre
  have htg : ∀ w ∈ gT, w.before _ s = true := fun w h => hts w (List.mem_cons_of_mem _ h)
  have hown : s.vm.findClass RX4 = some m.cls := findClass_of_methodNamed B.named
  have hlocks := B.notSynchronized
  have hS : va_S (fun _ => False) s.heap s.heap [] := va_S.rf
  have hl := lv_entry ([.float x]) (n := 1) (Nat.le_of_ble_eq_true rfl)
  rw [lg_entry_eq]
  generalize (lg_sl ([.float x]) ++ List.replicate (1 - (lg_sl ([.float x])).length) Slot.unset).toArray = ls at hl ⊢
  have hl : lv_has ls 1 [(0, .float x)] := hl
  refine lv_fload_n hx hb dX4_bitsOfFloat_0 rfl (lv_at hl 0 rfl) ?_
  refine lv_fconst0 hx hb dX4_bitsOfFloat_1 ?_
  refine lv_fcmp hx hb dX4_bitsOfFloat_2 ?_
  refine lv_if_ge (tgt := 22) hx hb dX4_bitsOfFloat_3 (by decide) (fun c_3 => ?_) (fun c_3 => ?_)
  · have hsb : sb = false := zsg_f hsg c_3
    subst hsb
    refine lv_fload_n hx hb dX4_bitsOfFloat_22 rfl (lv_at hl 0 rfl) ?_
    refine lv_f2d hx hb dX4_bitsOfFloat_23 (zn64 (FP.Core.DFin.notNaN ⟨_, _, _, hxv⟩)) ?_
    refine lv_bipush (v := 127) hx hb dX4_bitsOfFloat_24 (by decide) ?_
    refine lv_bipush (v := 23) hx hb dX4_bitsOfFloat_26 (by decide) ?_
    refine zr_calll (va_runS (As := [.double (FP.f2d x), .int 127, .int 23]) (rest := []) ⟨hx, hb, hml, hown, hts⟩ (mX4_bitsOfMagnitude_n l (FP.f2d x) c9 q 8388608 127 23 (zLp_pos hxv hc1 hc2 hq1 hq2) (by first | assumption | rfl | omega | decide) (by first | assumption | rfl | omega | decide) (zshl23) (by decide)) (va_cwS 3 hts (zgS tw_333 tw_334 tw_23 tw_335) rfl rfl rfl (by decide +kernel) ⟨Nat.le_of_ble_eq_true rfl, Nat.le_of_ble_eq_true rfl⟩) zP_pre rfl rfl hl.1 rfl (lv_room (Nat.le_of_ble_eq_true rfl)) dX4_bitsOfFloat_28 ⟨Nat.zero_le _, Nat.zero_le _⟩) hS (fun r_1 H locs hw_28 hT hS => ?_)
    obtain rfl : r_1 = zBm c9 q 8388608 ((127 : Int32).toInt64) := hw_28
    refine lv_l2i (v := (zBm c9 q 8388608 ((127 : Int32).toInt64)).toInt32) hx hb dX4_bitsOfFloat_31 rfl ?_
    exact W.iret (v := ((zBm c9 q 8388608 ((127 : Int32).toInt64)).toInt32)) hx hb hr (fun t ht hW => ⟨⟨(zBm c9 q 8388608 ((127 : Int32).toInt64)).toInt32, (), rfl, (zi32 (zBm23 hc1 hc2 hq1 hq2).1 (zBm23 hc1 hc2 hq1 hq2).2).trans ((Int64.add_zero _).symm.trans (zBits_n hxv (by omega)).symm), trivial⟩, hS.F ht⟩) hS.2.2 dX4_bitsOfFloat_32
  · have hsb : sb = true := zsg_t hsg c_3
    subst hsb
    replace hn := hn rfl
    have hy : zLp (FP.f2d (FP.fneg x)) c9 q := zLp_pos hn hc1 hc2 hq1 hq2
    refine lv_ldcw hx hb hown (htg _ tw_332) dX4_bitsOfFloat_6 ?_
    refine lv_fload_n hx hb dX4_bitsOfFloat_9 rfl (lv_at hl 0 rfl) ?_
    refine lv_fneg hx hb dX4_bitsOfFloat_10 ?_
    refine lv_f2d hx hb dX4_bitsOfFloat_11 (zn64 (zLp_fin hy).notNaN) ?_
    refine lv_bipush (v := 127) hx hb dX4_bitsOfFloat_12 (by decide) ?_
    refine lv_bipush (v := 23) hx hb dX4_bitsOfFloat_14 (by decide) ?_
    refine zr_calll (va_runS (As := [.double (FP.f2d (FP.fneg x)), .int 127, .int 23]) (rest := [.int (-2147483648)]) ⟨hx, hb, hml, hown, hts⟩ (mX4_bitsOfMagnitude_n l (FP.f2d (FP.fneg x)) c9 q 8388608 127 23 (hy) (by first | assumption | rfl | omega | decide) (by first | assumption | rfl | omega | decide) (zshl23) (by decide)) (va_cwS 3 hts (zgS tw_333 tw_334 tw_23 tw_335) rfl rfl rfl (by decide +kernel) ⟨Nat.le_of_ble_eq_true rfl, Nat.le_of_ble_eq_true rfl⟩) zP_pre rfl rfl hl.1 rfl (lv_room (Nat.le_of_ble_eq_true rfl)) dX4_bitsOfFloat_16 ⟨Nat.zero_le _, Nat.zero_le _⟩) hS (fun r_2 H locs hw_16 hT hS => ?_)
    obtain rfl : r_2 = zBm c9 q 8388608 ((127 : Int32).toInt64) := hw_16
    refine lv_l2i (v := (zBm c9 q 8388608 ((127 : Int32).toInt64)).toInt32) hx hb dX4_bitsOfFloat_19 rfl ?_
    refine lv_ior hx hb dX4_bitsOfFloat_20 ?_
    exact W.iret (v := ((-2147483648) ||| ((zBm c9 q 8388608 ((127 : Int32).toInt64)).toInt32))) hx hb hr (fun t ht hW => ⟨⟨(-2147483648) ||| ((zBm c9 q 8388608 ((127 : Int32).toInt64)).toInt32), (), rfl, (zor32 (zBm23 hc1 hc2 hq1 hq2).1 (zBm23 hc1 hc2 hq1 hq2).2).trans (zBits_n hxv (by omega)).symm, trivial⟩, hS.F ht⟩) hS.2.2 dX4_bitsOfFloat_21

set_option maxHeartbeats 4000000 in
set_option maxRecDepth 100000 in
theorem mX4_bitsOfFloat_z (l : Launch) (x : UInt32) (hz0 : FP.Core.FZero x) : Met l yX4_bitsOfFloat (ws_ yX4_bitsOfFloat cX4_bitsOfFloat 1 (some .int)) ({ frames := 1, cells := 0, slots := 0, locals := 28 }) (va_Pc [.float x] (fun _ => True)) (va_Qi (fun (r : Int32) (_ : Unit) => r.toInt64 = zBits (FP.f2d x) 8388608 127 (-2147483648)) (fun _ _ => True) (fun _ => False)) 0 0 (fun _ => False) := by
  refine Met.ofW (cc := cX4_bitsOfFloat) (maxL := 1) (ret := (some .int)) (by decide) rfl ?_
  intro p e s m args below meth c s₁ B hml hpre9
  obtain ⟨rfl, -⟩ := hpre9
  have hx := B.exec
  have hb := B.bytes
  have hr := B.returns
  have hts := atoms_spec (ws := (ws_ yX4_bitsOfFloat cX4_bitsOfFloat 1 (some .int))) B.pre
  have htg : ∀ w ∈ gT, w.before _ s = true := fun w h => hts w (List.mem_cons_of_mem _ h)
  have hown : s.vm.findClass RX4 = some m.cls := findClass_of_methodNamed B.named
  have hlocks := B.notSynchronized
  have hS : va_S (fun _ => False) s.heap s.heap [] := va_S.rf
  have hl := lv_entry ([.float x]) (n := 1) (Nat.le_of_ble_eq_true rfl)
  rw [lg_entry_eq]
  generalize (lg_sl ([.float x]) ++ List.replicate (1 - (lg_sl ([.float x])).length) Slot.unset).toArray = ls at hl ⊢
  have hl : lv_has ls 1 [(0, .float x)] := hl
  refine lv_fload_n hx hb dX4_bitsOfFloat_0 rfl (lv_at hl 0 rfl) ?_
  refine lv_fconst0 hx hb dX4_bitsOfFloat_1 ?_
  refine lv_fcmp hx hb dX4_bitsOfFloat_2 ?_
  refine lv_if_ge (tgt := 22) hx hb dX4_bitsOfFloat_3 (by decide) (fun _ => ?_) (fun c_3 => absurd ((zsg_z (zzero32 hz0)).2.2) c_3)
  refine lv_fload_n hx hb dX4_bitsOfFloat_22 rfl (lv_at hl 0 rfl) ?_
  refine lv_f2d hx hb dX4_bitsOfFloat_23 (zdz_n (zdz_f hz0)) ?_
  refine lv_bipush (v := 127) hx hb dX4_bitsOfFloat_24 (by decide) ?_
  refine lv_bipush (v := 23) hx hb dX4_bitsOfFloat_26 (by decide) ?_
  refine zr_calll (va_runS (As := [.double (FP.f2d x), .int 127, .int 23]) (rest := []) ⟨hx, hb, hml, hown, hts⟩ (mX4_bitsOfMagnitude_z l (FP.f2d x) 127 23 (zdz_f hz0)) (va_cwS 3 hts (zgS tw_333 tw_334 tw_23 tw_335) rfl rfl rfl (by decide +kernel) ⟨Nat.le_of_ble_eq_true rfl, Nat.le_of_ble_eq_true rfl⟩) zP_pre rfl rfl hl.1 rfl (lv_room (Nat.le_of_ble_eq_true rfl)) dX4_bitsOfFloat_28 ⟨Nat.zero_le _, Nat.zero_le _⟩) hS (fun r_1 H locs hw_28 hT hS => ?_)
  obtain rfl : r_1 = (0 : Int64) := hw_28
  refine lv_l2i (v := (0 : Int64).toInt32) hx hb dX4_bitsOfFloat_31 rfl ?_
  exact W.iret (v := ((0 : Int64).toInt32)) hx hb hr (fun t ht hW => ⟨⟨(0 : Int64).toInt32, (), rfl, (zBits_0 (zdz_f hz0)).symm, trivial⟩, hS.F ht⟩) hS.2.2 dX4_bitsOfFloat_32

theorem mX4_bitsOfFloat (l : Launch) (x : UInt32) (hd0 : zDigF x) : Met l yX4_bitsOfFloat (ws_ yX4_bitsOfFloat cX4_bitsOfFloat 1 (some .int)) ({ frames := 1, cells := 0, slots := 0, locals := 28 }) (va_Pc [.float x] (fun _ => True)) (va_Qi (fun (r : Int32) (_ : Unit) => r.toInt64 = zBits (FP.f2d x) 8388608 127 (-2147483648)) (fun _ _ => True) (fun _ => False)) 0 0 (fun _ => False) := by
  rcases hd0 with hz0 | ⟨sb, c8, q8, hx8, hc8, hc7, hq8, hq7⟩
  · exact mX4_bitsOfFloat_z l x hz0
  · obtain ⟨c9, q, hxv, hc1, hc2, hq1, hq2⟩ := zf2d_no hx8 hc8 hc7 hq8 hq7
    exact mX4_bitsOfFloat_n l x sb c9 q hxv hc1 hc2 hq1 hq2 (zsg32 hx8 (by rw [ztt3] at hc8; omega)) (fun h => by subst h; rw [zf2dn hx8, hxv]; rfl)