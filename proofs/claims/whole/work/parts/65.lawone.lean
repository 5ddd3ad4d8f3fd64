theorem zand31 (x : Int32) : ∃ k : Nat, k < 32 ∧ x &&& 31 = nI k := by
  refine ⟨(x &&& 31).toBitVec.toNat, ?_, ?_⟩
  · rw [Int32.toBitVec_and, BitVec.toNat_and, show (31 : Int32).toBitVec.toNat = 2 ^ 5 - 1 by decide, Nat.and_two_pow_sub_one_eq_mod]
    omega
  · apply Int32.toBitVec_inj.mp
    apply BitVec.eq_of_toNat_eq
    unfold nI
    have h : (x &&& 31).toBitVec.toNat < 2 ^ 32 := (x &&& 31).toBitVec.isLt
    rw [show (Int32.ofNat (x &&& 31).toBitVec.toNat).toBitVec = BitVec.ofNat 32 (x &&& 31).toBitVec.toNat from rfl, BitVec.toNat_ofNat]
    omega
theorem zL_one {p : Program} {l : Launch} {e : Env} {s : State} {m : MethodId} {below : List Frame} {meth : Method} {c : Code} {b L : Nat} {xs : Nat → Int32} {A : Nat → Prop} {D : va_G} {y : Nat → ClassId} {ad g : Nat → Nat} {o1 o2 i : Nat} {Q : State → Prop} (hC : zLaw p l s m c b L xs A D y) (hk : zGoes p l e s m below meth c b A D y ad g o1 o2 i Q) (hi : 5 * i + 5 ≤ L) (hL : L ≤ 2560) {H : Heap} {locs : List Loc} {ls : Array Slot} {z : zSt} (hI : zInv z) (hP : va_P D vwCl (zWld y ad g o1 o2 z) H) (hD : va_D A (zWld y ad g o1 o2 z)) (hS : va_S A s.heap H locs) (hl : lv_has ls 9 [(0, .ref b), (1, .ref (ad 0)), (2, .ref (g 0)), (3, .ref o1), (4, .ref o2), (5, .int (nI (5 * i)))]) : W p l e room_1 s m #[Value.ref b] below meth c H locs (82 + i) (8871 + 6 * i) Q (F0 m 37 ls []) := by
  obtain ⟨hx, hb, hml, hown, hts, hX, hbl, hKN, hZ, hNc, hl9, hA, hbA⟩ := id hC
  refine lv_aload_n hx hb dL_law_37 rfl (lv_at hl 0 rfl) ?_
  refine lv_iload hx hb dL_law_38 (lv_at hl 5 rfl) ?_
  refine va_sld hx hb hX hbl hbA hS (vp_in_nI (n := 5 * i) (by omega) (by omega)) dL_law_40 ?_
  refine lv_bipush (v := 31) hx hb dL_law_41 (by decide) ?_
  refine lv_iand hx hb dL_law_43 ?_
  obtain ⟨k, hk9, e9⟩ := zand31 (xs (nI (5 * i)).toNatClampNeg)
  rw [e9]
  rcases (show k = 0 ∨ k = 1 ∨ k = 2 ∨ k = 3 ∨ k = 4 ∨ k = 5 ∨ k = 6 ∨ k = 7 ∨ k = 8 ∨ k = 9 ∨ k = 10 ∨ k = 11 ∨ k = 12 ∨ k = 13 ∨ k = 14 ∨ k = 15 ∨ k = 16 ∨ k = 17 ∨ k = 18 ∨ k = 19 ∨ k = 20 ∨ k = 21 ∨ k = 22 ∨ k = 23 ∨ k = 24 ∨ k = 25 ∨ k = 26 ∨ k = 27 ∨ k = 28 ∨ k = 29 ∨ k = 30 ∨ k = 31 by omega) with rfl | rfl | rfl | rfl | rfl | rfl | rfl | rfl | rfl | rfl | rfl | rfl | rfl | rfl | rfl | rfl | rfl | rfl | rfl | rfl | rfl | rfl | rfl | rfl | rfl | rfl | rfl | rfl | rfl | rfl | rfl | rfl
  · exact lv_tableIn (tgt := 176) (off := 132) hx hb dL_law_44 (by decide) (by decide) rfl (by decide) (zL_bend hC hk hi hL hI hP hD hS hl)
  · exact lv_tableIn (tgt := 256) (off := 212) hx hb dL_law_44 (by decide) (by decide) rfl (by decide) (zL_slide hC hk hi hL hI hP hD hS hl)
  · exact lv_tableIn (tgt := 336) (off := 292) hx hb dL_law_44 (by decide) (by decide) rfl (by decide) (zL_turn hC hk hi hL hI hP hD hS hl)
  · exact lv_tableIn (tgt := 404) (off := 360) hx hb dL_law_44 (by decide) (by decide) rfl (by decide) (zL_bias hC hk hi hL hI hP hD hS hl)
  · exact lv_tableIn (tgt := 472) (off := 428) hx hb dL_law_44 (by decide) (by decide) rfl (by decide) (zL_set hC hk hi hL hI hP hD hS hl)
  · exact lv_tableIn (tgt := 540) (off := 496) hx hb dL_law_44 (by decide) (by decide) rfl (by decide) (zL_pass hC hk hi hL hI hP hD hS hl)
  · exact lv_tableIn (tgt := 596) (off := 552) hx hb dL_law_44 (by decide) (by decide) rfl (by decide) (zL_survey hC hk hi hL hI hP hD hS hl)
  · exact lv_tableIn (tgt := 640) (off := 596) hx hb dL_law_44 (by decide) (by decide) rfl (by decide) (zL_drop hC hk hi hL hI hP hD hS hl)
  · exact lv_tableIn (tgt := 684) (off := 640) hx hb dL_law_44 (by decide) (by decide) rfl (by decide) (zL_spoil hC hk hi hL hI hP hD hS hl)
  · exact lv_tableIn (tgt := 776) (off := 732) hx hb dL_law_44 (by decide) (by decide) rfl (by decide) (zL_append hC hk hi hL hI hP hD hS hl)
  · exact lv_tableIn (tgt := 832) (off := 788) hx hb dL_law_44 (by decide) (by decide) rfl (by decide) (zL_clearBuffer hC hk hi hL hI hP hD hS hl)
  · exact lv_tableIn (tgt := 845) (off := 801) hx hb dL_law_44 (by decide) (by decide) rfl (by decide) (zL_firstError hC hk hi hL hI hP hD hS hl)
  · exact lv_tableIn (tgt := 858) (off := 814) hx hb dL_law_44 (by decide) (by decide) rfl (by decide) (zL_load hC hk hi hL hI hP hD hS hl)
  · exact lv_tableIn (tgt := 902) (off := 858) hx hb dL_law_44 (by decide) (by decide) rfl (by decide) (zL_keep hC hk hi hL hI hP hD hS hl)
  · exact lv_tableIn (tgt := 958) (off := 914) hx hb dL_law_44 (by decide) (by decide) rfl (by decide) (zL_goBack hC hk hi hL hI hP hD hS hl)
  · exact lv_tableIn (tgt := 1014) (off := 970) hx hb dL_law_44 (by decide) (by decide) rfl (by decide) (zL_undo hC hk hi hL hI hP hD hS hl)
  · exact lv_tableIn (tgt := 1058) (off := 1014) hx hb dL_law_44 (by decide) (by decide) rfl (by decide) (zL_levelOf hC hk hi hL hI hP hD hS hl)
  · exact lv_tableIn (tgt := 1126) (off := 1082) hx hb dL_law_44 (by decide) (by decide) rfl (by decide) (zL_reading hC hk hi hL hI hP hD hS hl)
  · exact lv_tableIn (tgt := 1218) (off := 1174) hx hb dL_law_44 (by decide) (by decide) rfl (by decide) (zL_surveyOf hC hk hi hL hI hP hD hS hl)
  · exact lv_tableIn (tgt := 1286) (off := 1242) hx hb dL_law_44 (by decide) (by decide) rfl (by decide) (zL_place hC hk hi hL hI hP hD hS hl)
  · exact lv_tableIn (tgt := 1378) (off := 1334) hx hb dL_law_44 (by decide) (by decide) rfl (by decide) (zL_count hC hk hi hL hI hP hD hS hl)
  · exact lv_tableIn (tgt := 1434) (off := 1390) hx hb dL_law_44 (by decide) (by decide) rfl (by decide) (zL_setting hC hk hi hL hI hP hD hS hl)
  · exact lv_tableIn (tgt := 1490) (off := 1446) hx hb dL_law_44 (by decide) (by decide) rfl (by decide) (zL_moved hC hk hi hL hI hP hD hS hl)
  · exact lv_tableIn (tgt := 1582) (off := 1538) hx hb dL_law_44 (by decide) (by decide) rfl (by decide) (zL_slidesAt hC hk hi hL hI hP hD hS hl)
  · exact lv_tableIn (tgt := 1662) (off := 1618) hx hb dL_law_44 (by decide) (by decide) rfl (by decide) (zL_firstMoved hC hk hi hL hI hP hD hS hl)
  · exact lv_tableIn (tgt := 1754) (off := 1710) hx hb dL_law_44 (by decide) (by decide) rfl (by decide) (zL_speed hC hk hi hL hI hP hD hS hl)
  · exact lv_tableIn (tgt := 1855) (off := 1811) hx hb dL_law_44 (by decide) (by decide) rfl (by decide) (zL_meanCheck hC hk hi hL hI hP hD hS hl)
  · exact lv_tableIn (tgt := 1945) (off := 1901) hx hb dL_law_44 (by decide) (by decide) rfl (by decide) (zL_spread hC hk hi hL hI hP hD hS hl)
  · exact lv_tableIn (tgt := 2034) (off := 1990) hx hb dL_law_44 (by decide) (by decide) rfl (by decide) (zL_digest hC hk hi hL hI hP hD hS hl)
  · exact lv_tableOut (tgt := 2048) hx hb dL_law_44 (by decide) (by decide) (W.widen (k := 82 + (i + 1)) (n := 8871 + 6 * (i + 1)) (by omega) (by omega) (hk z H locs ls hI hP hD hS hl))
  · exact lv_tableOut (tgt := 2048) hx hb dL_law_44 (by decide) (by decide) (W.widen (k := 82 + (i + 1)) (n := 8871 + 6 * (i + 1)) (by omega) (by omega) (hk z H locs ls hI hP hD hS hl))
  · exact lv_tableOut (tgt := 2048) hx hb dL_law_44 (by decide) (by decide) (W.widen (k := 82 + (i + 1)) (n := 8871 + 6 * (i + 1)) (by omega) (by omega) (hk z H locs ls hI hP hD hS hl))
