/-! the digest's numbers: their bits by arithmetic -/
def zNo (f : FP.Core.Fmt) (d : FP.Core.Datum) (lo hi : Int) : Prop := ∃ s c q, d = .fin s c q ∧ f.tails ≤ c ∧ c < 2 ^ f.p ∧ lo ≤ q ∧ q ≤ hi
theorem zNo_round {f : FP.Core.Fmt} (hf : FP.Core.Good f) {s : Bool} {A B : Nat} {e k1 k2 : Int} (hA : 0 < A) (hB : 0 < B) (h1 : ¬ FP.Core.Below A B k1) (h2 : FP.Core.Below A B k2)
    (hm : f.qmin < k1 + 1 + e - f.p) (hM : k2 + e - f.p + 1 ≤ f.qmax) :
    ∃ c q, FP.Core.roundRatio f s A B e = .fin s c q ∧ f.tails ≤ c ∧ c < 2 ^ f.p ∧ k1 + 1 + e - f.p ≤ q ∧ q ≤ k2 + e - f.p + 1 := by
  have b1 := FP.Core.quantum_below (f := f) hA hB e
  have b2 := FP.Core.quantum_not_below (f := f) hA hB e
  have l1 := FP.Core.lt_of_below h1 b1
  have l0 := FP.Core.nearest_units_le (f := f) hA hB e
  have ht := FP.Core.two_tails hf
  have ht2 := FP.Core.tails_two hf
  have hp := hf.2
  unfold FP.Core.roundRatio FP.Core.roundAt
  rw [if_neg (by omega)]
  generalize FP.Core.quantum f A B e = Q at *
  rcases b2 with b2 | b2
  · exfalso; omega
  have l2 := FP.Core.lt_of_below b2 h2
  have l3 : f.tails ≤ FP.Core.nearest (FP.Core.unitsNum A e Q) (FP.Core.unitsDen B e Q) := by
    refine FP.Core.nearest_ge (FP.Core.unitsDen_pos hB ..) ?_
    rw [show (f.p : Int) - 1 = ((f.p - 1 : Nat) : Int) by omega, ← FP.Core.units_below] at b2
    exact Nat.le_of_not_lt b2
  generalize FP.Core.nearest (FP.Core.unitsNum A e Q) (FP.Core.unitsDen B e Q) = N at *
  unfold FP.Core.settle FP.Core.bound
  split
  · rw [if_pos (by omega)]; exact ⟨N, Q, rfl, l3, by assumption, by omega, by omega⟩
  · rw [if_pos (by omega)]; exact ⟨f.tails, Q + 1, rfl, Nat.le_refl _, by omega, by omega, by omega⟩
theorem zquot (f : FP.Core.Fmt) (s : Bool) (c : Nat) (q : Int) (t : Bool) {d : Nat} (r : Int) (h : d ≠ 0) : FP.Core.quotient f (.fin s c q) (.fin t d r) = FP.Core.roundRatio f (s != t) c d (q - r) := by
  show (if d = 0 then _ else _) = _
  rw [if_neg h]
theorem zNo_div {f : FP.Core.Fmt} (hf : FP.Core.Good f) {x y : FP.Core.Datum} {a b c d : Int} (hx : zNo f x a b) (hy : zNo f y c d) (hm : f.qmin < a - d - f.p) (hM : b - c - f.p + 2 ≤ f.qmax) :
    zNo f (FP.Core.quotient f x y) (a - d - f.p) (b - c - f.p + 2) := by
  obtain ⟨s, m, q, rfl, m1, m2, q1, q2⟩ := hx
  obtain ⟨t, n, r, rfl, n1, n2, r1, r2⟩ := hy
  have ht := FP.Core.two_tails hf
  have ht2 := FP.Core.tails_two hf
  rw [zquot _ _ _ _ _ _ (by omega)]
  obtain ⟨c', q', e1, e2, e3, e4, e5⟩ := zNo_round hf (s := s != t) (A := m) (B := n) (e := q - r) (k1 := -1) (k2 := 1) (by omega) (by omega) (by unfold FP.Core.Below; simp; omega) (by unfold FP.Core.Below; simp; omega) (by omega) (by omega)
  exact ⟨_, c', q', e1, e2, e3, by omega, by omega⟩
theorem zNo_int {f : FP.Core.Fmt} (hf : FP.Core.Good f) {i : Int} {k : Nat} (h0 : i ≠ 0) (hi : i.natAbs < 2 ^ k) (hm : f.qmin < - f.p) (hM : (k : Int) - f.p + 1 ≤ f.qmax) :
    zNo f (FP.Core.round f (FP.Core.ofInt i)) (- f.p) (k - f.p + 1) := by
  unfold FP.Core.ofInt FP.Core.round
  obtain ⟨c', q', e1, e2, e3, e4, e5⟩ := zNo_round hf (s := decide (i < 0)) (A := i.natAbs) (B := 1) (e := 0) (k1 := -1) (k2 := k) (by omega) (by omega) (by unfold FP.Core.Below; simp; omega) (by unfold FP.Core.Below; simp; simpa using hi) (by omega) (by omega)
  exact ⟨_, c', q', e1, e2, e3, by omega, by omega⟩
/-- what the digest takes the bits of -/
def zDig (x : UInt64) : Prop := FP.Core.DZero x ∨ zNo FP.Core.b64 (FP.Core.val64 x) (-130) 30
theorem zqm : FP.Core.b64.qmin = -1074 := by decide
theorem zqx : FP.Core.b64.qmax = 971 := by decide
theorem zpp : FP.Core.b64.p = 53 := by decide
theorem ztt : FP.Core.b64.tails = 4503599627370496 := by decide
theorem zqm3 : FP.Core.b32.qmin = -149 := by decide
theorem zqx3 : FP.Core.b32.qmax = 104 := by decide
theorem zpp3 : FP.Core.b32.p = 24 := by decide
theorem ztt3 : FP.Core.b32.tails = 8388608 := by decide
theorem zNo_mono {f : FP.Core.Fmt} {d : FP.Core.Datum} {a b a' b' : Int} (h : zNo f d a b) (h1 : a' ≤ a) (h2 : b ≤ b') : zNo f d a' b' := by
  obtain ⟨s, c, q, e1, e2, e3, e4, e5⟩ := h
  exact ⟨s, c, q, e1, e2, e3, by omega, by omega⟩
theorem zNo_i2d {x : Int32} (h : x ≠ 0) : zNo FP.Core.b64 (FP.Core.val64 (FP.i2d x)) (-53) (-20) := by
  rw [show FP.Core.val64 (FP.i2d x) = _ from FP.Core.val64_i2d x]
  have h1 := FP.Core.int32_ne h
  have h2 := x.toInt_lt; have h3 := x.le_toInt
  refine zNo_mono (zNo_int FP.Core.good_b64 (k := 32) h1 (by omega) (by rw [zqm, zpp]; decide) (by rw [zqx, zpp]; decide)) (by rw [zpp]; decide) (by rw [zpp]; decide)
theorem zNo_l2d {x : Int64} (h : x ≠ 0) : zNo FP.Core.b64 (FP.Core.val64 (FP.l2d x)) (-53) 12 := by
  rw [show FP.Core.val64 (FP.l2d x) = _ from FP.Core.val64_l2d x]
  have h1 := FP.Core.int64_ne h
  have h2 := x.toInt_lt; have h3 := x.le_toInt
  refine zNo_mono (zNo_int FP.Core.good_b64 (k := 64) h1 (by omega) (by rw [zqm, zpp]; decide) (by rw [zqx, zpp]; decide)) (by rw [zpp]; decide) (by rw [zpp]; decide)
theorem zNo_i2f {x : Int32} (h : x ≠ 0) : zNo FP.Core.b32 (FP.Core.val32 (FP.i2f x)) (-24) 9 := by
  rw [show FP.Core.val32 (FP.i2f x) = _ from FP.Core.val32_i2f x]
  have h1 := FP.Core.int32_ne h
  have h2 := x.toInt_lt; have h3 := x.le_toInt
  refine zNo_mono (zNo_int FP.Core.good_b32 (k := 32) h1 (by omega) (by rw [zqm3, zpp3]; decide) (by rw [zqx3, zpp3]; decide)) (by rw [zpp3]; decide) (by rw [zpp3]; decide)
theorem zDig_dd {x y : Int32} (hy : ¬ y = 0) : zDig (FP.ddiv (FP.i2d x) (FP.i2d y)) := by
  have e : FP.Core.val64 (FP.ddiv (FP.i2d x) (FP.i2d y)) = _ := FP.Core.val64_ddiv _ _
  obtain ⟨t, n, r, e2, n1, n2, r1, r2⟩ := zNo_i2d hy
  by_cases hx : x = 0
  · left
    subst hx
    have z : FP.Core.val64 (FP.i2d 0) = .fin false 0 (-1074) := by decide +kernel
    refine ⟨false != t, FP.Core.b64.qmin, ?_⟩
    rw [e, z, e2]
    have := ztt
    rw [zquot _ _ _ _ _ _ (by omega)]; rfl
  · right
    rw [e]
    exact zNo_mono (zNo_div FP.Core.good_b64 (zNo_i2d hx) (zNo_i2d hy) (by rw [zqm, zpp]; decide) (by rw [zqx, zpp]; decide)) (by rw [zpp]; decide) (by rw [zpp]; decide)
theorem z256 : FP.Core.val64 4643211215818981376 = .fin false 4503599627370496 (-44) := by decide +kernel
theorem z16 : FP.Core.val32 1098907648 = .fin false 8388608 (-19) := by decide +kernel
theorem zDig_ld {x : Int64} : zDig (FP.ddiv (FP.l2d x) 4643211215818981376) := by
  have e : FP.Core.val64 (FP.ddiv (FP.l2d x) 4643211215818981376) = _ := FP.Core.val64_ddiv _ _
  by_cases hx : x = 0
  · left
    subst hx
    have z : FP.Core.val64 (FP.l2d 0) = .fin false 0 (-1074) := by decide +kernel
    exact ⟨false, FP.Core.b64.qmin, by rw [e, z, z256]; rfl⟩
  · right
    rw [e]
    exact zNo_mono (zNo_div FP.Core.good_b64 (zNo_l2d hx) (c := -44) (d := -44) ⟨_, _, _, z256, by decide, by decide, by decide, by decide⟩ (by rw [zqm, zpp]; decide) (by rw [zqx, zpp]; decide)) (by rw [zpp]; decide) (by rw [zpp]; decide)
/-- the same of a float -/
def zDigF (x : UInt32) : Prop := FP.Core.FZero x ∨ zNo FP.Core.b32 (FP.Core.val32 x) (-40) 20
theorem zDigF_mean {x : Int32} : zDigF (FP.fdiv (FP.i2f x) 1098907648) := by
  have e : FP.Core.val32 (FP.fdiv (FP.i2f x) 1098907648) = _ := FP.Core.val32_fdiv _ _
  by_cases hx : x = 0
  · left
    subst hx
    have z : FP.Core.val32 (FP.i2f 0) = .fin false 0 (-149) := by decide +kernel
    exact ⟨false, FP.Core.b32.qmin, by rw [e, z, z16]; rfl⟩
  · right
    rw [e]
    exact zNo_mono (zNo_div FP.Core.good_b32 (zNo_i2f hx) (c := -19) (d := -19) ⟨_, _, _, z16, by decide, by decide, by decide, by decide⟩ (by rw [zqm3, zpp3]; decide) (by rw [zqx3, zpp3]; decide)) (by rw [zpp3]; decide) (by rw [zpp3]; decide)
theorem zDigF_fin {x : UInt32} (h : zDigF x) : FP.Core.FFin x := by
  rcases h with ⟨s, q, h⟩ | ⟨s, c, q, h, -⟩
  · exact ⟨s, 0, q, h⟩
  · exact ⟨s, c, q, h⟩
theorem zf2d_val {x : UInt32} (h : FP.Core.FFin x) : FP.Core.val64 (FP.f2d x) = FP.Core.round FP.Core.b64 (FP.Core.val32 x) := by
  rw [FP.f2d_core (FP.Core.FFin.notNaN h)]; exact FP.Core.val64_f2d x
theorem zDig_f2d {x : UInt32} (h : zDigF x) : zDig (FP.f2d x) := by
  have e := zf2d_val (zDigF_fin h)
  rcases h with ⟨s, q, h⟩ | ⟨s, c, q, h, h1, h2, h3, h4⟩
  · left; exact ⟨s, FP.Core.b64.qmin, by rw [e, h]; rfl⟩
  · right; rw [e, h]
    rw [ztt3] at h1; rw [zpp3] at h2
    obtain ⟨c', q', e1, e2, e3, e4, e5⟩ := zNo_round FP.Core.good_b64 (s := s) (A := c) (B := 1) (e := q) (k1 := 23) (k2 := 24) (by omega) (by omega) (by unfold FP.Core.Below; simp; omega) (by unfold FP.Core.Below; simp; omega) (by rw [zqm, zpp]; omega) (by rw [zqx, zpp]; omega)
    rw [zpp] at e4 e5
    exact ⟨s, c', q', e1, e2, e3, by omega, by omega⟩
/-- a positive number of the digest -/
def zLp (x : UInt64) (c : Nat) (q : Int) : Prop := FP.Core.val64 x = .fin false c q ∧ 4503599627370496 ≤ c ∧ c < 9007199254740992 ∧ -140 ≤ q ∧ q ≤ 40
theorem zvtwo : FP.Core.val64 4611686018427387904 = .fin false 4503599627370496 (-51) := by decide +kernel
theorem zvone : FP.Core.val64 FP.dconst1 = .fin false 4503599627370496 (-52) := by decide +kernel
theorem zvnul : FP.Core.val64 FP.dconst0 = .fin false 0 (-1074) := by decide +kernel
theorem zvnulf : FP.Core.val32 FP.fconst0 = .fin false 0 (-149) := by decide +kernel
theorem zfit {sb : Bool} {c : Nat} {q : Int} (h1 : 4503599627370496 ≤ c) (h2 : c < 9007199254740992) (h3 : -200 ≤ q) (h4 : q ≤ 100) : FP.Core.fits FP.Core.b64 (.fin sb c q) := by
  refine ⟨by rw [zpp]; omega, by rw [zqm]; omega, by rw [zqx]; omega, Or.inr (by rw [ztt]; omega)⟩
theorem zLp_half {x : UInt64} {c : Nat} {q : Int} (h : zLp x c q) (hq : -139 ≤ q) : zLp (FP.ddiv x 4611686018427387904) c (q - 1) := by
  obtain ⟨h1, h2, h3, h4, h5⟩ := h
  refine ⟨?_, h2, h3, by omega, by omega⟩
  rw [show FP.Core.val64 (FP.ddiv x 4611686018427387904) = _ from FP.Core.val64_ddiv _ _, h1, zvtwo, zquot _ _ _ _ _ _ (by decide)]
  refine FP.Core.roundRatio_exact FP.Core.good_b64 (by decide) (zfit h2 h3 (by omega) (by omega)) ?_
  rw [show (q - -51 - (q - 1)).toNat = 52 by omega, show (q - 1 - (q - -51)).toNat = 0 by omega]
  omega
theorem zLp_dbl {x : UInt64} {c : Nat} {q : Int} (h : zLp x c q) (hq : q ≤ 39) : zLp (FP.dmul x 4611686018427387904) c (q + 1) := by
  obtain ⟨h1, h2, h3, h4, h5⟩ := h
  refine ⟨?_, h2, h3, by omega, by omega⟩
  rw [show FP.Core.val64 (FP.dmul x 4611686018427387904) = _ from FP.Core.val64_dmul _ _, h1, zvtwo]
  show FP.Core.roundRatio FP.Core.b64 false (c * 4503599627370496) 1 (q + -51) = _
  refine FP.Core.roundRatio_exact FP.Core.good_b64 (by decide) (zfit h2 h3 (by omega) (by omega)) ?_
  rw [show (q + -51 - (q + 1)).toNat = 0 by omega, show (q + 1 - (q + -51)).toNat = 52 by omega]
  omega
theorem zLp_fin {x : UInt64} {c : Nat} {q : Int} (h : zLp x c q) : FP.Core.DFin x := ⟨_, _, _, h.1⟩
theorem zLp_nanh {x : UInt64} {c : Nat} {q : Int} (h : zLp x c q) (hq : -139 ≤ q) : vf_n64 (FP.ddiv x 4611686018427387904) := zn64 (zLp_fin (zLp_half h hq)).notNaN
theorem zLp_nand {x : UInt64} {c : Nat} {q : Int} (h : zLp x c q) (hq : q ≤ 39) : vf_n64 (FP.dmul x 4611686018427387904) := zn64 (zLp_fin (zLp_dbl h hq)).notNaN
theorem zLp_end {x : UInt64} {c : Nat} {q : Int} (h : zLp x c q) (hq : q = -52) : x = FP.Core.of64 (.fin false c (-52)) := by
  subst hq
  rw [← h.1, FP.Core.of64_val64 (by rw [h.1]; exact FP.Core.Datum.noConfusion)]
theorem zcmp_lt {a b : Nat} : compare (FP.Core.signed false a) (FP.Core.signed false b) = .lt ↔ a < b := by
  show compare (a : Int) (b : Int) = .lt ↔ _
  rw [FP.Core.compare_ite]
  split
  · exact iff_of_true rfl (by omega)
  · split <;> exact iff_of_false (by decide) (by omega)
theorem zpow_ge {c k : Nat} {q : Int} : c ≤ c * 2 ^ k := Nat.le_mul_of_pos_right _ (Nat.two_pow_pos _)
theorem zLp_cmp {x t : UInt64} {c : Nat} {q r : Int} (h : zLp x c q) (ht : FP.Core.val64 t = .fin false 4503599627370496 r) : FP.dcmp x t = some .lt ↔ q < r := by
  obtain ⟨h1, h2, h3, h4, h5⟩ := h
  show FP.Core.order (FP.Core.val64 x) (FP.Core.val64 t) = _ ↔ _
  rw [h1, ht]
  show some (compare (FP.Core.signed false (FP.Core.inUnits c q (min q r))) (FP.Core.signed false (FP.Core.inUnits 4503599627370496 r (min q r)))) = _ ↔ _
  rw [Option.some.injEq, zcmp_lt]
  unfold FP.Core.inUnits
  by_cases hq : q < r
  · refine iff_of_true ?_ hq
    rw [show (q - min q r).toNat = 0 by omega]
    obtain ⟨k, hk⟩ : ∃ k : Nat, (r - min q r).toNat = k + 1 := ⟨(r - min q r).toNat - 1, by omega⟩
    rw [hk, Nat.pow_succ]
    have := Nat.two_pow_pos k
    generalize 2 ^ k = P at *
    omega
  · refine iff_of_false ?_ hq
    rw [show (r - min q r).toNat = 0 by omega]
    have := Nat.two_pow_pos (q - min q r).toNat
    have h6 : c * 1 ≤ c * 2 ^ (q - min q r).toNat := Nat.mul_le_mul_left _ this
    omega
theorem zLp_some {x t : UInt64} {c : Nat} {q : Int} (h : zLp x c q) (ht : FP.Core.DFin t) : ∃ o, FP.dcmp x t = some o :=
  FP.Core.dcmp_of_notNaN (zLp_fin h).notNaN ht.notNaN
theorem zcv_l {o : Option Ordering} (h : ∃ z, o = some z) : Op.cmpValue o CmpOp.l < 0 ↔ o = some .lt := by
  obtain ⟨z, rfl⟩ := h; cases z <;> decide
theorem zcv_g {o : Option Ordering} : Op.cmpValue o CmpOp.g < 0 ↔ o = some .lt := by
  rcases o with _ | z; decide; cases z <;> decide
theorem zLp_2 {x : UInt64} {c : Nat} {q : Int} (h : zLp x c q) : Op.cmpValue (FP.dcmp x 4611686018427387904) CmpOp.l < 0 ↔ q ≤ -52 := by
  rw [zcv_l (zLp_some h ⟨_, _, _, zvtwo⟩), zLp_cmp h zvtwo]; omega
theorem zLp_1 {x : UInt64} {c : Nat} {q : Int} (h : zLp x c q) : Op.cmpValue (FP.dcmp x FP.dconst1) CmpOp.g < 0 ↔ q ≤ -53 := by
  rw [zcv_g, zLp_cmp h zvone]; omega
theorem zsg64 {x : UInt64} {sb : Bool} {c : Nat} {q : Int} (h : FP.Core.val64 x = .fin sb c q) (hc : 0 < c) : FP.dcmp x FP.dconst0 = some (if sb then .lt else .gt) := by
  show FP.Core.order (FP.Core.val64 x) (FP.Core.val64 FP.dconst0) = _
  rw [h, zvnul]
  show some (compare (FP.Core.signed sb (FP.Core.inUnits c q (min q (-1074)))) (FP.Core.signed false (FP.Core.inUnits 0 (-1074) (min q (-1074))))) = _
  have h1 : FP.Core.inUnits 0 (-1074) (min q (-1074)) = 0 := Nat.zero_mul _
  have h2 : 0 < FP.Core.inUnits c q (min q (-1074)) := Nat.mul_pos hc (Nat.two_pow_pos _)
  rw [h1]
  generalize FP.Core.inUnits c q (min q (-1074)) = A at *
  cases sb
  · show some (compare (A : Int) (0 : Int)) = some Ordering.gt
    rw [FP.Core.compare_ite, if_neg (by omega), if_neg (by omega)]
  · show some (compare (-(A : Int)) (0 : Int)) = some Ordering.lt
    rw [FP.Core.compare_ite, if_pos (by omega)]
theorem zsg32 {x : UInt32} {sb : Bool} {c : Nat} {q : Int} (h : FP.Core.val32 x = .fin sb c q) (hc : 0 < c) : FP.fcmp x FP.fconst0 = some (if sb then .lt else .gt) := by
  show FP.Core.order (FP.Core.val32 x) (FP.Core.val32 FP.fconst0) = _
  rw [h, zvnulf]
  show some (compare (FP.Core.signed sb (FP.Core.inUnits c q (min q (-149)))) (FP.Core.signed false (FP.Core.inUnits 0 (-149) (min q (-149))))) = _
  have h1 : FP.Core.inUnits 0 (-149) (min q (-149)) = 0 := Nat.zero_mul _
  have h2 : 0 < FP.Core.inUnits c q (min q (-149)) := Nat.mul_pos hc (Nat.two_pow_pos _)
  rw [h1]
  generalize FP.Core.inUnits c q (min q (-149)) = A at *
  cases sb
  · show some (compare (A : Int) (0 : Int)) = some Ordering.gt
    rw [FP.Core.compare_ite, if_neg (by omega), if_neg (by omega)]
  · show some (compare (-(A : Int)) (0 : Int)) = some Ordering.lt
    rw [FP.Core.compare_ite, if_pos (by omega)]
theorem zzero64 {x : UInt64} (h : FP.Core.DZero x) : FP.dcmp x FP.dconst0 = some .eq := by
  obtain ⟨sb, q, h⟩ := h
  show FP.Core.order (FP.Core.val64 x) (FP.Core.val64 FP.dconst0) = _
  rw [h, zvnul]
  show some (compare (FP.Core.signed sb (FP.Core.inUnits 0 q (min q (-1074)))) (FP.Core.signed false (FP.Core.inUnits 0 (-1074) (min q (-1074))))) = _
  have h1 : ∀ r t, FP.Core.inUnits 0 r t = 0 := fun _ _ => Nat.zero_mul _
  rw [h1, h1, FP.Core.signed_zero, FP.Core.signed_zero]; rfl
theorem zzero32 {x : UInt32} (h : FP.Core.FZero x) : FP.fcmp x FP.fconst0 = some .eq := by
  obtain ⟨sb, q, h⟩ := h
  show FP.Core.order (FP.Core.val32 x) (FP.Core.val32 FP.fconst0) = _
  rw [h, zvnulf]
  show some (compare (FP.Core.signed sb (FP.Core.inUnits 0 q (min q (-149)))) (FP.Core.signed false (FP.Core.inUnits 0 (-149) (min q (-149))))) = _
  have h1 : ∀ r t, FP.Core.inUnits 0 r t = 0 := fun _ _ => Nat.zero_mul _
  rw [h1, h1, FP.Core.signed_zero, FP.Core.signed_zero]; rfl
/-- a magnitude's bits; with its sign -/
def zBm (c : Nat) (q : Int) (fr ex : Int64) : Int64 := (ex + Int64.ofInt (q + 52)) * fr + FP.d2l (FP.dmul (FP.dsub (FP.Core.of64 (.fin false c (-52))) FP.dconst1) (FP.l2d fr))
def zBits (x : UInt64) (fr ex sg : Int64) : Int64 := match FP.Core.val64 x with
  | .fin sb c q => if c = 0 then 0 else zBm c q fr ex + (if sb then sg else 0)
  | _ => 0
theorem zBits_0 {x : UInt64} {fr ex sg : Int64} (h : FP.Core.DZero x) : zBits x fr ex sg = 0 := by
  obtain ⟨sb, q, h⟩ := h
  unfold zBits; rw [h]; rfl
theorem zBits_n {x : UInt64} {sb : Bool} {c : Nat} {q : Int} {fr ex sg : Int64} (h : FP.Core.val64 x = .fin sb c q) (hc : 0 < c) : zBits x fr ex sg = zBm c q fr ex + (if sb then sg else 0) := by
  unfold zBits; rw [h]; exact if_neg (by omega)
theorem zLp_pos {x : UInt64} {c : Nat} {q : Int} (h : FP.Core.val64 x = .fin false c q) (h1 : 4503599627370496 ≤ c) (h2 : c < 9007199254740992) (h3 : -130 ≤ q) (h4 : q ≤ 30) : zLp x c q := ⟨h, h1, h2, by omega, by omega⟩
theorem zLp_neg {x : UInt64} {c : Nat} {q : Int} (h : FP.Core.val64 x = .fin true c q) (h1 : 4503599627370496 ≤ c) (h2 : c < 9007199254740992) (h3 : -130 ≤ q) (h4 : q ≤ 30) : zLp (FP.dneg x) c q := ⟨by rw [FP.val64_dneg, h]; rfl, h1, h2, by omega, by omega⟩
theorem zmag_fin (sb : Bool) (c : Nat) (q : Int) : FP.Core.zmag FP.Core.b64 (.fin sb c q) = c * 2 ^ (q - FP.Core.b64.qmin).toNat := rfl
theorem zmag_inf (sb : Bool) : FP.Core.zmag FP.Core.b64 (.inf sb) = FP.Core.b64.tails * 2 ^ (FP.Core.b64.exps - 2) := rfl
theorem zsub1_a {c : Nat} (h1 : 4503599627370496 ≤ c) : FP.Core.sumUnits false c (-52) true 4503599627370496 (-52) (-52) = ((c - 4503599627370496 : Nat) : Int) := by
  unfold FP.Core.sumUnits FP.Core.inUnits FP.Core.signed
  rw [Int.sub_self, Int.toNat_zero, Nat.pow_zero, Nat.mul_one, Nat.mul_one, if_neg (by decide), if_pos rfl]
  omega
theorem zsub1 {c : Nat} (h1 : 4503599627370496 ≤ c) (h2 : c < 9007199254740992) : FP.Core.val64 (FP.dsub (FP.Core.of64 (.fin false c (-52))) FP.dconst1) = FP.Core.roundRatio FP.Core.b64 false (c - 4503599627370496) 1 (-52) := by
  have a1 : FP.Core.val64 (FP.Core.of64 (.fin false c (-52))) = .fin false c (-52) := FP.Core.val64_of64 (zfit h1 h2 (by decide) (by decide))
  have e0 : FP.Core.exactSum (.fin false c (-52)) (FP.Core.negate (.fin false 4503599627370496 (-52))) = .fin false (c - 4503599627370496) (-52) := by
    unfold FP.Core.negate FP.Core.exactSum
    dsimp only
    rw [Int.min_self, Bool.not_false, zsub1_a h1, Int.natAbs_natCast]
    have e2 : FP.Core.sumSign false true ((c - 4503599627370496 : Nat) : Int) = false := by
      unfold FP.Core.sumSign; split; rfl; exact decide_eq_false (by omega)
    rw [e2]
  rw [show FP.Core.val64 (FP.dsub (FP.Core.of64 (.fin false c (-52))) FP.dconst1) = _ from FP.Core.val64_dsub _ _, a1, zvone, e0]
  rfl
/-- the frac's place -/
theorem zfrac {c : Nat} {fr : Int64} {r : Int} {w : Nat} (h1 : 4503599627370496 ≤ c) (h2 : c < 9007199254740992) (hf : FP.Core.val64 (FP.l2d fr) = .fin false 4503599627370496 r) (hV : FP.Core.zmag FP.Core.b64 (FP.Core.val64 (FP.l2d fr)) = 2 ^ w * FP.Core.one64) (hr : -52 ≤ r) (hw : w ≤ 52) :
    0 ≤ (FP.d2l (FP.dmul (FP.dsub (FP.Core.of64 (.fin false c (-52))) FP.dconst1) (FP.l2d fr))).toInt ∧ (FP.d2l (FP.dmul (FP.dsub (FP.Core.of64 (.fin false c (-52))) FP.dconst1) (FP.l2d fr))).toInt ≤ 2 ^ w := by
  have a2 := zsub1 h1 h2
  generalize FP.dsub (FP.Core.of64 (.fin false c (-52))) FP.dconst1 = w9 at *
  have a3 : FP.Core.zmag FP.Core.b64 (FP.Core.val64 w9) ≤ FP.Core.zmag FP.Core.b64 (.fin false 4503599627370496 (-52)) := by
    rw [a2]
    refine FP.Core.zmag_roundRatio_le FP.Core.good_b64 (by decide) (zfit (by decide) (by decide) (by decide) (by decide)) FP.Core.Datum.noConfusion (Int.le_refl _) (by decide) ?_
    rw [zmag_fin, Int.sub_self, Int.toNat_zero, Nat.pow_zero, Nat.mul_one, Nat.mul_one]
    unfold FP.Core.inUnits
    generalize (-52 - FP.Core.b64.qmin).toNat = k
    exact Nat.mul_le_mul_right _ (by omega)
  obtain ⟨c1, q1, a4⟩ | a4 := FP.Core.roundRatio_cases FP.Core.b64 false (c - 4503599627370496) 1 (-52)
  · rw [a4] at a2
    have fit := a2 ▸ FP.Core.val64_fits w9
    have b1 : FP.Core.val64 (FP.dmul w9 (FP.l2d fr)) = FP.Core.roundRatio FP.Core.b64 false (c1 * 4503599627370496) 1 (q1 + r) := by
      rw [show FP.Core.val64 (FP.dmul w9 (FP.l2d fr)) = _ from FP.Core.val64_dmul _ _, a2, hf]; rfl
    have b2 : FP.Core.zmag FP.Core.b64 (FP.Core.val64 (FP.dmul w9 (FP.l2d fr))) ≤ FP.Core.zmag FP.Core.b64 (FP.Core.val64 (FP.l2d fr)) := by
      rw [b1]
      have q1m := fit.2.1
      rw [zqm] at q1m
      refine FP.Core.zmag_roundRatio_le FP.Core.good_b64 (e0 := -1126) (by decide) (FP.Core.val64_fits _) (by rw [hf]; exact FP.Core.Datum.noConfusion) (by decide) (by omega) ?_
      rw [a2, zmag_fin, zmag_fin, zqm] at a3
      rw [hf, zmag_fin, zqm]
      unfold FP.Core.inUnits
      generalize hk : (-52 - -1074 : Int).toNat = K at a3
      rw [Nat.mul_one, show (q1 + r - -1126).toNat = (q1 - -1074).toNat + (r + 52).toNat by omega, show (r - -1074).toNat = K + (r + 52).toNat by omega, Nat.pow_add, Nat.pow_add, show (-1074 - -1126 : Int).toNat = 52 from rfl, show 2 ^ 52 = 4503599627370496 from rfl]
      calc c1 * 4503599627370496 * (2 ^ (q1 - -1074).toNat * 2 ^ (r + 52).toNat) = (c1 * 2 ^ (q1 - -1074).toNat) * (4503599627370496 * 2 ^ (r + 52).toNat) := by ac_rfl
        _ ≤ (4503599627370496 * 2 ^ K) * (4503599627370496 * 2 ^ (r + 52).toNat) := Nat.mul_le_mul_right _ a3
        _ = 4503599627370496 * (2 ^ K * 2 ^ (r + 52).toNat) * 4503599627370496 := by ac_rfl
    have nn : FP.Core.val64 (FP.dmul w9 (FP.l2d fr)) ≠ .nan := by rw [b1]; exact FP.Core.roundRatio_ne_nan _ _ _ _ _
    have sg : FP.Core.sgn (FP.Core.val64 (FP.dmul w9 (FP.l2d fr))) = false := by rw [b1]; exact FP.Core.sgn_roundRatio _ _ _ _ _
    have dv : (FP.d2l (FP.dmul w9 (FP.l2d fr))).toInt = _ := FP.Core.d2l_val nn
    rw [sg] at dv
    rw [hV] at b2
    clear a3 a2 a4 b1 hf hV fit sg nn
    generalize FP.Core.one64 = O at b2 dv
    generalize FP.Core.zmag FP.Core.b64 (FP.Core.val64 (FP.dmul w9 (FP.l2d fr))) = Z at b2 dv
    have c5 : Z / O ≤ 2 ^ w := Nat.div_le_of_le_mul (by rw [Nat.mul_comm]; exact b2)
    generalize Z / O = M at c5 dv
    have c6 : (2 : Nat) ^ w ≤ 2 ^ 52 := Nat.pow_le_pow_right (by decide) hw
    have c7 : FP.Core.signed false M = (M : Int) := rfl
    have c8 : ((2 : Int) ^ w) = ((2 ^ w : Nat) : Int) := by norm_cast
    rw [dv, c7, c8]
    clear dv
    generalize (2 : Nat) ^ w = W at *
    omega
  · exfalso
    have h6 : (2 : Nat) ^ (-52 - FP.Core.b64.qmin).toNat < 2 ^ (FP.Core.b64.exps - 2) := Nat.pow_lt_pow_right (by decide) (by rw [zqm]; decide)
    rw [a2, a4, zmag_fin, zmag_inf, ztt] at a3
    clear a2 a4 hf hV
    generalize (2 : Nat) ^ (-52 - FP.Core.b64.qmin).toNat = A at *
    generalize (2 : Nat) ^ (FP.Core.b64.exps - 2) = B at *
    omega
theorem zv52 : FP.Core.val64 (FP.l2d 4503599627370496) = .fin false 4503599627370496 0 := by decide +kernel
theorem zv23 : FP.Core.val64 (FP.l2d 8388608) = .fin false 4503599627370496 (-29) := by decide +kernel
theorem zm52 : FP.Core.zmag FP.Core.b64 (FP.Core.val64 (FP.l2d 4503599627370496)) = 2 ^ 52 * FP.Core.one64 := by
  rw [zv52, zmag_fin, zqm]; unfold FP.Core.one64; generalize hk : (0 - -1074 : Int).toNat = k
  rw [show k = 1074 by omega]
theorem zm23 : FP.Core.zmag FP.Core.b64 (FP.Core.val64 (FP.l2d 8388608)) = 2 ^ 23 * FP.Core.one64 := by
  rw [zv23, zmag_fin, zqm]; unfold FP.Core.one64
  rw [show (-29 - -1074 : Int).toNat = 1045 by omega, show 4503599627370496 = 2 ^ 23 * 2 ^ 29 by decide, Nat.mul_assoc, ← Nat.pow_add]
theorem zofI {a : Int} (h1 : -2 ^ 63 ≤ a) (h2 : a < 2 ^ 63) : (Int64.ofInt a).toInt = a := Int64.toInt_ofInt_of_le h1 h2
theorem zBm52 {c : Nat} {q : Int} (h1 : 4503599627370496 ≤ c) (h2 : c < 9007199254740992) (h3 : -130 ≤ q) (h4 : q ≤ 30) : 0 ≤ (zBm c q 4503599627370496 1023).toInt := by
  obtain ⟨a, b⟩ := zfrac (w := 52) h1 h2 zv52 zm52 (by decide) (by decide)
  unfold zBm
  generalize FP.d2l _ = f at *
  have e1 : (1023 + Int64.ofInt (q + 52)).toInt = 1075 + q := by
    have := zofI (a := q + 52) (by omega) (by omega)
    rw [FP.Core.int64_add, this] <;> rw [show (1023 : Int64).toInt = 1023 by decide] <;> omega
  have e2 : ((1023 + Int64.ofInt (q + 52)) * 4503599627370496).toInt = (1075 + q) * 4503599627370496 := by
    rw [FP.Core.int64_mul, e1] <;> rw [show (4503599627370496 : Int64).toInt = 4503599627370496 by decide] <;> omega
  rw [FP.Core.int64_add, e2] <;> omega
theorem zBm23 {c : Nat} {q : Int} (h1 : 4503599627370496 ≤ c) (h2 : c < 9007199254740992) (h3 : -130 ≤ q) (h4 : q ≤ 30) : 0 ≤ (zBm c q 8388608 127).toInt ∧ (zBm c q 8388608 127).toInt < 2147483648 := by
  obtain ⟨a, b⟩ := zfrac (w := 23) h1 h2 zv23 zm23 (by decide) (by decide)
  unfold zBm
  generalize FP.d2l _ = f at *
  have e1 : (127 + Int64.ofInt (q + 52)).toInt = 179 + q := by
    have := zofI (a := q + 52) (by omega) (by omega)
    rw [FP.Core.int64_add, this] <;> rw [show (127 : Int64).toInt = 127 by decide] <;> omega
  have e2 : ((127 + Int64.ofInt (q + 52)) * 8388608).toInt = (179 + q) * 8388608 := by
    rw [FP.Core.int64_mul, e1] <;> rw [show (8388608 : Int64).toInt = 8388608 by decide] <;> omega
  rw [FP.Core.int64_add, e2] <;> omega
theorem zor64 {m : Int64} (h : 0 ≤ m.toInt) : (-9223372036854775808) ||| m = m + -9223372036854775808 := by
  apply Int64.toBitVec_inj.mp
  rw [Int64.toBitVec_or, Int64.toBitVec_add]
  apply BitVec.eq_of_toNat_eq
  rw [BitVec.toNat_or, BitVec.toNat_add, show (-9223372036854775808 : Int64).toBitVec.toNat = 2 ^ 63 * 1 by decide]
  have h1 : m.toBitVec.toNat < 2 ^ 63 := by
    have h2 : m.toInt = m.toBitVec.toInt := rfl
    have h3 := m.toBitVec.isLt
    rw [h2, BitVec.toInt_eq_toNat_cond] at h
    split at h <;> omega
  rw [← Nat.two_pow_add_eq_or_of_lt h1]
  omega
theorem zor32 {m : Int64} (h : 0 ≤ m.toInt) (h' : m.toInt < 2147483648) : ((-2147483648) ||| m.toInt32).toInt64 = m + -2147483648 := by
  have e1 : m.toInt32.toInt = m.toInt := FP.Core.int64_toInt32 (by omega) h'
  have e2 : (-2147483648) ||| m.toInt32 = m.toInt32 + -2147483648 := by
    apply Int32.toBitVec_inj.mp
    rw [Int32.toBitVec_or, Int32.toBitVec_add]
    apply BitVec.eq_of_toNat_eq
    rw [BitVec.toNat_or, BitVec.toNat_add, show (-2147483648 : Int32).toBitVec.toNat = 2 ^ 31 * 1 by decide]
    have h1 : m.toInt32.toBitVec.toNat < 2 ^ 31 := by
      have h2 : m.toInt32.toInt = m.toInt32.toBitVec.toInt := rfl
      have h3 := m.toInt32.toBitVec.isLt
      rw [← e1, h2, BitVec.toInt_eq_toNat_cond] at h
      split at h <;> omega
    rw [← Nat.two_pow_add_eq_or_of_lt h1]
    omega
  rw [e2]
  apply Int64.toInt.inj
  have e3 : (m.toInt32 + -2147483648).toInt = m.toInt - 2147483648 := by
    rw [Int32.toInt_add, e1, show (-2147483648 : Int32).toInt = -2147483648 by decide, Int.bmod_eq_of_le (by omega) (by omega)]; omega
  rw [Int32.toInt_toInt64, e3, FP.Core.int64_add] <;> rw [show (-2147483648 : Int64).toInt = -2147483648 by decide] <;> omega
theorem zi32 {m : Int64} (h : 0 ≤ m.toInt) (h' : m.toInt < 2147483648) : m.toInt32.toInt64 = m := by
  apply Int64.toInt.inj
  rw [Int32.toInt_toInt64]; exact FP.Core.int64_toInt32 (by omega) h'
theorem zshl52 (a : Int64) : a <<< ((52 : Int32).toInt64 &&& 63) = a * 4503599627370496 := by
  rw [show ((52 : Int32).toInt64 &&& 63) = 52 by decide]
  apply Int64.toBitVec_inj.mp
  rw [Int64.toBitVec_shiftLeft, Int64.toBitVec_mul, show (Int64.toBitVec 52).smod 64 = 52#64 by decide, show Int64.toBitVec 4503599627370496 = BitVec.twoPow 64 52 by decide, BitVec.mul_twoPow_eq_shiftLeft]
  rfl
theorem zshl23 (a : Int64) : a <<< ((23 : Int32).toInt64 &&& 63) = a * 8388608 := by
  rw [show ((23 : Int32).toInt64 &&& 63) = 23 by decide]
  apply Int64.toBitVec_inj.mp
  rw [Int64.toBitVec_shiftLeft, Int64.toBitVec_mul, show (Int64.toBitVec 23).smod 64 = 23#64 by decide, show Int64.toBitVec 8388608 = BitVec.twoPow 64 23 by decide, BitVec.mul_twoPow_eq_shiftLeft]
  rfl
theorem zI64s (ex : Int64) (i : Nat) : ex + Int64.ofNat i + 1 = ex + Int64.ofNat (i + 1) := by
  rw [Int64.add_assoc, Int64.ofNat_add, show Int64.ofNat 1 = 1 from rfl]
theorem zI64d (ex : Int64) (j : Nat) : ex - Int64.ofNat j - 1 = ex - Int64.ofNat (j + 1) := by
  rw [Int64.ofNat_add, Int64.sub_eq_add_neg, Int64.sub_eq_add_neg, Int64.sub_eq_add_neg, Int64.neg_add, Int64.add_assoc, show Int64.ofNat 1 = 1 from rfl, Int64.sub_eq_add_neg]
theorem zI64q (ex : Int64) {i j : Nat} {q : Int} (h : q - i + j = -52) : ex + Int64.ofNat i - Int64.ofNat j = ex + Int64.ofInt (q + 52) := by
  rw [show q + 52 = (i : Int) - (j : Int) by omega, Int64.ofInt_sub, Int64.sub_eq_add_neg, Int64.sub_eq_add_neg, Int64.add_assoc]; rfl
theorem zf2dn {x : UInt32} {c : Nat} {q : Int} (h : FP.Core.val32 x = .fin true c q) : FP.Core.val64 (FP.f2d (FP.fneg x)) = FP.Core.negate (FP.Core.val64 (FP.f2d x)) := by
  have h1 : FP.Core.val32 (FP.fneg x) = .fin false c q := by rw [FP.val32_fneg, h]; rfl
  rw [zf2d_val ⟨_, _, _, h1⟩, zf2d_val ⟨_, _, _, h⟩, h1, h, FP.Core.negate_round]; rfl
theorem zLp_cast {x : UInt64} {c : Nat} {q q' : Int} (h : zLp x c q) (e : q = q') : zLp x c q' := e ▸ h
theorem zsg_f {o : Option Ordering} {sb : Bool} (h : o = some (if sb then .lt else .gt)) (h' : 0 ≤ Op.cmpValue o CmpOp.g) : sb = false := by
  subst h; cases sb; rfl; exact absurd h' (by decide)
theorem zsg_t {o : Option Ordering} {sb : Bool} (h : o = some (if sb then .lt else .gt)) (h' : ¬ 0 ≤ Op.cmpValue o CmpOp.g) : sb = true := by
  subst h; cases sb; exact absurd (by decide) h'; rfl
theorem zsg_n {o : Option Ordering} {sb : Bool} (h : o = some (if sb then .lt else .gt)) : ¬ Op.cmpValue o CmpOp.l = 0 := by
  subst h; cases sb <;> decide
theorem zsg_g {o : Option Ordering} (h : o = some .gt) : 0 < Op.cmpValue o CmpOp.g := by subst h; decide
theorem zsg_z {o : Option Ordering} (h : o = some .eq) : Op.cmpValue o CmpOp.l = 0 ∧ ¬ 0 < Op.cmpValue o CmpOp.g ∧ 0 ≤ Op.cmpValue o CmpOp.g := by subst h; decide
theorem zLp_gt {x : UInt64} {c : Nat} {q : Int} (h : zLp x c q) : FP.dcmp x FP.dconst0 = some .gt := by
  have := h.2.1; exact zsg64 h.1 (by omega)
theorem znn_s {x : UInt64} {c : Nat} {q : Int} (h : zLp x c q) : vf_n64 (FP.dsub x FP.dconst1) := zn64 (FP.Core.dsub_out (zLp_fin h).notNaN ⟨_, _, _, zvone⟩)
theorem znn_m {x : UInt64} {c : Nat} {q : Int} {fr : Int64} (h : zLp x c q) (hf : fr ≠ 0) : vf_n64 (FP.dmul (FP.dsub x FP.dconst1) (FP.l2d fr)) :=
  zn64 (FP.Core.dmul_out' (FP.Core.dsub_out (zLp_fin h).notNaN ⟨_, _, _, zvone⟩) (FP.Core.l2d_fin fr) (fun h => FP.Core.l2d_ne_zero hf ((FP.Core.zero_bits2 _).mp h)))
theorem zBm_eq {x : UInt64} {c : Nat} {q : Int} {fr ex lv : Int64} {i j : Nat} (hz : zLp x c (q - i + j)) (hq : q - i + j = -52) (hv : lv = ex + Int64.ofNat i - Int64.ofNat j) : lv * fr + FP.d2l (FP.dmul (FP.dsub x FP.dconst1) (FP.l2d fr)) = zBm c q fr ex := by
  rw [hv, zI64q ex hq, zLp_end hz hq]; rfl
theorem zdz_f {x : UInt32} (h : FP.Core.FZero x) : FP.Core.DZero (FP.f2d x) := by
  obtain ⟨sb, q, h⟩ := h
  exact ⟨sb, FP.Core.b64.qmin, by rw [zf2d_val ⟨_, _, _, h⟩, h]; rfl⟩
theorem zdz_n {x : UInt64} (h : FP.Core.DZero x) : vf_n64 x := zn64 h.fin.notNaN
theorem zf2d_no {x : UInt32} {sb : Bool} {c : Nat} {q : Int} (h : FP.Core.val32 x = .fin sb c q) (h1 : FP.Core.b32.tails ≤ c) (h2 : c < 2 ^ FP.Core.b32.p) (h3 : -40 ≤ q) (h4 : q ≤ 20) :
    ∃ c' q', FP.Core.val64 (FP.f2d x) = .fin sb c' q' ∧ 4503599627370496 ≤ c' ∧ c' < 9007199254740992 ∧ -130 ≤ q' ∧ q' ≤ 30 := by
  rw [zf2d_val ⟨_, _, _, h⟩, h]
  rw [ztt3] at h1; rw [zpp3] at h2
  obtain ⟨c', q', e1, e2, e3, e4, e5⟩ := zNo_round FP.Core.good_b64 (s := sb) (A := c) (B := 1) (e := q) (k1 := 23) (k2 := 24) (by omega) (by omega) (by unfold FP.Core.Below; simp; omega) (by unfold FP.Core.Below; simp; omega) (by rw [zqm, zpp]; omega) (by rw [zqx, zpp]; omega)
  rw [zpp] at e3 e4 e5; rw [ztt] at e2
  exact ⟨c', q', e1, e2, e3, by omega, by omega⟩
