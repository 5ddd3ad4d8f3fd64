/-! the spread: never below zero; of equal checks zero -/
/-! the digest's numbers: their bits by arithmetic -/
def zNo (f : FP.Core.Fmt) (d : FP.Core.Datum) (lo hi : Int) : Prop := ∃ s c q, d = .fin s c q ∧ f.tails ≤ c ∧ c < 2 ^ f.p ∧ lo ≤ q ∧ q ≤ hi
theorem zNo_round {f : FP.Core.Fmt} (hf : FP.Core.Good f) {s : Bool} {A B : Nat} {e k1 k2 : Int} (hA : 0 < A) (hB : 0 < B) (h1 : ¬ FP.Core.Below A B k1) (h2 : FP.Core.Below A B k2)
    (hm : f.qmin < k1 + 1 + e - f.p) (hM : k2 + e - f.p + 1 ≤ f.qmax) :
    ∃ c q, FP.Core.roundRatio f s A B e = .fin s c q ∧ f.tails ≤ c ∧ c < 2 ^ f.p ∧ k1 + 1 + e - f.p ≤ q ∧ q ≤ k2 + e - f.p + 1 := by
  have b1 := FP.Core.quantum_below (f := f) hA hB e
  have b2 := FP.Core.quantum_not_below (f := f) hA hB e
  have l1 := FP.Core.lt_of_below h1 b1
  have l0 := FP.Core.nearest_units_le (f := f) hA hB e
  have ht := FP.Core.two_tails hf
  have ht2 := FP.Core.tails_two hf
  have hp := hf.2
  unfold FP.Core.roundRatio FP.Core.roundAt
  rw [if_neg (by omega)]
  generalize FP.Core.quantum f A B e = Q at *
  rcases b2 with b2 | b2
  · exfalso; omega
  have l2 := FP.Core.lt_of_below b2 h2
  have l3 : f.tails ≤ FP.Core.nearest (FP.Core.unitsNum A e Q) (FP.Core.unitsDen B e Q) := by
    refine FP.Core.nearest_ge (FP.Core.unitsDen_pos hB ..) ?_
    rw [show (f.p : Int) - 1 = ((f.p - 1 : Nat) : Int) by omega, ← FP.Core.units_below] at b2
    exact Nat.le_of_not_lt b2
  generalize FP.Core.nearest (FP.Core.unitsNum A e Q) (FP.Core.unitsDen B e Q) = N at *
  unfold FP.Core.settle FP.Core.bound
  split
  · rw [if_pos (by omega)]; exact ⟨N, Q, rfl, l3, by assumption, by omega, by omega⟩
  · rw [if_pos (by omega)]; exact ⟨f.tails, Q + 1, rfl, Nat.le_refl _, by omega, by omega, by omega⟩
theorem zquot (f : FP.Core.Fmt) (s : Bool) (c : Nat) (q : Int) (t : Bool) {d : Nat} (r : Int) (h : d ≠ 0) : FP.Core.quotient f (.fin s c q) (.fin t d r) = FP.Core.roundRatio f (s != t) c d (q - r) := by
  show (if d = 0 then _ else _) = _
  rw [if_neg h]
theorem zNo_div {f : FP.Core.Fmt} (hf : FP.Core.Good f) {x y : FP.Core.Datum} {a b c d : Int} (hx : zNo f x a b) (hy : zNo f y c d) (hm : f.qmin < a - d - f.p) (hM : b - c - f.p + 2 ≤ f.qmax) :
    zNo f (FP.Core.quotient f x y) (a - d - f.p) (b - c - f.p + 2) := by
  obtain ⟨s, m, q, rfl, m1, m2, q1, q2⟩ := hx
  obtain ⟨t, n, r, rfl, n1, n2, r1, r2⟩ := hy
  have ht := FP.Core.two_tails hf
  have ht2 := FP.Core.tails_two hf
  rw [zquot _ _ _ _ _ _ (by omega)]
  obtain ⟨c', q', e1, e2, e3, e4, e5⟩ := zNo_round hf (s := s != t) (A := m) (B := n) (e := q - r) (k1 := -1) (k2 := 1) (by omega) (by omega) (by unfold FP.Core.Below; simp; omega) (by unfold FP.Core.Below; simp; omega) (by omega) (by omega)
  exact ⟨_, c', q', e1, e2, e3, by omega, by omega⟩
theorem zNo_int {f : FP.Core.Fmt} (hf : FP.Core.Good f) {i : Int} {k : Nat} (h0 : i ≠ 0) (hi : i.natAbs < 2 ^ k) (hm : f.qmin < - f.p) (hM : (k : Int) - f.p + 1 ≤ f.qmax) :
    zNo f (FP.Core.round f (FP.Core.ofInt i)) (- f.p) (k - f.p + 1) := by
  unfold FP.Core.ofInt FP.Core.round
  obtain ⟨c', q', e1, e2, e3, e4, e5⟩ := zNo_round hf (s := decide (i < 0)) (A := i.natAbs) (B := 1) (e := 0) (k1 := -1) (k2 := k) (by omega) (by omega) (by unfold FP.Core.Below; simp; omega) (by unfold FP.Core.Below; simp; simpa using hi) (by omega) (by omega)
  exact ⟨_, c', q', e1, e2, e3, by omega, by omega⟩
/-- what the digest takes the bits of -/
def zDig (x : UInt64) : Prop := FP.Core.DZero x ∨ zNo FP.Core.b64 (FP.Core.val64 x) (-130) 30
theorem zqm : FP.Core.b64.qmin = -1074 := by decide
theorem zqx : FP.Core.b64.qmax = 971 := by decide
theorem zpp : FP.Core.b64.p = 53 := by decide
theorem ztt : FP.Core.b64.tails = 4503599627370496 := by decide
theorem zNo_mono {f : FP.Core.Fmt} {d : FP.Core.Datum} {a b a' b' : Int} (h : zNo f d a b) (h1 : a' ≤ a) (h2 : b ≤ b') : zNo f d a' b' := by
  obtain ⟨s, c, q, e1, e2, e3, e4, e5⟩ := h
  exact ⟨s, c, q, e1, e2, e3, by omega, by omega⟩
theorem zNo_l2d {x : Int64} (h : x ≠ 0) : zNo FP.Core.b64 (FP.Core.val64 (FP.l2d x)) (-53) 12 := by
  rw [show FP.Core.val64 (FP.l2d x) = _ from FP.Core.val64_l2d x]
  have h1 := FP.Core.int64_ne h
  have h2 := x.toInt_lt; have h3 := x.le_toInt
  refine zNo_mono (zNo_int FP.Core.good_b64 (k := 64) h1 (by omega) (by rw [zqm, zpp]; decide) (by rw [zqx, zpp]; decide)) (by rw [zpp]; decide) (by rw [zpp]; decide)
theorem z256 : FP.Core.val64 4643211215818981376 = .fin false 4503599627370496 (-44) := by decide +kernel
theorem zDig_ld {x : Int64} : zDig (FP.ddiv (FP.l2d x) 4643211215818981376) := by
  have e : FP.Core.val64 (FP.ddiv (FP.l2d x) 4643211215818981376) = _ := FP.Core.val64_ddiv _ _
  by_cases hx : x = 0
  · left
    subst hx
    have z : FP.Core.val64 (FP.l2d 0) = .fin false 0 (-1074) := by decide +kernel
    exact ⟨false, FP.Core.b64.qmin, by rw [e, z, z256]; rfl⟩
  · right
    rw [e]
    exact zNo_mono (zNo_div FP.Core.good_b64 (zNo_l2d hx) (c := -44) (d := -44) ⟨_, _, _, z256, by decide, by decide, by decide, by decide⟩ (by rw [zqm, zpp]; decide) (by rw [zqx, zpp]; decide)) (by rw [zpp]; decide) (by rw [zpp]; decide)
theorem zvnul : FP.Core.val64 FP.dconst0 = .fin false 0 (-1074) := by decide +kernel
theorem zsg64 {x : UInt64} {sb : Bool} {c : Nat} {q : Int} (h : FP.Core.val64 x = .fin sb c q) (hc : 0 < c) : FP.dcmp x FP.dconst0 = some (if sb then .lt else .gt) := by
  show FP.Core.order (FP.Core.val64 x) (FP.Core.val64 FP.dconst0) = _
  rw [h, zvnul]
  show some (compare (FP.Core.signed sb (FP.Core.inUnits c q (min q (-1074)))) (FP.Core.signed false (FP.Core.inUnits 0 (-1074) (min q (-1074))))) = _
  have h1 : FP.Core.inUnits 0 (-1074) (min q (-1074)) = 0 := Nat.zero_mul _
  have h2 : 0 < FP.Core.inUnits c q (min q (-1074)) := Nat.mul_pos hc (Nat.two_pow_pos _)
  rw [h1]
  generalize FP.Core.inUnits c q (min q (-1074)) = A at *
  cases sb
  · show some (compare (A : Int) (0 : Int)) = some Ordering.gt
    rw [FP.Core.compare_ite, if_neg (by omega), if_neg (by omega)]
  · show some (compare (-(A : Int)) (0 : Int)) = some Ordering.lt
    rw [FP.Core.compare_ite, if_pos (by omega)]
theorem zzero64 {x : UInt64} (h : FP.Core.DZero x) : FP.dcmp x FP.dconst0 = some .eq := by
  obtain ⟨sb, q, h⟩ := h
  show FP.Core.order (FP.Core.val64 x) (FP.Core.val64 FP.dconst0) = _
  rw [h, zvnul]
  show some (compare (FP.Core.signed sb (FP.Core.inUnits 0 q (min q (-1074)))) (FP.Core.signed false (FP.Core.inUnits 0 (-1074) (min q (-1074))))) = _
  have h1 : ∀ r t, FP.Core.inUnits 0 r t = 0 := fun _ _ => Nat.zero_mul _
  rw [h1, h1, FP.Core.signed_zero, FP.Core.signed_zero]; rfl
theorem zrr_sg {f : FP.Core.Fmt} {s t : Bool} {A B c : Nat} {e q : Int} (h : FP.Core.roundRatio f s A B e = .fin t c q) : t = s := by
  unfold FP.Core.roundRatio at h
  split at h
  · injection h with h1; exact h1.symm
  · unfold FP.Core.roundAt FP.Core.settle FP.Core.bound at h
    (repeat' split at h) <;> first | (injection h with h1; exact h1.symm) | (cases h)
theorem zSd_nn {x : Int64} (h : 0 ≤ x.toInt) : ¬ Op.cmpValue (FP.dcmp (FP.ddiv (FP.l2d x) 4643211215818981376) FP.dconst0) CmpOp.l < 0 := by
  rcases zDig_ld (x := x) with hz | ⟨s, c, q, e, h1, -⟩
  · rw [zzero64 hz]; decide
  · have e0 := e
    have ht := ztt
    rw [show FP.Core.val64 (FP.ddiv (FP.l2d x) 4643211215818981376) = _ from FP.Core.val64_ddiv _ _, z256, show FP.Core.val64 (FP.l2d x) = _ from FP.Core.val64_l2d x] at e
    have hs : s = false := by
      cases hd : FP.Core.round FP.Core.b64 (FP.Core.ofInt x.toInt) with
      | nan => rw [hd] at e; cases e
      | inf t => rw [hd] at e; cases e
      | fin t d r =>
        rw [hd, zquot _ _ _ _ _ _ (by decide)] at e
        have g : t = decide (x.toInt < 0) := zrr_sg (show FP.Core.roundRatio FP.Core.b64 (decide (x.toInt < 0)) x.toInt.natAbs 1 0 = .fin t d r from hd)
        rw [decide_eq_false (by omega)] at g
        rw [zrr_sg e, g]; rfl
    rw [zsg64 e0 (by omega), hs]; decide
/-- sums of ints -/
def zIs (f : Nat → Int) : Nat → Int
  | 0 => 0
  | n + 1 => zIs f n + f n
theorem zsq_nn (x : Int) : 0 ≤ x * x := by
  rcases Int.le_total 0 x with h | h
  · exact Int.mul_nonneg h h
  · exact Int.mul_nonneg_of_nonpos_of_nonpos h h
theorem zCS (f : Nat → Int) (c : Int) : ∀ n : Nat, 0 ≤ zIs (fun v => f v * f v) n - 2 * c * zIs f n + (n : Int) * (c * c)
  | 0 => by simp [zIs]
  | n + 1 => by
    have i := zCS f c n
    have s := zsq_nn (f n - c)
    show 0 ≤ (zIs (fun v => f v * f v) n + f n * f n) - 2 * c * (zIs f n + f n) + ((n + 1 : Nat) : Int) * (c * c)
    rw [Int.natCast_add, show ((1 : Nat) : Int) = 1 from rfl]
    generalize zIs (fun v => f v * f v) n = Q at *
    generalize zIs f n = s0 at *
    generalize f n = y at *
    generalize (n : Int) = m at *
    grind
theorem zCauchy (f : Nat → Int) : ∀ n : Nat, 0 ≤ (n : Int) * zIs (fun v => f v * f v) n - zIs f n * zIs f n
  | 0 => by simp [zIs]
  | n + 1 => by
    have i := zCauchy f n
    have s := zCS f (f n) n
    show 0 ≤ ((n + 1 : Nat) : Int) * (zIs (fun v => f v * f v) n + f n * f n) - (zIs f n + f n) * (zIs f n + f n)
    rw [Int.natCast_add, show ((1 : Nat) : Int) = 1 from rfl]
    generalize zIs (fun v => f v * f v) n = Q at *
    generalize zIs f n = s0 at *
    generalize f n = y at *
    generalize (n : Int) = m at *
    grind
theorem zsumL_i {f : Nat → Int64} {g : Nat → Int} : ∀ n : Nat, n ≤ 16 → (∀ v : Nat, v < n → (f v).toInt = g v ∧ -10000000 ≤ g v ∧ g v ≤ 10000000) → (zsumL f n).toInt = zIs g n ∧ -(10000000 * (n : Int)) ≤ zIs g n ∧ zIs g n ≤ 10000000 * (n : Int)
  | 0, _, _ => ⟨rfl, by show _ ≤ (0 : Int); decide, by show (0 : Int) ≤ _; decide⟩
  | n + 1, hn, h => by
    obtain ⟨i1, i2, i3⟩ := zsumL_i (f := f) (g := g) n (by omega) (fun v hv => h v (by omega))
    obtain ⟨e, b1, b2⟩ := h n (by omega)
    have e2 : zIs g (n + 1) = zIs g n + g n := rfl
    refine ⟨?_, by omega, by omega⟩
    show (zsumL f n + f n).toInt = _
    rw [Int64.toInt_add, i1, e, Int.bmod_eq_of_le (by omega) (by omega), e2]
theorem zsq_b {x : Int} (h1 : -1800 ≤ x) (h2 : x ≤ 1800) : 0 ≤ x * x ∧ x * x ≤ 3240000 := by
  refine ⟨zsq_nn x, ?_⟩
  have := zsq_nn (1800 - x)
  have h3 : 0 ≤ (1800 - x) * (1800 + x) := Int.mul_nonneg (by omega) (by omega)
  grind
theorem qSd_nn {S : Nat → Int32} {n k o : Nat} {b : Int} (h : zGd S n b) (hk : k < n) (ho : o < 2) : ¬ Op.cmpValue (FP.dcmp (qSd S k o) FP.dconst0) CmpOp.l < 0 := by
  unfold qSd
  apply zSd_nn
  have hc : ∀ v : Nat, v < 16 → -1800 ≤ (qCk S k v o).toInt ∧ (qCk S k v o).toInt ≤ 1800 := fun v hv => h.ck hk hv ho
  obtain ⟨s1, s2, s3⟩ := zsumL_i (f := fun v => (qCk S k v o).toInt64) (g := fun v => (qCk S k v o).toInt) 16 (by decide) (fun v hv => ⟨Int32.toInt_toInt64 _, by have := hc v hv; omega, by have := hc v hv; omega⟩)
  obtain ⟨q1, q2, q3⟩ := zsumL_i (f := fun v => (qCk S k v o).toInt64 * (qCk S k v o).toInt64) (g := fun v => (qCk S k v o).toInt * (qCk S k v o).toInt) 16 (by decide) (fun v hv => by
    obtain ⟨a1, a2⟩ := hc v hv
    obtain ⟨b1, b2⟩ := zsq_b a1 a2
    refine ⟨?_, by omega, by omega⟩
    rw [Int64.toInt_mul, Int32.toInt_toInt64, Int.bmod_eq_of_le (by omega) (by omega)])
  have cs := zCauchy (fun v => (qCk S k v o).toInt) 16
  have s4 : ∀ n : Nat, n ≤ 16 → -(1800 * (n : Int)) ≤ zIs (fun v => (qCk S k v o).toInt) n ∧ zIs (fun v => (qCk S k v o).toInt) n ≤ 1800 * (n : Int) := by
    intro n
    induction n with
    | zero => intro _; show _ ≤ (0 : Int) ∧ (0 : Int) ≤ _; decide
    | succ n ih =>
      intro hn
      have i := ih (by omega)
      have a := hc n (by omega)
      show _ ≤ zIs (fun v => (qCk S k v o).toInt) n + (qCk S k n o).toInt ∧ zIs (fun v => (qCk S k v o).toInt) n + (qCk S k n o).toInt ≤ _
      omega
  have s5 := s4 16 (by decide)
  unfold qSq qSs
  generalize hS : zIs (fun v => (qCk S k v o).toInt) 16 = A at *
  generalize hQ : zIs (fun v => (qCk S k v o).toInt * (qCk S k v o).toInt) 16 = B at *
  generalize zsumL (fun v => (qCk S k v o).toInt64) 16 = x at *
  generalize zsumL (fun v => (qCk S k v o).toInt64 * (qCk S k v o).toInt64) 16 = y at *
  have a2 : 0 ≤ A * A := zsq_nn A
  have cs' : 0 ≤ 16 * B - A * A := cs
  have e1 : (16 * y).toInt = 16 * B := by rw [Int64.toInt_mul, q1, show (16 : Int64).toInt = 16 from rfl, Int.bmod_eq_of_le (by omega) (by omega)]
  have e2 : (x * x).toInt = A * A := by rw [Int64.toInt_mul, s1, Int.bmod_eq_of_le (by omega) (by omega)]
  rw [Int64.toInt_sub, e1, e2, Int.bmod_eq_of_le (by omega) (by omega)]
  omega
theorem zsumL_c {f : Nat → Int64} {c : Int64} (h : ∀ v : Nat, v < 16 → f v = c) : zsumL f 16 = 16 * c := by
  simp only [zsumL]
  rw [h 0 (by decide), h 1 (by decide), h 2 (by decide), h 3 (by decide), h 4 (by decide), h 5 (by decide), h 6 (by decide), h 7 (by decide), h 8 (by decide), h 9 (by decide), h 10 (by decide), h 11 (by decide), h 12 (by decide), h 13 (by decide), h 14 (by decide), h 15 (by decide)]
  grind
theorem zTk_sd {S : Nat → Int32} {n o : Nat} (ho : o < 2) : Op.cmpValue (FP.dcmp (qSd (zTk S n) n o) FP.dconst0) CmpOp.l = 0 := by
  have e : qSd (zTk S n) n o = FP.ddiv (FP.l2d 0) 4643211215818981376 := by
    unfold qSd qSq qSs
    rw [zsumL_c (c := (2 * S (2 + o)).toInt64 * (2 * S (2 + o)).toInt64) (fun v hv => by rw [zTk_ck S hv ho]), zsumL_c (c := (2 * S (2 + o)).toInt64) (fun v hv => by rw [zTk_ck S hv ho])]
    generalize (2 * S (2 + o)).toInt64 = c
    rw [show 16 * (16 * (c * c)) - 16 * c * (16 * c) = 0 by grind]
  rw [e]; decide +kernel
