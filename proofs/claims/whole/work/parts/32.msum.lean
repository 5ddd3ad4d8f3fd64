/-! sums of ints as longs; small looks -/
theorem zOfL_lo {S : Nat → Int32} {v w : Nat} (h : w < 3) : S (9 + 3 * v + w) = qOfL S v w := by
  rcases (show w = 0 ∨ w = 1 ∨ w = 2 by omega) with rfl | rfl | rfl
  · rfl
  · show _ = S (10 + 3 * v); congr 1; omega
  · show _ = S (11 + 3 * v); congr 1; omega
theorem zOfL_hi {S : Nat → Int32} {v w : Nat} (h : ¬ w < 3) (h7 : w < 7) : qPr S v ((w - 3) / 2) ((w - 3) % 2) = qOfL S v w := by
  rcases (show w = 3 ∨ w = 4 ∨ w = 5 ∨ w = 6 by omega) with rfl | rfl | rfl | rfl <;> rfl
theorem zadd32 {a b : Int32} (h1 : -2147483648 ≤ a.toInt + b.toInt) (h2 : a.toInt + b.toInt < 2147483648) : (a + b).toInt = a.toInt + b.toInt := by
  rw [Int32.toInt_add]
  exact Int.bmod_eq_of_le (by omega) (by omega)
theorem zmul32 {a b : Int32} (h1 : -2147483648 ≤ a.toInt * b.toInt) (h2 : a.toInt * b.toInt < 2147483648) : (a * b).toInt = a.toInt * b.toInt := by
  rw [Int32.toInt_mul]
  exact Int.bmod_eq_of_le (by omega) (by omega)
theorem zadd64 {a b : Int64} (h1 : -9223372036854775808 ≤ a.toInt + b.toInt) (h2 : a.toInt + b.toInt < 9223372036854775808) : (a + b).toInt = a.toInt + b.toInt := by
  rw [Int64.toInt_add]
  exact Int.bmod_eq_of_le (by omega) (by omega)
theorem zmul64 {a b : Int64} (h1 : -9223372036854775808 ≤ a.toInt * b.toInt) (h2 : a.toInt * b.toInt < 9223372036854775808) : (a * b).toInt = a.toInt * b.toInt := by
  rw [Int64.toInt_mul]
  exact Int.bmod_eq_of_le (by omega) (by omega)
/-- a sum of ints, as a long, where all are small -/
theorem zsum_long {f : Nat → Int32} {g : Nat → Int64} {B : Int} (hB : 0 ≤ B ∧ B ≤ 4000000) (hf : ∀ v : Nat, v < 16 → -B ≤ (f v).toInt ∧ (f v).toInt ≤ B) (hg : ∀ v : Nat, v < 16 → (g v).toInt = (f v).toInt) : ∀ n : Nat, n ≤ 16 → (zsumL g n).toInt = (zsum f 0 n).toInt ∧ -(n * B) ≤ (zsum f 0 n).toInt ∧ (zsum f 0 n).toInt ≤ n * B
  | 0, _ => ⟨rfl, by show -((0 : Nat) * B) ≤ 0; omega, by show 0 ≤ ((0 : Nat) : Int) * B; omega⟩
  | n + 1, h => by
    obtain ⟨e, l1, l2⟩ := zsum_long hB hf hg n (by omega)
    obtain ⟨b1, b2⟩ := hf n (by omega)
    have hn := hg n (by omega)
    have hnB : (n : Int) * B ≤ 15 * B := Int.mul_le_mul_of_nonneg_right (by omega) hB.1
    have e1 : (zsum f 0 (n + 1)).toInt = (zsum f 0 n).toInt + (f n).toInt := by
      show (zsum f 0 n + f (0 + n)).toInt = _
      rw [Nat.zero_add]
      exact zadd32 (by omega) (by omega)
    have e2 : (zsumL g (n + 1)).toInt = (zsumL g n).toInt + (g n).toInt := by
      show (zsumL g n + g n).toInt = _
      exact zadd64 (by omega) (by omega)
    have e3 : ((n + 1 : Nat) : Int) * B = n * B + B := by rw [Int.natCast_succ, Int.add_mul, Int.one_mul]
    rw [e1, e2, e3]
    omega
theorem zspread_eq {S : Nat → Int32} {k o : Nat} (h : ∀ v : Nat, v < 16 → -1800 ≤ (qCk S k v o).toInt ∧ (qCk S k v o).toInt ≤ 1800) : FP.ddiv (FP.l2d (16 * (zsum (fun v => qCk S k v o * qCk S k v o) 0 16).toInt64 - (zsum (fun v => qCk S k v o) 0 16).toInt64 * (zsum (fun v => qCk S k v o) 0 16).toInt64)) 4643211215818981376 = qSd S k o := by
  have a1 := zsum_long (f := fun v => qCk S k v o) (g := fun v => (qCk S k v o).toInt64) (B := 1800) (by omega) h (fun v _ => Int32.toInt_toInt64 _) 16 (Nat.le_refl 16)
  have hq : ∀ v : Nat, v < 16 → -3240000 ≤ (qCk S k v o).toInt * (qCk S k v o).toInt ∧ (qCk S k v o).toInt * (qCk S k v o).toInt ≤ 3240000 := by
    intro v hv
    obtain ⟨b1, b2⟩ := h v hv
    generalize (qCk S k v o).toInt = x at b1 b2
    constructor
    · have : 0 ≤ x * x := by
        rcases Int.le_total 0 x with q | q
        · exact Int.mul_nonneg q q
        · have h0 := Int.mul_nonneg (a := -x) (b := -x) (by omega) (by omega)
          rwa [Int.neg_mul_neg] at h0
      omega
    · have h3 : (1800 - x) * (1800 + x) ≥ 0 := Int.mul_nonneg (by omega) (by omega)
      have h4 : (1800 - x) * (1800 + x) = 3240000 - x * x := by
        rw [Int.sub_mul, Int.mul_add, Int.mul_add, Int.mul_comm x 1800]; omega
      omega
  have a2 := zsum_long (f := fun v => qCk S k v o * qCk S k v o) (g := fun v => (qCk S k v o).toInt64 * (qCk S k v o).toInt64) (B := 3240000) (by omega) (fun v hv => by
    have := hq v hv
    rw [zmul32 (by omega) (by omega)]; exact this) (fun v hv => by
    have := hq v hv
    rw [zmul32 (by omega) (by omega), zmul64 (by rw [Int32.toInt_toInt64]; omega) (by rw [Int32.toInt_toInt64]; omega), Int32.toInt_toInt64]) 16 (Nat.le_refl 16)
  have e1 : (zsum (fun v => qCk S k v o) 0 16).toInt64 = qSs S k o := Int64.toInt_inj.mp (by rw [Int32.toInt_toInt64]; exact a1.1.symm)
  have e2 : (zsum (fun v => qCk S k v o * qCk S k v o) 0 16).toInt64 = qSq S k o := Int64.toInt_inj.mp (by rw [Int32.toInt_toInt64]; exact a2.1.symm)
  rw [e1, e2]; rfl
