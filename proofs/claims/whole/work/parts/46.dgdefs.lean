/-! the digest: what is mixed, in order -/
def zH (f : Nat → Int64) (h : Int64) : Nat → Int64
  | 0 => h
  | n + 1 => 31 * zH f h n + f n
def zB1 (x : Int32) : Int64 := if x = 0 then 0 else 1
def zDc (S : Nat → Int32) (v : Int32) (i : Nat) : Int64 := (qCt S v i).toInt64
def zDs (S : Nat → Int32) (i : Nat) : Int64 := (S (6 + i)).toInt64
def zDl (S : Nat → Int32) (i : Nat) : Int64 := (qOfL S (i / 7) (i % 7)).toInt64
def zDgC (S : Nat → Int32) (v : Int32) (h : Int64) : Int64 := zH (zDl S) (zH (zDs S) (zH (zDc S v) h 8) 3) 112
def zHa (S : Nat → Int32) (k i : Nat) : Int64 := (qOfS S k i).toInt64
def zHb (S : Nat → Int32) (k i : Nat) : Int64 := if i % 8 < 6 then (qOfR S k (i / 16) (i / 8 % 2) (i % 8)).toInt64 else (qPl S k (i / 8 % 2) (i / 16 + 1)).toInt64
def zHc (S : Nat → Int32) (k i : Nat) : Int64 := if i % 2 = 0 then zBits (FP.f2d (qMe S k (i / 2))) 8388608 127 (-2147483648) else zBits (qSd S k (i / 2)) 4503599627370496 1023 (-9223372036854775808)
def zHs (S : Nat → Int32) (k : Nat) (h : Int64) : Int64 := zH (zHc S k) (zH (zHb S k) (zH (zHa S k) h 5) 256) 4
def zDgS (S : Nat → Int32) (h : Int64) : Nat → Int64
  | 0 => h
  | k + 1 => zHs S k (zDgS S h k)
def zDgL (S : Nat → Int32) (h : Int64) : Nat → Int64
  | 0 => h
  | m + 1 => 31 * (31 * (31 * zDgL S h m + (qSl S 0 ((m + 2) / 2) ((m + 2) % 2) 16).1.toInt64) + (qFm S 0 ((m + 2) / 2) ((m + 2) % 2) 5 16 0).toInt64) + zBits (qSp S 0 ((m + 2) / 2) ((m + 2) % 2)) 4503599627370496 1023 (-9223372036854775808)
def zDt (tx : Nat → Int32) (i : Nat) : Int64 := (tx i).toInt64
def zDgT (kp : Nat → Int32) (ln : Nat) (tx : Nat → Int32) (h : Int64) : Int64 := zH (zDt tx) (31 * (31 * (31 * h + zB1 (kp 0)) + zB1 (kp 1)) + (nI ln).toInt64) ln
def zDg (S : Nat → Int32) (sv n : Nat) (kp : Nat → Int32) (ln : Nat) (tx : Nat → Int32) : Int64 := zDgT kp ln tx (zDgL S (zDgS S (zDgC S (nI sv) 3533) n) (2 * n - 2))
theorem zDl_r {S : Nat → Int32} {i w : Nat} (h : w < 7) : (qOfL S i w).toInt64 = zDl S (7 * i + w) := by
  unfold zDl; rw [show (7 * i + w) / 7 = i by omega, show (7 * i + w) % 7 = w by omega]
theorem zHb_r {S : Nat → Int32} {k j w : Nat} (h : w < 6) : (qOfR S k (j / 2) (j % 2) w).toInt64 = zHb S k (8 * j + w) := by
  unfold zHb; rw [if_pos (by omega), show (8 * j + w) / 16 = j / 2 by omega, show (8 * j + w) / 8 % 2 = j % 2 by omega, show (8 * j + w) % 8 = w by omega]
theorem zHb_r2 {S : Nat → Int32} {k v o w : Nat} (ho : o < 2) (h : w < 6) : (qOfR S k v o w).toInt64 = zHb S k (16 * v + 8 * o + w) := by
  unfold zHb; rw [if_pos (by omega), show (16 * v + 8 * o + w) / 16 = v by omega, show (16 * v + 8 * o + w) / 8 % 2 = o by omega, show (16 * v + 8 * o + w) % 8 = w by omega]
theorem zHb_q2 {S : Nat → Int32} {k v o w : Nat} (ho : o < 2) (h : 6 ≤ w) (h' : w < 8) : (qPl S k o (v + 1)).toInt64 = zHb S k (16 * v + 8 * o + w) := by
  unfold zHb; rw [if_neg (by omega), show (16 * v + 8 * o + w) / 16 = v by omega, show (16 * v + 8 * o + w) / 8 % 2 = o by omega]
theorem zHb_e {S : Nat → Int32} {k j w : Nat} (hj : j % 2 = 0) (h : 6 ≤ w) (h' : w < 8) : (qPl S k 0 ((j + 2) / 2)).toInt64 = zHb S k (8 * j + w) := by
  unfold zHb; rw [if_neg (by omega), show (8 * j + w) / 16 + 1 = (j + 2) / 2 by omega, show (8 * j + w) / 8 % 2 = 0 by omega]
theorem zHb_o {S : Nat → Int32} {k j w : Nat} (hj : ¬ j % 2 = 0) (h : 6 ≤ w) (h' : w < 8) : (qPl S k 1 ((j + 1) / 2)).toInt64 = zHb S k (8 * j + w) := by
  unfold zHb; rw [if_neg (by omega), show (8 * j + w) / 16 + 1 = (j + 1) / 2 by omega, show (8 * j + w) / 8 % 2 = 1 by omega]
theorem zpl_s (S : Nat → Int32) (k q v : Nat) : qPl S k q v + qTt S k v q = qPl S k q (v + 1) := by
  show zsum (fun v => qTt S k v q) 0 v + qTt S k v q = zsum (fun v => qTt S k v q) 0 v + qTt S k (0 + v) q
  rw [Nat.zero_add]
theorem zpl0y {S : Nat → Int32} {k j : Nat} (h : j % 2 = 0) : qPl S k 0 ((j + 1) / 2) + qTt S k (j / 2) 0 = qPl S k 0 ((j + 2) / 2) := by
  rw [show (j + 1) / 2 = j / 2 by omega, zpl_s, show (j + 2) / 2 = j / 2 + 1 by omega]
theorem zpl0n {S : Nat → Int32} {k j : Nat} (h : ¬ j % 2 = 0) : qPl S k 0 ((j + 1) / 2) + 0 = qPl S k 0 ((j + 2) / 2) := by
  rw [Int32.add_zero, show (j + 1) / 2 = (j + 2) / 2 by omega]
theorem zpl1y {S : Nat → Int32} {k j : Nat} (h : ¬ j % 2 = 0) : qPl S k 1 (j / 2) + qTt S k (j / 2) 1 = qPl S k 1 ((j + 1) / 2) := by
  rw [zpl_s, show (j + 1) / 2 = j / 2 + 1 by omega]
theorem zpl1n {S : Nat → Int32} {k j : Nat} (h : j % 2 = 0) : qPl S k 1 (j / 2) + 0 = qPl S k 1 ((j + 1) / 2) := by
  rw [Int32.add_zero, show (j + 1) / 2 = j / 2 by omega]
theorem zHc_0 {S : Nat → Int32} {k i : Nat} : zBits (FP.f2d (qMe S k i)) 8388608 127 (-2147483648) = zHc S k (2 * i) := by
  unfold zHc; rw [if_pos (by omega), show 2 * i / 2 = i by omega]
theorem zHc_1 {S : Nat → Int32} {k i : Nat} : zBits (qSd S k i) 4503599627370496 1023 (-9223372036854775808) = zHc S k (2 * i + 1) := by
  unfold zHc; rw [if_neg (by omega), show (2 * i + 1) / 2 = i by omega]
theorem zDgL_s {S : Nat → Int32} {h : Int64} {i : Nat} (h2 : 2 ≤ i) : 31 * (31 * (31 * zDgL S h (i - 2) + (qSl S 0 (i / 2) (i % 2) 16).1.toInt64) + (qFm S 0 (i / 2) (i % 2) 5 16 0).toInt64) + zBits (qSp S 0 (i / 2) (i % 2)) 4503599627370496 1023 (-9223372036854775808) = zDgL S h (i + 1 - 2) := by
  obtain ⟨m, rfl⟩ : ∃ m, i = m + 2 := ⟨i - 2, by omega⟩
  rw [show m + 2 - 2 = m by omega, show m + 2 + 1 - 2 = m + 1 by omega]; rfl
theorem zDgL_p {S : Nat → Int32} {h : Int64} {i o : Nat} (h1 : 1 ≤ i) (ho : o < 2) : 31 * (31 * (31 * zDgL S h (2 * i + o - 2) + (qSl S 0 i o 16).1.toInt64) + (qFm S 0 i o 5 16 0).toInt64) + zBits (qSp S 0 i o) 4503599627370496 1023 (-9223372036854775808) = zDgL S h (2 * i + (o + 1) - 2) := by
  have := zDgL_s (S := S) (h := h) (i := 2 * i + o) (by omega)
  rw [show (2 * i + o) / 2 = i by omega, show (2 * i + o) % 2 = o by omega] at this
  rw [this]; rfl
theorem zDig_sp {S : Nat → Int32} {a b p : Nat} : zDig (qSp S a b p) := by
  unfold qSp; split
  · left; exact ⟨false, -1074, zvnul⟩
  · rename_i h; exact zDig_dd h
theorem zDig_sd {S : Nat → Int32} {k o : Nat} : zDig (qSd S k o) := zDig_ld
theorem zDigF_me {S : Nat → Int32} {k o : Nat} : zDigF (qMe S k o) := zDigF_mean
theorem zDigF_nan {x : UInt32} (h : zDigF x) : vf_n64 (FP.f2d x) := by
  refine zn64 (FP.Core.DFin.notNaN ?_)
  rcases zDig_f2d h with h | ⟨s, c, q, h, -⟩
  · exact h.fin
  · exact ⟨_, _, _, h⟩
