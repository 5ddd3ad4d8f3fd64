/-! the reference: its numbers S (4023 of them), what its looks tell -/
def qTq (S : Nat → Int32) (v : Nat) : Nat := (S (11 + 3 * v)).toNatClampNeg
def hTq (S : Nat → Int32) : Prop := ∀ v : Nat, v < 16 → S (11 + 3 * v) = nI (qTq S v) ∧ qTq S v < 4
theorem zneg (x : Int32) : -x = 0 - x := (Int32.zero_sub x).symm
theorem nI4 {t : Nat} (h : t < 4) : (nI t = 0 ↔ t = 0) ∧ (nI t = 1 ↔ t = 1) ∧ (nI t = 2 ↔ t = 2) := by
  rcases (show t = 0 ∨ t = 1 ∨ t = 2 ∨ t = 3 by omega) with rfl | rfl | rfl | rfl <;> decide
theorem zOwn_lo {S : Nat → Int32} {v o t : Nat} (ht : S (11 + 3 * v) = nI t) (h4 : t < 4) (ho : o < 2) (h : (t + o) % 4 < 2) : S (9 + 3 * v + (t + o) % 2) = qOwn S v o := by
  unfold qOwn zTurn
  rw [ht]
  rcases (show t = 0 ∨ t = 1 ∨ t = 2 ∨ t = 3 by omega) with rfl | rfl | rfl | rfl <;> rcases (show o = 0 ∨ o = 1 by omega) with rfl | rfl <;> first | (exfalso; omega) | (simp [nI]; try (congr 1; omega))
theorem zOwn_hi {S : Nat → Int32} {v o t : Nat} (ht : S (11 + 3 * v) = nI t) (h4 : t < 4) (ho : o < 2) (h : ¬ (t + o) % 4 < 2) : -S (9 + 3 * v + (t + o) % 2) = qOwn S v o := by
  unfold qOwn zTurn
  rw [ht]
  rcases (show t = 0 ∨ t = 1 ∨ t = 2 ∨ t = 3 by omega) with rfl | rfl | rfl | rfl <;> rcases (show o = 0 ∨ o = 1 by omega) with rfl | rfl <;> first | (exfalso; omega) | (simp [nI]; try (congr 1; omega))
theorem zTold_lo {S : Nat → Int32} {k v p t : Nat} (h8 : ¬ S 8 = 0) (ht : S (11 + 3 * v) = nI t) (h4 : t < 4) (hp : p < 2) (h : (t + (t + p) % 2) % 4 < 2) : qTr S k v ((t + p) % 2) = qTt S k v p := by
  unfold qTt zTurn
  rw [if_neg h8, ht]
  rcases (show t = 0 ∨ t = 1 ∨ t = 2 ∨ t = 3 by omega) with rfl | rfl | rfl | rfl <;> rcases (show p = 0 ∨ p = 1 by omega) with rfl | rfl <;> first | (exfalso; omega) | (simp [nI]; done) | rfl
theorem zTold_hi {S : Nat → Int32} {k v p t : Nat} (h8 : ¬ S 8 = 0) (ht : S (11 + 3 * v) = nI t) (h4 : t < 4) (hp : p < 2) (h : ¬ (t + (t + p) % 2) % 4 < 2) : -qTr S k v ((t + p) % 2) = qTt S k v p := by
  unfold qTt zTurn
  rw [if_neg h8, ht]
  rcases (show t = 0 ∨ t = 1 ∨ t = 2 ∨ t = 3 by omega) with rfl | rfl | rfl | rfl <;> rcases (show p = 0 ∨ p = 1 by omega) with rfl | rfl <;> first | (exfalso; omega) | (simp [nI]; done) | rfl
theorem qBel_le (S : Nat → Int32) (k o : Nat) (x : Int32) : ∀ n, qBel S k o x n ≤ n
  | 0 => Nat.le_refl _
  | n + 1 => by
    show qBel S k o x n + (if qCk S k n o < x then 1 else 0) ≤ n + 1
    have := qBel_le S k o x n
    split <;> omega
theorem qNab_le (S : Nat → Int32) (k o : Nat) (x : Int32) : ∀ n, qNab S k o x n ≤ n
  | 0 => Nat.le_refl _
  | n + 1 => by
    show qNab S k o x n + (if qCk S k n o ≤ x then 1 else 0) ≤ n + 1
    have := qNab_le S k o x n
    split <;> omega
theorem qBel_y {S : Nat → Int32} {k o n : Nat} {x : Int32} (h : qCk S k n o < x) : qBel S k o x n + 1 = qBel S k o x (n + 1) := by
  show _ = qBel S k o x n + (if qCk S k n o < x then 1 else 0)
  rw [if_pos h]
theorem qBel_n {S : Nat → Int32} {k o n : Nat} {x : Int32} (h : ¬ qCk S k n o < x) : qBel S k o x n + 0 = qBel S k o x (n + 1) := by
  show _ = qBel S k o x n + (if qCk S k n o < x then 1 else 0)
  rw [if_neg h]
theorem qNab_y {S : Nat → Int32} {k o n : Nat} {x : Int32} (h : qCk S k n o ≤ x) : qNab S k o x n + 1 = qNab S k o x (n + 1) := by
  show _ = qNab S k o x n + (if qCk S k n o ≤ x then 1 else 0)
  rw [if_pos h]
theorem qNab_n {S : Nat → Int32} {k o n : Nat} {x : Int32} (h : ¬ qCk S k n o ≤ x) : qNab S k o x n + 0 = qNab S k o x (n + 1) := by
  show _ = qNab S k o x n + (if qCk S k n o ≤ x then 1 else 0)
  rw [if_neg h]
theorem qCmL_y {S : Nat → Int32} {k o n : Nat} (h1 : qBel S k o (qCk S k n o) 16 < 8) (h2 : ¬ qNab S k o (qCk S k n o) 16 < 8) : qCk S k n o = qCmL S k o (n + 1) := by
  show _ = (if qBel S k o (qCk S k n o) 16 < 8 ∧ 8 ≤ qNab S k o (qCk S k n o) 16 then qCk S k n o else qCmL S k o n)
  rw [if_pos ⟨h1, by omega⟩]
theorem qCmL_n {S : Nat → Int32} {k o n : Nat} (h : ¬ (qBel S k o (qCk S k n o) 16 < 8 ∧ 8 ≤ qNab S k o (qCk S k n o) 16)) : qCmL S k o n = qCmL S k o (n + 1) := by
  show _ = (if qBel S k o (qCk S k n o) 16 < 8 ∧ 8 ≤ qNab S k o (qCk S k n o) 16 then qCk S k n o else qCmL S k o n)
  rw [if_neg h]
/-- a chunk of 447 numbers copied -/
def cpS (S : Nat → Int32) (a b : Nat) : Nat → Int32 := fun j => if 447 * b ≤ j ∧ j < 447 * b + 447 then S (447 * a + (j - 447 * b)) else S j
def cpP (S R : Nat → Int32) (a b i : Nat) : Prop := ∀ j : Nat, R j = if 447 * b ≤ j ∧ j < 447 * b + i then S (447 * a + (j - 447 * b)) else S j
theorem cpP_0 {S : Nat → Int32} {a b : Nat} : cpP S S a b 0 := fun j => by rw [if_neg (by omega)]
theorem cpP_1 {S R : Nat → Int32} {a b i : Nat} (h : cpP S R a b i) (hab : a ≠ b) (hi : i < 447) : cpP S (upd R (447 * b + i) (R (447 * a + i))) a b (i + 1) := by
  intro j
  by_cases e : j = 447 * b + i
  · subst e
    rw [pk_us, if_pos (by omega), h (447 * a + i), if_neg (by omega), show 447 * b + i - 447 * b = i by omega]
  · rw [pk_un e, h j]
    by_cases r : 447 * b ≤ j ∧ j < 447 * b + i
    · rw [if_pos r, if_pos (by omega)]
    · rw [if_neg r, if_neg (by omega)]
theorem cpP_e {S R : Nat → Int32} {a b i : Nat} (h : cpP S R a b i) (hi : i = 447) : R = cpS S a b := by
  subst hi; exact funext h
def svS (S : Nat → Int32) (v : Nat) : Nat → Int32 := if v = 6 then cpS (cpS (cpS (cpS (cpS (cpS S 2 1) 3 2) 4 3) 5 4) 6 5) 0 6 else cpS S 0 (v + 1)
def sv2 (v : Nat) : Nat := if v = 6 then 6 else v + 1
theorem cpS_lo {S : Nat → Int32} {a b j : Nat} (hb : 0 < b) (hj : j < 447) : cpS S a b j = S j := by
  unfold cpS; rw [if_neg (by omega)]
theorem svS_lo {S : Nat → Int32} {v j : Nat} (hj : j < 447) : svS S v j = S j := by
  unfold svS
  by_cases h : v = 6
  · rw [if_pos h, cpS_lo (by omega) hj, cpS_lo (by omega) hj, cpS_lo (by omega) hj, cpS_lo (by omega) hj, cpS_lo (by omega) hj, cpS_lo (by omega) hj]
  · rw [if_neg h, cpS_lo (by omega) hj]
