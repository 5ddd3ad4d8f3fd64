/-! what a text puts into a survey -/
def rEnd (tx : Nat → Nat) (n i : Nat) : Prop := i + 1 = n ∨ tx (i + 1) = 59
def rPut (S : Nat → Int32) (k : Nat) (tx q : Nat → Nat) (n : Nat) : Nat → (Nat → Int32)
  | 0 => S
  | i + 1 => if i + 1 = n ∨ tx (i + 1) = 59 then upd (rPut S k tx q n i) (58 + 65 * k + 4 * (rRun tx q (i + 1) 1) + 2 * (rRun tx q (i + 1) 2) + rRun tx q (i + 1) 3) (rVal (rRun tx q (i + 1))) else rPut S k tx q n i
def rCnt (tx : Nat → Nat) (n : Nat) : Nat → Nat
  | 0 => 0
  | i + 1 => if i + 1 = n ∨ tx (i + 1) = 59 then rCnt tx n i + 1 else rCnt tx n i
theorem rCnt_le (tx : Nat → Nat) (n : Nat) : ∀ i, rCnt tx n i ≤ i
  | 0 => Nat.le_refl _
  | i + 1 => by
    show (if i + 1 = n ∨ tx (i + 1) = 59 then rCnt tx n i + 1 else rCnt tx n i) ≤ i + 1
    have := rCnt_le tx n i
    split <;> omega
theorem rPut_out {S : Nat → Int32} {k n : Nat} {tx q : Nat → Nat} {j : Nat} (hg : ∀ i, i < n → rGood (rRun tx q (i + 1))) (hj : j < 58 + 65 * k ∨ 122 + 65 * k ≤ j) : ∀ i, i ≤ n → rPut S k tx q n i j = S j
  | 0, _ => rfl
  | i + 1, hi => by
    show (if i + 1 = n ∨ tx (i + 1) = 59 then upd (rPut S k tx q n i) _ _ else rPut S k tx q n i) j = S j
    obtain ⟨g0, g1, g2, g3, g4, g5⟩ := hg i (by omega)
    have ih := rPut_out (S := S) hg hj i (by omega)
    by_cases c : i + 1 = n ∨ tx (i + 1) = 59
    · rw [if_pos c, pk_un (by omega)]; exact ih
    · rw [if_neg c]; exact ih
/-- the first error: the sign that a text can't go on with -/
def rErr (tx q : Nat → Nat) (n e : Nat) : Prop := e ≤ n ∧ (∀ j, j < e → rOk (rRun tx q j) (tx j)) ∧ (e < n → ¬ rOk (rRun tx q e) (tx e))
theorem rErr_eq {tx q : Nat → Nat} {n a b : Nat} (ha : rErr tx q n a) (hb : rErr tx q n b) : a = b := by
  obtain ⟨a1, a2, a3⟩ := ha
  obtain ⟨b1, b2, b3⟩ := hb
  rcases Nat.lt_trichotomy a b with h | h | h
  · exact absurd (b2 a h) (a3 (by omega))
  · exact h
  · exact absurd (a2 b h) (b3 (by omega))
def zRpR (S R : Nat → Int32) (k : Nat) (tx q : Nat → Nat) (n i : Nat) : Prop := ∀ j : Nat, j < 384 → R j = zR (rPut S k tx q n i) j
theorem zRpR_1 {S R : Nat → Int32} {k n i : Nat} {tx q : Nat → Nat} (h : zRpR S R k tx q n i) (hk : k < 6) (g : rGood (rRun tx q (i + 1))) (c : i + 1 = n ∨ tx (i + 1) = 59) : zRpR S (upd R (64 * k + 4 * (rRun tx q (i + 1) 1) + 2 * (rRun tx q (i + 1) 2) + rRun tx q (i + 1) 3) (rVal (rRun tx q (i + 1)))) k tx q n (i + 1) := by
  obtain ⟨g0, g1, g2, g3, g4, g5⟩ := g
  intro j hj
  show _ = (if i + 1 = n ∨ tx (i + 1) = 59 then upd (rPut S k tx q n i) (58 + 65 * k + 4 * (rRun tx q (i + 1) 1) + 2 * (rRun tx q (i + 1) 2) + rRun tx q (i + 1) 3) (rVal (rRun tx q (i + 1))) else rPut S k tx q n i) (58 + 65 * (j / 64) + j % 64)
  rw [if_pos c]
  by_cases e : j = 64 * k + 4 * (rRun tx q (i + 1) 1) + 2 * (rRun tx q (i + 1) 2) + rRun tx q (i + 1) 3
  · rw [← e, pk_us, show 58 + 65 * (j / 64) + j % 64 = 58 + 65 * k + 4 * (rRun tx q (i + 1) 1) + 2 * (rRun tx q (i + 1) 2) + rRun tx q (i + 1) 3 by omega, pk_us]
  · rw [pk_un e, pk_un (by omega)]; exact h j hj
theorem zRpR_0 {S R : Nat → Int32} {k n i : Nat} {tx q : Nat → Nat} (h : zRpR S R k tx q n i) (c : ¬ (i + 1 = n ∨ tx (i + 1) = 59)) : zRpR S R k tx q n (i + 1) := by
  intro j hj
  show _ = (if i + 1 = n ∨ tx (i + 1) = 59 then upd (rPut S k tx q n i) (58 + 65 * k + 4 * (rRun tx q (i + 1) 1) + 2 * (rRun tx q (i + 1) 2) + rRun tx q (i + 1) 3) (rVal (rRun tx q (i + 1))) else rPut S k tx q n i) (58 + 65 * (j / 64) + j % 64)
  rw [if_neg c]; exact h j hj
