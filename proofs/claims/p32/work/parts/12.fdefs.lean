/-! what the findings hold; counts of a row; told tilts -/
/-- commons and what checks are off by, as one row: the first from 12 numbers, the other behind them -/
def zOf (cm : Nat → Int32) : Nat → Int32 := fun j => cm (12 + j)
def zJn (cm of : Nat → Int32) : Nat → Int32 := fun j => if j < 12 then cm j else of (j - 12)
theorem zJn_lo {cm of : Nat → Int32} {j : Nat} (h : j < 12) : cm j = zJn cm of j := (if_pos h).symm
theorem zJn_hi {cm of : Nat → Int32} {j : Nat} : of j = zOf (zJn cm of) j := by
  unfold zOf zJn
  rw [if_neg (by omega), Nat.add_sub_cancel_left]
def zCmC (S cm : Nat → Int32) (n : Nat) : Prop := ∀ k o : Nat, k < n → o < 2 → cm (2 * k + o) = qCm S k o
def zOfF (S of : Nat → Int32) (n : Nat) : Prop := ∀ k v o : Nat, k < n → v < 16 → o < 2 → of (32 * k + 2 * v + o) = qOff S k v o
def zCmF (S cm : Nat → Int32) (n : Nat) : Prop := zCmC S cm n ∧ zOfF S (zOf cm) n
theorem zCmC_j {S cm of : Nat → Int32} {n : Nat} (hn : n ≤ 6) (h : zCmC S cm n) : zCmC S (zJn cm of) n := fun k o a b => (zJn_lo (by omega)).symm.trans (h k o a b)
theorem zOfF_j {S cm of : Nat → Int32} {n : Nat} (h : zOfF S of n) : zOfF S (zOf (zJn cm of)) n := fun k v o a b c => zJn_hi.symm.trans (h k v o a b c)
def zRdF (S rd : Nat → Int32) (n : Nat) : Prop := ∀ k v o : Nat, k < n → v < 16 → o < 2 → rd (32 * k + 2 * v + o) = qTr S k v o
def zTdF (S td : Nat → Int32) (n : Nat) : Prop := ∀ k v o : Nat, k < n → v < 16 → o < 2 → td (32 * k + 2 * v + o) = qTt S k v o
theorem qTr_pos {S : Nat → Int32} {k v o : Nat} (hk : ¬ k = 0) : qTr S k v o = qFresh S k v o (qTr S (k - 1) v o) := by
  obtain ⟨j, rfl⟩ : ∃ j, k = j + 1 := ⟨k - 1, by omega⟩
  rfl
theorem zTt_on {S : Nat → Int32} {k v p : Nat} (h8 : S 8 = 1) (ht : S (11 + 3 * v) = 0 ∨ S (11 + 3 * v) = 1 ∨ S (11 + 3 * v) = 2 ∨ S (11 + 3 * v) = 3) : zTurn ((4 - S (11 + 3 * v)) - (4 - S (11 + 3 * v)) / 4 * 4) (qTr S k v 0) (qTr S k v 1) p = qTt S k v p := by
  unfold qTt
  rw [if_neg (by rw [h8]; decide)]
  refine congrArg (fun q => zTurn q (qTr S k v 0) (qTr S k v 1) p) ?_
  rcases ht with h | h | h | h <;> rw [h] <;> decide
theorem zTt_off {S : Nat → Int32} {k v p : Nat} (h8 : ¬ S 8 = 1) (h9 : S 8 = 0 ∨ S 8 = 1) (hp : p < 2) : zTurn 0 (qTr S k v 0) (qTr S k v 1) p = qTt S k v p := by
  unfold qTt
  rw [if_pos (h9.resolve_right h8)]
  rcases (show p = 0 ∨ p = 1 by omega) with rfl | rfl <;> rfl
def zcnt (P : Int32 → Bool) (f : Nat → Int32) : Nat → Nat
  | 0 => 0
  | n + 1 => zcnt P f n + (if P (f n) = true then 1 else 0)
theorem zcnt_congr {P : Int32 → Bool} {f g : Nat → Int32} : ∀ {n : Nat}, (∀ j, j < n → f j = g j) → zcnt P f n = zcnt P g n
  | 0, _ => rfl
  | n + 1, h => by
    show zcnt P f n + _ = zcnt P g n + _
    rw [zcnt_congr (fun j hj => h j (by omega)), h n (by omega)]
theorem zcnt_ins {P : Int32 → Bool} {f g : Nat → Int32} {p : Nat} {c : Int32} (h1 : ∀ j, j < p → g j = f j) (h2 : g p = c) : ∀ (i : Nat), p ≤ i → (∀ j, p < j → j ≤ i → g j = f (j - 1)) → zcnt P g (i + 1) = zcnt P f i + (if P c = true then 1 else 0) := by
  intro i
  induction i with
  | zero =>
    intro hp _
    obtain rfl : p = 0 := by omega
    show zcnt P g 0 + _ = zcnt P f 0 + _
    rw [h2]; rfl
  | succ i ih =>
    intro hp h3
    rcases Nat.lt_or_ge i p with h | h
    · obtain rfl : p = i + 1 := by omega
      show zcnt P g (i + 1) + (if P (g (i + 1)) = true then 1 else 0) = _
      rw [h2, zcnt_congr (f := g) (g := f) h1]
    · show zcnt P g (i + 1) + (if P (g (i + 1)) = true then 1 else 0) = zcnt P f i + (if P (f i) = true then 1 else 0) + _
      rw [ih h (fun j a b => h3 j a (by omega)), h3 (i + 1) (by omega) (Nat.le_refl _)]
      simp only [Nat.add_sub_cancel]
      omega
/-- a row of the first i checks, in order: sorted, and of as many of each kind -/
def zOrd (S : Nat → Int32) (k o : Nat) (od : Nat → Int32) (i : Nat) : Prop := (∀ a b : Nat, a < b → b < i → od a ≤ od b) ∧ ∀ P : Int32 → Bool, zcnt P od i = zcnt P (fun v => qCk S k v o) i
theorem zOrd_put {S : Nat → Int32} {k o i p : Nat} {od g : Nat → Int32} (h : zOrd S k o od i) (hp : p ≤ i) (h1 : ∀ j, j < p → g j = od j) (h2 : g p = qCk S k i o) (h3 : ∀ j, p < j → j ≤ i → g j = od (j - 1)) (h4 : ∀ j, p ≤ j → j < i → qCk S k i o < od j) (h5 : 0 < p → od (p - 1) ≤ qCk S k i o) : zOrd S k o g (i + 1) := by
  refine ⟨fun a b hab hb => ?_, fun P => ?_⟩
  · rcases Nat.lt_trichotomy b p with q | q | q
    · rw [h1 a (by omega), h1 b q]; exact h.1 a b hab (by omega)
    · subst q
      rw [h1 a hab, h2]
      rcases (show a = b - 1 ∨ a < b - 1 by omega) with r | r
      · rw [r]; exact h5 (by omega)
      · exact Int32.le_trans (h.1 a (b - 1) r (by omega)) (h5 (by omega))
    · rw [h3 b q (by omega)]
      rcases Nat.lt_trichotomy a p with r | r | r
      · rw [h1 a r]
        rcases (show a = b - 1 ∨ a < b - 1 by omega) with u | u
        · rw [← u]; exact Int32.le_refl _
        · exact h.1 a (b - 1) u (by omega)
      · rw [r, h2]; exact Int32.le_of_lt (h4 (b - 1) (by omega) (by omega))
      · rw [h3 a r (by omega)]; exact h.1 (a - 1) (b - 1) (by omega) (by omega)
  · rw [zcnt_ins h1 h2 i hp h3, h.2 P]; rfl
theorem zcnt_le {P : Int32 → Bool} {f : Nat → Int32} : ∀ {n m : Nat}, (∀ j, j < n → m ≤ j → P (f j) = false) → zcnt P f n ≤ m
  | 0, _, _ => Nat.zero_le _
  | n + 1, m, h => by
    show zcnt P f n + (if P (f n) = true then 1 else 0) ≤ m
    by_cases q : m ≤ n
    · rw [h n (by omega) q]
      exact zcnt_le (fun j a b => h j (by omega) b)
    · have := zcnt_len (P := P) (f := f) (n := n)
      split <;> omega
where
  zcnt_len {P : Int32 → Bool} {f : Nat → Int32} : ∀ {n : Nat}, zcnt P f n ≤ n
  | 0 => Nat.le_refl _
  | n + 1 => by
    show zcnt P f n + (if P (f n) = true then 1 else 0) ≤ n + 1
    have := zcnt_len (P := P) (f := f) (n := n)
    split <;> omega
theorem zcnt_ge {P : Int32 → Bool} {f : Nat → Int32} {m : Nat} : ∀ {n : Nat}, m ≤ n → (∀ j, j < m → P (f j) = true) → m ≤ zcnt P f n
  | 0, h, _ => by omega
  | n + 1, h, hp => by
    show m ≤ zcnt P f n + (if P (f n) = true then 1 else 0)
    rcases Nat.lt_or_ge n m with q | q
    · obtain rfl : m = n + 1 := by omega
      have := zcnt_ge (P := P) (f := f) (m := n) (n := n) (Nat.le_refl _) (fun j hj => hp j (by omega))
      rw [hp n (by omega)]
      simp only [if_true]
      omega
    · have := zcnt_ge (P := P) (f := f) (m := m) (n := n) q hp
      omega
theorem zcnt_ex {P : Int32 → Bool} {f : Nat → Int32} : ∀ {n : Nat}, 0 < zcnt P f n → ∃ j, j < n ∧ P (f j) = true
  | 0, h => absurd h (Nat.lt_irrefl 0)
  | n + 1, h => by
    by_cases q : P (f n) = true
    · exact ⟨n, Nat.lt_succ_self n, q⟩
    · have h' : 0 < zcnt P f n + (if P (f n) = true then 1 else 0) := h
      rw [if_neg q] at h'
      obtain ⟨j, a, b⟩ := zcnt_ex h'
      exact ⟨j, by omega, b⟩
theorem qBel_cnt (S : Nat → Int32) (k o : Nat) (x : Int32) : ∀ n, qBel S k o x n = zcnt (fun z => decide (z < x)) (fun v => qCk S k v o) n
  | 0 => rfl
  | n + 1 => by
    show qBel S k o x n + _ = zcnt _ _ n + _
    rw [qBel_cnt S k o x n]
    simp only [decide_eq_true_eq]
theorem qNab_cnt (S : Nat → Int32) (k o : Nat) (x : Int32) : ∀ n, qNab S k o x n = zcnt (fun z => decide (z ≤ x)) (fun v => qCk S k v o) n
  | 0 => rfl
  | n + 1 => by
    show qNab S k o x n + _ = zcnt _ _ n + _
    rw [qNab_cnt S k o x n]
    simp only [decide_eq_true_eq]
/-- more than are not above a smaller one -/
theorem zcnt_mono {f : Nat → Int32} {P Q : Int32 → Bool} (h : ∀ z, P z = true → Q z = true) : ∀ n, zcnt P f n ≤ zcnt Q f n
  | 0 => Nat.le_refl _
  | n + 1 => by
    show zcnt P f n + (if P (f n) = true then 1 else 0) ≤ zcnt Q f n + (if Q (f n) = true then 1 else 0)
    have := zcnt_mono (f := f) h n
    by_cases q : P (f n) = true
    · rw [if_pos q, if_pos (h _ q)]; omega
    · rw [if_neg q]; omega
theorem qCmL_uniq {S : Nat → Int32} {k o : Nat} {x : Int32} (h1 : qBel S k o x 16 < 8) (h2 : 8 ≤ qNab S k o x 16) : ∀ n, (∃ j, j < n ∧ qCk S k j o = x) → qCmL S k o n = x
  | 0, ⟨j, h, _⟩ => absurd h (Nat.not_lt_zero j)
  | n + 1, ⟨j, hj, he⟩ => by
    show (if qBel S k o (qCk S k n o) 16 < 8 ∧ 8 ≤ qNab S k o (qCk S k n o) 16 then qCk S k n o else qCmL S k o n) = x
    by_cases q : qBel S k o (qCk S k n o) 16 < 8 ∧ 8 ≤ qNab S k o (qCk S k n o) 16
    · rw [if_pos q]
      rw [qBel_cnt] at h1 q
      rw [qNab_cnt] at h2 q
      rcases (show qCk S k n o < x ∨ qCk S k n o = x ∨ x < qCk S k n o by
        by_cases r1 : qCk S k n o < x
        · exact Or.inl r1
        · by_cases r2 : x < qCk S k n o
          · exact Or.inr (Or.inr r2)
          · exact Or.inr (Or.inl (Int32.le_antisymm (Int32.not_lt.mp r2) (Int32.not_lt.mp r1)))) with r | r | r
      · have := zcnt_mono (f := fun v => qCk S k v o) (P := fun z => decide (z ≤ qCk S k n o)) (Q := fun z => decide (z < x)) (fun z hz => by
          simp only [decide_eq_true_eq] at hz ⊢
          exact Int32.lt_of_le_of_lt hz r) 16
        omega
      · exact r
      · have := zcnt_mono (f := fun v => qCk S k v o) (P := fun z => decide (z ≤ x)) (Q := fun z => decide (z < qCk S k n o)) (fun z hz => by
          simp only [decide_eq_true_eq] at hz ⊢
          exact Int32.lt_of_le_of_lt hz r) 16
        omega
    · rw [if_neg q]
      refine qCmL_uniq h1 h2 n ⟨j, ?_, he⟩
      rcases (show j < n ∨ j = n by omega) with r | r
      · exact r
      · subst r; rw [he] at q; exact absurd ⟨h1, h2⟩ q
theorem zOrd_mid {S : Nat → Int32} {k o : Nat} {od : Nat → Int32} (h : zOrd S k o od 16) : od 7 = qCm S k o := by
  have hb : qBel S k o (od 7) 16 < 8 := by
    rw [qBel_cnt, ← h.2]
    refine Nat.lt_succ_of_le (zcnt_le (m := 7) fun j hj h7 => ?_)
    rcases (show j = 7 ∨ 7 < j by omega) with r | r
    · rw [r]; exact decide_eq_false (fun h => Int32.lt_irrefl h)
    · exact decide_eq_false (Int32.not_lt.mpr (h.1 7 j r hj))
  have hn : 8 ≤ qNab S k o (od 7) 16 := by
    rw [qNab_cnt, ← h.2]
    refine zcnt_ge (by omega) fun j hj => ?_
    rcases (show j = 7 ∨ j < 7 by omega) with r | r
    · rw [r]; exact decide_eq_true (Int32.le_refl _)
    · exact decide_eq_true (h.1 j 7 r (by omega))
  have he : ∃ j, j < 16 ∧ qCk S k j o = od 7 := by
    have := zcnt_ge (P := fun z => decide (z = od 7)) (f := fun j => od (7 + j)) (m := 1) (n := 1) (Nat.le_refl _) (fun j hj => by
      obtain rfl : j = 0 := by omega
      exact decide_eq_true rfl)
    have h0 : 0 < zcnt (fun z => decide (z = od 7)) od 16 := by
      rcases Nat.eq_zero_or_pos (zcnt (fun z => decide (z = od 7)) od 16) with r | r
      · exfalso
        have : ∀ n, 7 < n → 0 < zcnt (fun z => decide (z = od 7)) od n := by
          intro n
          induction n with
          | zero => intro h; omega
          | succ n ih =>
            intro h
            show 0 < zcnt _ od n + (if decide (od n = od 7) = true then 1 else 0)
            rcases (show n = 7 ∨ 7 < n by omega) with u | u
            · rw [u]; simp
            · have := ih u; omega
        have := this 16 (by omega)
        omega
      · exact r
    rw [h.2] at h0
    obtain ⟨j, a, b⟩ := zcnt_ex h0
    exact ⟨j, a, of_decide_eq_true b⟩
  exact (qCmL_uniq hb hn 16 he).symm
