/-! the numbers of a state, S as the reference lays them; what is told of it -/
def zT (S : Nat → Int32) : Nat → Int32 := fun j => S (9 + 3 * (j / 2) + j % 2)
def zU (S : Nat → Int32) : Nat → Int32 := fun j => S (11 + 3 * j)
def zB (S : Nat → Int32) : Nat → Int32 := fun j => S (2 + j)
def zE (S : Nat → Int32) : Nat → Int32 := fun j => S (6 + j)
def zR (S : Nat → Int32) : Nat → Int32 := fun j => S (58 + 65 * (j / 64) + j % 64)
def zY (S : Nat → Int32) : Nat → Int32 := fun j => S (57 + 65 * j)
/-- what is met in one of two directions -/
def zTurn (q a b : Int32) (d : Nat) : Int32 := if q = 0 then (if d = 0 then a else b) else if q = 1 then (if d = 0 then b else -a) else if q = 2 then (if d = 0 then -a else -b) else (if d = 0 then -b else a)
def qAbs (x : Int32) : Int32 := if 0 ≤ x then x else 0 - x
def qOwn (S : Nat → Int32) (v o : Nat) : Int32 := zTurn (S (11 + 3 * v)) (S (9 + 3 * v)) (S (10 + 3 * v)) o
def qPr (S : Nat → Int32) (v o f : Nat) : Int32 := if f = 0 then S (2 + o) + qOwn S v o else S (2 + o) - qOwn S v o
def qRd (S : Nat → Int32) (k v o f : Nat) : Int32 := S (58 + 65 * k + 4 * v + 2 * o + f)
def qCk (S : Nat → Int32) (k v o : Nat) : Int32 := qRd S k v o 0 + qRd S k v o 1
def qBel (S : Nat → Int32) (k o : Nat) (x : Int32) : Nat → Nat
  | 0 => 0
  | n + 1 => qBel S k o x n + (if qCk S k n o < x then 1 else 0)
def qNab (S : Nat → Int32) (k o : Nat) (x : Int32) : Nat → Nat
  | 0 => 0
  | n + 1 => qNab S k o x n + (if qCk S k n o ≤ x then 1 else 0)
def qCmL (S : Nat → Int32) (k o : Nat) : Nat → Int32
  | 0 => 0
  | n + 1 => if qBel S k o (qCk S k n o) 16 < 8 ∧ 8 ≤ qNab S k o (qCk S k n o) 16 then qCk S k n o else qCmL S k o n
def qCm (S : Nat → Int32) (k o : Nat) : Int32 := qCmL S k o 16
def qOff (S : Nat → Int32) (k v o : Nat) : Int32 := qAbs (qCk S k v o - qCm S k o)
def qFresh (S : Nat → Int32) (k v o : Nat) (b : Int32) : Int32 := if S 7 = 1 ∧ S 6 < qOff S k v o then (if 0 < k ∧ qAbs (qCm S k o / 2 - qRd S k v o 1 - b) < qAbs (qRd S k v o 0 - qCm S k o / 2 - b) then qCm S k o / 2 - qRd S k v o 1 else qRd S k v o 0 - qCm S k o / 2) else (qRd S k v o 0 - qRd S k v o 1) / 2
def qTs (S : Nat → Int32) (v o : Nat) : Nat → Int32
  | 0 => 0
  | k + 1 => qFresh S k v o (qTs S v o k)
def qTr (S : Nat → Int32) (k v o : Nat) : Int32 := qTs S v o (k + 1)
def qTt (S : Nat → Int32) (k v p : Nat) : Int32 := if S 8 = 0 then qTr S k v p else zTurn (if S (11 + 3 * v) = 0 then 0 else 4 - S (11 + 3 * v)) (qTr S k v 0) (qTr S k v 1) p
def zsum (f : Nat → Int32) (a : Nat) : Nat → Int32
  | 0 => 0
  | n + 1 => zsum f a n + f (a + n)
def zsumL (f : Nat → Int64) : Nat → Int64
  | 0 => 0
  | n + 1 => zsumL f n + f n
def qPl (S : Nat → Int32) (k p n : Nat) : Int32 := zsum (fun v => qTt S k v p) 0 n
def qSn (S : Nat → Int32) (k : Nat) : Nat → Int32
  | 0 => 0
  | j + 1 => qSn S k j + (if S 6 < qOff S k (j / 2) (j % 2) then 1 else 0)
def qWl (S : Nat → Int32) (k : Nat) : Nat → Int32 × Int32
  | 0 => (0, 0)
  | j + 1 => if (qWl S k j).2 < qOff S k (j / 2) (j % 2) then (nI (j / 2), qOff S k (j / 2) (j % 2)) else qWl S k j
def qTn (S : Nat → Int32) : Nat → Int32
  | 0 => 0
  | v + 1 => if S (11 + 3 * v) = 0 then qTn S v else qTn S v + 1
def qDf (S : Nat → Int32) (a b p v : Nat) : Int32 := qTt S b v p - qTt S a v p
def qSl (S : Nat → Int32) (a b p : Nat) : Nat → Int32 × Int32
  | 0 => (-1, 0)
  | v + 1 => if (qSl S a b p v).2 < qAbs (qDf S a b p v) then (nI v, qAbs (qDf S a b p v)) else qSl S a b p v
def qFm (S : Nat → Int32) (a b p : Nat) (by9 : Int32) : Nat → Nat → Int32
  | 0, _ => -1
  | n + 1, v => if by9 ≤ qAbs (zsum (qDf S a b p) 0 (v + 1)) then nI v else qFm S a b p by9 n (v + 1)
def qSp (S : Nat → Int32) (a b p : Nat) : UInt64 := if S (57 + 65 * b) - S (57 + 65 * a) = 0 then FP.dconst0 else FP.ddiv (FP.i2d (qPl S b p 16 - qPl S a p 16)) (FP.i2d (S (57 + 65 * b) - S (57 + 65 * a)))
def qMe (S : Nat → Int32) (k o : Nat) : UInt32 := FP.fdiv (FP.i2f (zsum (fun v => qCk S k v o) 0 16)) 1098907648
def qSs (S : Nat → Int32) (k o : Nat) : Int64 := zsumL (fun v => (qCk S k v o).toInt64) 16
def qSq (S : Nat → Int32) (k o : Nat) : Int64 := zsumL (fun v => (qCk S k v o).toInt64 * (qCk S k v o).toInt64) 16
def qSd (S : Nat → Int32) (k o : Nat) : UInt64 := FP.ddiv (FP.l2d (16 * qSq S k o - qSs S k o * qSs S k o)) 4643211215818981376
theorem zsum_add (f : Nat → Int32) (a m n : Nat) : zsum f a (m + n) = zsum f a m + zsum f (a + m) n := by
  induction n with
  | zero => simp [zsum]
  | succ n ih =>
    show zsum f a (m + n) + f (a + (m + n)) = zsum f a m + (zsum f (a + m) n + f (a + m + n))
    rw [ih, Int32.add_assoc, Nat.add_assoc a m n]
theorem zsw3 (q : Int32) : q = 0 ∨ q = 1 ∨ q = 2 ∨ ((¬ q = 0 ∧ ¬ q = 1 ∧ ¬ q = 2) ∧ (q.toInt < 0 ∨ 2 < q.toInt)) := by
  by_cases h0 : q = 0
  · exact Or.inl h0
  by_cases h1 : q = 1
  · exact Or.inr (Or.inl h1)
  by_cases h2 : q = 2
  · exact Or.inr (Or.inr (Or.inl h2))
  refine Or.inr (Or.inr (Or.inr ⟨⟨h0, h1, h2⟩, ?_⟩))
  have g0 : ¬ q.toInt = 0 := fun h => h0 (Int32.toInt_inj.mp (h.trans (by decide)))
  have g1 : ¬ q.toInt = 1 := fun h => h1 (Int32.toInt_inj.mp (h.trans (by decide)))
  have g2 : ¬ q.toInt = 2 := fun h => h2 (Int32.toInt_inj.mp (h.trans (by decide)))
  omega
