/-! looks: what is answered -/
def qOfL (S : Nat → Int32) (v w : Nat) : Int32 := if w = 0 then S (9 + 3 * v) else if w = 1 then S (10 + 3 * v) else if w = 2 then S (11 + 3 * v) else if w = 3 then qPr S v 0 0 else if w = 4 then qPr S v 0 1 else if w = 5 then qPr S v 1 0 else qPr S v 1 1
def qOfR (S : Nat → Int32) (k v o w : Nat) : Int32 := if w = 0 then qRd S k v o 0 else if w = 1 then qRd S k v o 1 else if w = 2 then qCk S k v o else if w = 3 then (if S 6 < qOff S k v o then 1 else 0) else if w = 4 then qTr S k v o else qTt S k v o
def qOfS (S : Nat → Int32) (k w : Nat) : Int32 := if w = 0 then S (57 + 65 * k) else if w = 1 then qCm S k 0 else if w = 2 then qCm S k 1 else if w = 3 then qSn S k 32 else (qWl S k 32).1
def qCt (S : Nat → Int32) (b : Int32) (w : Nat) : Int32 := if w = 6 then qTn S 16 else if w = 7 then b else S w
theorem zsum_step {f : Nat → Int32} {a i : Nat} (h : a ≤ i) : zsum f a (i - a) + f i = zsum f a (i + 1 - a) := by
  rw [show i + 1 - a = (i - a) + 1 by omega]
  show _ = zsum f a (i - a) + f (a + (i - a))
  rw [show a + (i - a) = i by omega]
theorem zsum_head {f : Nat → Int32} {v : Nat} (h : v < 16) : zsum f 0 (15 + 1 - 0) - zsum f (v + 1) (15 + 1 - (v + 1)) = zsum f 0 (v + 1) := by
  rw [show 15 + 1 - 0 = (v + 1) + (15 + 1 - (v + 1)) by omega, zsum_add, Nat.zero_add, Int32.add_sub_cancel]
theorem qSn2 (S : Nat → Int32) (k i : Nat) : qSn S k (2 * (i + 1)) = qSn S k (2 * i) + (if S 6 < qOff S k i 0 then 1 else 0) + (if S 6 < qOff S k i 1 then 1 else 0) := by
  rw [show 2 * (i + 1) = 2 * i + 1 + 1 by omega]
  show qSn S k (2 * i) + (if S 6 < qOff S k (2 * i / 2) (2 * i % 2) then 1 else 0) + (if S 6 < qOff S k ((2 * i + 1) / 2) ((2 * i + 1) % 2) then 1 else 0) = _
  rw [show 2 * i / 2 = i by omega, show 2 * i % 2 = 0 by omega, show (2 * i + 1) / 2 = i by omega, show (2 * i + 1) % 2 = 1 by omega]
theorem qWl_yes {S : Nat → Int32} {k i o j : Nat} (e1 : j / 2 = i) (e2 : j % 2 = o) (h : (qWl S k j).2 < qOff S k i o) : qWl S k (j + 1) = (nI i, qOff S k i o) := by
  show (if (qWl S k j).2 < qOff S k (j / 2) (j % 2) then _ else _) = _
  rw [e1, e2, if_pos h]
theorem qWl_no {S : Nat → Int32} {k i o j : Nat} (e1 : j / 2 = i) (e2 : j % 2 = o) (h : ¬ (qWl S k j).2 < qOff S k i o) : qWl S k (j + 1) = qWl S k j := by
  show (if (qWl S k j).2 < qOff S k (j / 2) (j % 2) then _ else _) = _
  rw [e1, e2, if_neg h]
theorem qSl_yes {S : Nat → Int32} {a b p i : Nat} (h : (qSl S a b p i).2 < qAbs (qDf S a b p i)) : qSl S a b p (i + 1) = (nI i, qAbs (qDf S a b p i)) := if_pos h
theorem qSl_no {S : Nat → Int32} {a b p i : Nat} (h : ¬ (qSl S a b p i).2 < qAbs (qDf S a b p i)) : qSl S a b p (i + 1) = qSl S a b p i := if_neg h
theorem qFm_yes {S : Nat → Int32} {a b p i : Nat} {x : Int32} (hi : i < 16) (h : x ≤ qAbs (zsum (qDf S a b p) 0 (i + 1))) : nI i = qFm S a b p x (16 - i) i := by
  rw [show 16 - i = (15 - i) + 1 by omega]
  exact (if_pos h).symm
theorem qFm_no {S : Nat → Int32} {a b p i : Nat} {x : Int32} (hi : i < 16) (h : ¬ x ≤ qAbs (zsum (qDf S a b p) 0 (i + 1))) : qFm S a b p x (16 - i) i = qFm S a b p x (16 - (i + 1)) (i + 1) := by
  rw [show 16 - i = (16 - (i + 1)) + 1 by omega]
  exact if_neg h
theorem zz_le {a b : Int32} (h : a ≤ b) : ¬ b < a := Int32.not_lt.mpr h
theorem zz_lt {a b : Int32} (h : ¬ a ≤ b) : b < a := Int32.not_le.mp h
