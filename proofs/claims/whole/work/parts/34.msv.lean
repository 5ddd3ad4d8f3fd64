/-! the reference's writers: what they leave in the numbers -/
theorem qPr_eq {S R : Nat → Int32} {v o f : Nat} (h : ∀ j : Nat, j < 57 → R j = S j) (hv : v < 16) (ho : o < 2) : qPr R v o f = qPr S v o f := by
  unfold qPr qOwn
  rw [h (2 + o) (by omega), h (11 + 3 * v) (by omega), h (9 + 3 * v) (by omega), h (10 + 3 * v) (by omega)]
theorem hTq_of {S R : Nat → Int32} (h : ∀ j : Nat, j < 57 → R j = S j) (hT : hTq S) : hTq R := by
  intro v hv
  unfold qTq
  rw [h (11 + 3 * v) (by omega)]
  exact hT v hv
theorem hTq_sv {S : Nat → Int32} {v : Nat} (hT : hTq S) : hTq (svS S v) := hTq_of (fun j hj => svS_lo (by omega)) hT
def sv5 (S R : Nat → Int32) (n i : Nat) : Prop := ∀ j : Nat, R j = if j = 57 + 65 * n then S 0 else if 58 + 65 * n ≤ j ∧ j < 58 + 65 * n + i then qPr S ((j - 58 - 65 * n) / 4) ((j - 58 - 65 * n) / 2 % 2) ((j - 58 - 65 * n) % 2) else S j
theorem sv5_0 {S : Nat → Int32} {n : Nat} : sv5 S (upd S (57 + 65 * n) (S 0)) n 0 := by
  intro j
  by_cases e : j = 57 + 65 * n
  · subst e; rw [pk_us, if_pos rfl]
  · rw [pk_un e, if_neg e, if_neg (by omega)]
theorem sv5_lo {S R : Nat → Int32} {n i : Nat} (h : sv5 S R n i) : ∀ j : Nat, j < 57 → R j = S j := by
  intro j hj
  rw [h j, if_neg (by omega), if_neg (by omega)]
theorem sv5_1 {S R : Nat → Int32} {n i : Nat} (h : sv5 S R n i) (hi : i < 64) : sv5 S (upd R (57 + 65 * n + 1 + i) (qPr R (i / 4) (i / 2 % 2) (i % 2))) n (i + 1) := by
  intro j
  by_cases e : j = 57 + 65 * n + 1 + i
  · subst e
    rw [pk_us, if_neg (by omega), if_pos (by omega), qPr_eq (sv5_lo h) (by omega) (by omega), show 57 + 65 * n + 1 + i - 58 - 65 * n = i by omega]
  · rw [pk_un e, h j]
    by_cases r : 58 + 65 * n ≤ j ∧ j < 58 + 65 * n + i
    · rw [if_pos r, if_pos (show 58 + 65 * n ≤ j ∧ j < 58 + 65 * n + (i + 1) by omega)]
    · rw [if_neg r, if_neg (show ¬ (58 + 65 * n ≤ j ∧ j < 58 + 65 * n + (i + 1)) by omega)]
theorem sv5_e {S R : Nat → Int32} {n : Nat} (h : sv5 S R n 64) (h1 : S 1 = nI n) : upd (upd R 4 (R 4 + 1)) 1 (nI (n + 1)) = qSv S n := by
  funext j
  show _ = (if j = 1 then nI (n + 1) else if j = 4 then S 4 + 1 else if j = 57 + 65 * n then S 0 else if 58 + 65 * n ≤ j ∧ j < 122 + 65 * n then qPr S ((j - 58 - 65 * n) / 4) ((j - 58 - 65 * n) / 2 % 2) ((j - 58 - 65 * n) % 2) else S j)
  by_cases e : j = 1
  · subst e; rw [pk_us, if_pos rfl]
  · rw [pk_un e, if_neg e]
    by_cases e4 : j = 4
    · subst e4; rw [pk_us, if_pos rfl, sv5_lo h 4 (by omega)]
    · rw [pk_un e4, if_neg e4, h j, show 58 + 65 * n + 64 = 122 + 65 * n by omega]
