/-! a survey's readings; signs -/
def zGs (f : Nat → Nat) : Nat → Option Nat := fun j => some (f (61 + 7 * j))
def zSvR (S R : Nat → Int32) (n i : Nat) : Prop := ∀ j : Nat, R j = if 64 * n ≤ j ∧ j < 64 * n + 4 * i then qPr S ((j - 64 * n) / 4) ((j - 64 * n) / 2 % 2) ((j - 64 * n) % 2) else zR S j
theorem zSvR_0 {S : Nat → Int32} {n : Nat} : zSvR S (zR S) n 0 := fun j => by rw [if_neg (by omega)]
theorem zSvR_1 {S R : Nat → Int32} {n i : Nat} (h : zSvR S R n i) : zSvR S (upd (upd (upd (upd R (64 * n + 4 * i + 2 * 0 + 0) (qPr S i 0 0)) (64 * n + 4 * i + 2 * 0 + 1) (qPr S i 0 1)) (64 * n + 4 * i + 2 * 1 + 0) (qPr S i 1 0)) (64 * n + 4 * i + 2 * 1 + 1) (qPr S i 1 1)) n (i + 1) := by
  intro j
  rcases (show j = 64 * n + 4 * i + 2 * 1 + 1 ∨ j = 64 * n + 4 * i + 2 * 1 + 0 ∨ j = 64 * n + 4 * i + 2 * 0 + 1 ∨ j = 64 * n + 4 * i + 2 * 0 + 0 ∨ (j ≠ 64 * n + 4 * i + 2 * 1 + 1 ∧ j ≠ 64 * n + 4 * i + 2 * 1 + 0 ∧ j ≠ 64 * n + 4 * i + 2 * 0 + 1 ∧ j ≠ 64 * n + 4 * i + 2 * 0 + 0) by omega) with q | q | q | q | ⟨q1, q2, q3, q4⟩
  · subst q
    rw [pk_us, if_pos (by omega), show (64 * n + 4 * i + 2 * 1 + 1 - 64 * n) / 4 = i by omega, show (64 * n + 4 * i + 2 * 1 + 1 - 64 * n) / 2 % 2 = 1 by omega, show (64 * n + 4 * i + 2 * 1 + 1 - 64 * n) % 2 = 1 by omega]
  · subst q
    rw [pk_un (by omega), pk_us, if_pos (by omega), show (64 * n + 4 * i + 2 * 1 + 0 - 64 * n) / 4 = i by omega, show (64 * n + 4 * i + 2 * 1 + 0 - 64 * n) / 2 % 2 = 1 by omega, show (64 * n + 4 * i + 2 * 1 + 0 - 64 * n) % 2 = 0 by omega]
  · subst q
    rw [pk_un (by omega), pk_un (by omega), pk_us, if_pos (by omega), show (64 * n + 4 * i + 2 * 0 + 1 - 64 * n) / 4 = i by omega, show (64 * n + 4 * i + 2 * 0 + 1 - 64 * n) / 2 % 2 = 0 by omega, show (64 * n + 4 * i + 2 * 0 + 1 - 64 * n) % 2 = 1 by omega]
  · subst q
    rw [pk_un (by omega), pk_un (by omega), pk_un (by omega), pk_us, if_pos (by omega), show (64 * n + 4 * i + 2 * 0 + 0 - 64 * n) / 4 = i by omega, show (64 * n + 4 * i + 2 * 0 + 0 - 64 * n) / 2 % 2 = 0 by omega, show (64 * n + 4 * i + 2 * 0 + 0 - 64 * n) % 2 = 0 by omega]
  · rw [pk_un q1, pk_un q2, pk_un q3, pk_un q4, h j]
    by_cases r : 64 * n ≤ j ∧ j < 64 * n + 4 * i
    · rw [if_pos r, if_pos (by omega)]
    · rw [if_neg r, if_neg (by omega)]
theorem zSvR_16 {S R : Nat → Int32} {n : Nat} (h : zSvR S R n 16) : ∀ j : Nat, j < 384 → R j = zR (qSv S n) j := by
  intro j _
  rw [h j]
  show _ = (if 58 + 65 * (j / 64) + j % 64 = 1 then _ else if 58 + 65 * (j / 64) + j % 64 = 4 then _ else if 58 + 65 * (j / 64) + j % 64 = 57 + 65 * n then _ else if 58 + 65 * n ≤ 58 + 65 * (j / 64) + j % 64 ∧ 58 + 65 * (j / 64) + j % 64 < 122 + 65 * n then qPr S ((58 + 65 * (j / 64) + j % 64 - 58 - 65 * n) / 4) ((58 + 65 * (j / 64) + j % 64 - 58 - 65 * n) / 2 % 2) ((58 + 65 * (j / 64) + j % 64 - 58 - 65 * n) % 2) else S (58 + 65 * (j / 64) + j % 64))
  by_cases r : 64 * n ≤ j ∧ j < 64 * n + 4 * 16
  · rw [if_pos r, if_neg (by omega), if_neg (by omega), if_neg (by omega), if_pos (by omega), show 58 + 65 * (j / 64) + j % 64 - 58 - 65 * n = j - 64 * n by omega]
  · rw [if_neg r, if_neg (by omega), if_neg (by omega), if_neg (by omega), if_neg (by omega)]; rfl
theorem zi2c {c : Nat} (h : c < 65536) : ((nI c).toUInt32 % 65536).toInt32 = nI c := by rw [pk_char, pk_tn (by omega), Nat.mod_eq_of_lt h]
theorem znc {c : Nat} (h : c < 65536) : vp_nar .char (nI c) = nI c := by unfold vp_nar; rw [(pk_charN h).1]
