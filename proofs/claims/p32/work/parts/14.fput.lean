/-! rows put in -/
def zG (f : Nat → Nat) : Nat → Option Nat := fun j => some (f (2 + 7 * j))
theorem zOrd_0 {S : Nat → Int32} {k o : Nat} {od : Nat → Int32} : zOrd S k o od 0 := ⟨fun _ b _ h => absurd h (Nat.not_lt_zero b), fun _ => rfl⟩
theorem zvput {g : Nat → Int32} {q : Nat → Nat → Int32} {k v : Nat} (h : ∀ v' o : Nat, v' < v → o < 2 → g (32 * k + 2 * v' + o) = q v' o) : ∀ v' o : Nat, v' < v + 1 → o < 2 → upd (upd g (32 * k + 2 * v + 0) (q v 0)) (32 * k + 2 * v + 1) (q v 1) (32 * k + 2 * v' + o) = q v' o := by
  intro v' o a b
  rcases (show v' < v ∨ v' = v by omega) with r | r
  · rw [pk_un (by omega), pk_un (by omega)]; exact h v' o r b
  · subst r
    rcases (show o = 0 ∨ o = 1 by omega) with r | r
    · subst r; rw [pk_un (by omega)]; exact pk_us
    · subst r; exact pk_us
theorem zkput {g : Nat → Int32} {q : Nat → Nat → Nat → Int32} {k v : Nat} {x y : Int32} (h : ∀ k' v' o : Nat, k' < k → v' < 16 → o < 2 → g (32 * k' + 2 * v' + o) = q k' v' o) : ∀ k' v' o : Nat, k' < k → v' < 16 → o < 2 → upd (upd g (32 * k + 2 * v + 0) x) (32 * k + 2 * v + 1) y (32 * k' + 2 * v' + o) = q k' v' o := by
  intro k' v' o a b c
  rw [pk_un (by omega), pk_un (by omega)]; exact h k' v' o a b c
theorem zcput {S cm : Nat → Int32} {k : Nat} (h : zCmC S cm k) : zCmC S (upd (upd cm ((k * 2) + 0) (qCm S k 0)) ((k * 2) + 1) (qCm S k 1)) (k + 1) := by
  intro k' o a b
  rcases (show k' < k ∨ k' = k by omega) with r | r
  · rw [pk_un (by omega), pk_un (by omega)]; exact h k' o r b
  · subst r
    rcases (show o = 0 ∨ o = 1 by omega) with r | r
    · subst r; rw [pk_un (by omega), show 2 * k' + 0 = k' * 2 + 0 by omega]; exact pk_us
    · subst r; rw [show 2 * k' + 1 = k' * 2 + 1 by omega]; exact pk_us
theorem zstep {g : Nat → Int32} {q : Nat → Nat → Nat → Int32} {k : Nat} (h : ∀ k' v' o : Nat, k' < k → v' < 16 → o < 2 → g (32 * k' + 2 * v' + o) = q k' v' o) (h2 : ∀ v' o : Nat, v' < 16 → o < 2 → g (32 * k + 2 * v' + o) = q k v' o) : ∀ k' v' o : Nat, k' < k + 1 → v' < 16 → o < 2 → g (32 * k' + 2 * v' + o) = q k' v' o := by
  intro k' v' o a b c
  rcases (show k' < k ∨ k' = k by omega) with r | r
  · exact h k' v' o r b c
  · subst r; exact h2 v' o b c
