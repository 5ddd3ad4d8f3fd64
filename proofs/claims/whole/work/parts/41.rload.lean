/-! the reference's load -/
theorem zGot_p {tx : Nat → Nat} {n a b p : Nat} {x : Int32} (h : zGot tx n a b p x) : 1 ≤ p ∧ p ≤ 64 := by
  obtain ⟨q, -, -, -, ⟨g0, g1, g2, g3, g4, g5⟩, e, -⟩ := h
  omega
theorem zGot_59 {tx : Nat → Nat} {n a b p : Nat} {x : Int32} (he : rErr tx z0 n n) (h : zGot tx n a b p x) : b = n ∨ tx b = 59 := by
  obtain ⟨q, ⟨h1, h2, h3, h4, h5⟩, hab, h6, hg, e1, e2, no⟩ := h
  by_cases hb : b = n
  · exact Or.inl hb
  · refine Or.inr (Classical.byContradiction fun h9 => no (by omega) h9 ?_)
    rw [← h5]; exact he.2.1 b (by omega)
theorem rPut_mid {S : Nat → Int32} {k n a : Nat} {tx : Nat → Nat} : ∀ {d : Nat}, a + d < n → (∀ i : Nat, a ≤ i → i < a + d + 1 → tx i ≠ 59) → rPut S k tx z0 n (a + d) = rPut S k tx z0 n a ∧ rCnt tx n (a + d) = rCnt tx n a
  | 0, _, _ => ⟨rfl, rfl⟩
  | d + 1, hd, hi => by
    obtain ⟨i1, i2⟩ := rPut_mid (S := S) (k := k) (d := d) (tx := tx) (n := n) (a := a) (by omega) (fun i h1 h2 => hi i h1 (by omega))
    have no : ¬ (a + d + 1 = n ∨ tx (a + d + 1) = 59) := fun h => h.elim (fun h => by omega) (hi (a + d + 1) (by omega) (by omega))
    refine ⟨?_, ?_⟩
    · show (if a + d + 1 = n ∨ tx (a + d + 1) = 59 then _ else rPut S k tx z0 n (a + d)) = _
      rw [if_neg no]; exact i1
    · show (if a + d + 1 = n ∨ tx (a + d + 1) = 59 then _ else rCnt tx n (a + d)) = _
      rw [if_neg no]; exact i2
theorem zGot_put {S : Nat → Int32} {k : Nat} {tx : Nat → Nat} {n a b p : Nat} {x : Int32} (he : rErr tx z0 n n) (h : zGot tx n a b p x) : upd (rPut S k tx z0 n a) (57 + 65 * k + p) x = rPut S k tx z0 n b ∧ rCnt tx n a + 1 = rCnt tx n b := by
  have h9 := zGot_59 he h
  obtain ⟨q, ⟨h1, h2, h3, h4, h5⟩, hab, h6, hg, e1, e2, no⟩ := h
  obtain ⟨c, rfl⟩ : ∃ c, b = a + c + 1 := ⟨b - a - 1, by omega⟩
  obtain ⟨i1, i2⟩ := rPut_mid (S := S) (k := k) (d := c) (tx := tx) (n := n) (a := a) (by omega) h4
  refine ⟨?_, ?_⟩
  · show _ = (if a + c + 1 = n ∨ tx (a + c + 1) = 59 then upd (rPut S k tx z0 n (a + c)) (58 + 65 * k + 4 * (rRun tx z0 (a + c + 1) 1) + 2 * (rRun tx z0 (a + c + 1) 2) + rRun tx z0 (a + c + 1) 3) (rVal (rRun tx z0 (a + c + 1))) else _)
    rw [if_pos h9, i1, h5, e2, e1, show 57 + 65 * k + (1 + 4 * q 1 + 2 * q 2 + q 3) = 58 + 65 * k + 4 * q 1 + 2 * q 2 + q 3 by omega]
  · show _ = (if a + c + 1 = n ∨ tx (a + c + 1) = 59 then rCnt tx n (a + c) + 1 else _)
    rw [if_pos h9, i2]
theorem zGot_step {S : Nat → Int32} {k : Nat} {tx : Nat → Nat} {n a b p : Nat} {x : Int32} (he : rErr tx z0 n n) (h6 : rRun tx z0 n 0 = 6) (h : zGot tx n a b p x) (hb : b < n) (h9 : tx b = 59) : b + 1 < n ∧ rPut S k tx z0 n (b + 1) = rPut S k tx z0 n b ∧ rCnt tx n (b + 1) = rCnt tx n b := by
  obtain ⟨k1, k2⟩ := zGot_next h hb h9
  have hn : b + 1 < n := by
    rcases (show b + 1 < n ∨ b + 1 = n by omega) with r | r
    · exact r
    · rw [r, h6] at k2; exact absurd k2 (by decide)
  have hd := (rOk_0 k2).mp (he.2.1 (b + 1) hn)
  have no : ¬ (b + 1 = n ∨ tx (b + 1) = 59) := by omega
  refine ⟨hn, ?_, ?_⟩
  · show (if b + 1 = n ∨ tx (b + 1) = 59 then _ else rPut S k tx z0 n b) = _
    rw [if_neg no]
  · show (if b + 1 = n ∨ tx (b + 1) = 59 then _ else rCnt tx n b) = _
    rw [if_neg no]
theorem sg_end {tx : Nat → Nat} {n : Nat} : sg tx n n = 0 := if_neg (Nat.lt_irrefl n)
