/-! readings as a text: the reader's numbers q: 0 where it stands, 1 level, 2 own, 3 face, 4 number, 5 below; a sign c -/
abbrev rD (c : Nat) : Prop := 48 ≤ c ∧ c ≤ 57
def rSet (q : Nat → Nat) (i x : Nat) : Nat → Nat := fun j => if j = i then x else q j
def rOk (q : Nat → Nat) (c : Nat) : Prop := if q 0 = 0 then rD c else if q 0 = 1 then ((c = 97 ∨ c = 98) ∨ (rD c ∧ ¬ q 1 = 0 ∧ q 1 * 10 + (c - 48) < 16)) else if q 0 = 2 then (c = 43 ∨ c = 45) else if q 0 = 3 then c = 61 else if q 0 = 4 then (c = 45 ∨ rD c) else if q 0 = 5 then (¬ c = 48 ∧ rD c) else (c = 59 ∨ (rD c ∧ ¬ q 4 = 0 ∧ q 4 * 10 + (c - 48) ≤ 200))
def rNx (q : Nat → Nat) (c : Nat) : Nat → Nat := if q 0 = 0 then rSet (rSet q 1 (c - 48)) 0 1 else if q 0 = 1 then (if c = 97 ∨ c = 98 then rSet (rSet q 2 (c - 97)) 0 2 else rSet q 1 (q 1 * 10 + (c - 48))) else if q 0 = 2 then rSet (rSet q 3 (if c = 43 then 0 else 1)) 0 3 else if q 0 = 3 then rSet q 0 4 else if q 0 = 4 then (if c = 45 then rSet (rSet q 5 1) 0 5 else rSet (rSet (rSet q 5 0) 4 (c - 48)) 0 6) else if q 0 = 5 then rSet (rSet q 4 (c - 48)) 0 6 else (if c = 59 then rSet q 0 0 else rSet q 4 (q 4 * 10 + (c - 48)))
def rGood (q : Nat → Nat) : Prop := q 0 ≤ 6 ∧ q 1 < 16 ∧ q 2 < 2 ∧ q 3 < 2 ∧ q 4 ≤ 200 ∧ q 5 < 2
def rTk (q : Nat → Nat) (c : Nat) (r : Int32) (u : Nat → Nat) : Prop := ((rOk q c ∧ r = 1 ∧ u = rNx q c) ∨ (¬ rOk q c ∧ r = 0)) ∧ rGood u
section RQ
variable {q : Nat → Nat} {c : Nat}
theorem rOk_0 (h : q 0 = 0) : rOk q c ↔ rD c := by unfold rOk; simp [h]
theorem rOk_1 (h : q 0 = 1) : rOk q c ↔ ((c = 97 ∨ c = 98) ∨ (rD c ∧ ¬ q 1 = 0 ∧ q 1 * 10 + (c - 48) < 16)) := by unfold rOk; simp [h]
theorem rOk_2 (h : q 0 = 2) : rOk q c ↔ (c = 43 ∨ c = 45) := by unfold rOk; simp [h]
theorem rOk_3 (h : q 0 = 3) : rOk q c ↔ c = 61 := by unfold rOk; simp [h]
theorem rOk_4 (h : q 0 = 4) : rOk q c ↔ (c = 45 ∨ rD c) := by unfold rOk; simp [h]
theorem rOk_5 (h : q 0 = 5) : rOk q c ↔ (¬ c = 48 ∧ rD c) := by unfold rOk; simp [h]
theorem rOk_6 (h : q 0 = 6) : rOk q c ↔ (c = 59 ∨ (rD c ∧ ¬ q 4 = 0 ∧ q 4 * 10 + (c - 48) ≤ 200)) := by unfold rOk; simp [h]
theorem rNx_0 (h : q 0 = 0) : rNx q c = rSet (rSet q 1 (c - 48)) 0 1 := by unfold rNx; rw [if_pos h]
theorem rNx_1a (h : q 0 = 1) (hc : c = 97 ∨ c = 98) : rNx q c = rSet (rSet q 2 (c - 97)) 0 2 := by unfold rNx; rw [if_neg (by omega), if_pos h, if_pos hc]
theorem rNx_1b (h : q 0 = 1) (hc : ¬ (c = 97 ∨ c = 98)) : rNx q c = rSet q 1 (q 1 * 10 + (c - 48)) := by unfold rNx; rw [if_neg (by omega), if_pos h, if_neg hc]
theorem rNx_2 (h : q 0 = 2) : rNx q c = rSet (rSet q 3 (if c = 43 then 0 else 1)) 0 3 := by unfold rNx; rw [if_neg (by omega), if_neg (by omega), if_pos h]
theorem rNx_3 (h : q 0 = 3) : rNx q c = rSet q 0 4 := by unfold rNx; rw [if_neg (by omega), if_neg (by omega), if_neg (by omega), if_pos h]
theorem rNx_4a (h : q 0 = 4) (hc : c = 45) : rNx q c = rSet (rSet q 5 1) 0 5 := by unfold rNx; rw [if_neg (by omega), if_neg (by omega), if_neg (by omega), if_neg (by omega), if_pos h, if_pos hc]
theorem rNx_4b (h : q 0 = 4) (hc : ¬ c = 45) : rNx q c = rSet (rSet (rSet q 5 0) 4 (c - 48)) 0 6 := by unfold rNx; rw [if_neg (by omega), if_neg (by omega), if_neg (by omega), if_neg (by omega), if_pos h, if_neg hc]
theorem rNx_5 (h : q 0 = 5) : rNx q c = rSet (rSet q 4 (c - 48)) 0 6 := by unfold rNx; rw [if_neg (by omega), if_neg (by omega), if_neg (by omega), if_neg (by omega), if_neg (by omega), if_pos h]
theorem rNx_6a (h : q 0 = 6) (hc : c = 59) : rNx q c = rSet q 0 0 := by unfold rNx; rw [if_neg (by omega), if_neg (by omega), if_neg (by omega), if_neg (by omega), if_neg (by omega), if_neg (by omega), if_pos hc]
theorem rNx_6b (h : q 0 = 6) (hc : ¬ c = 59) : rNx q c = rSet q 4 (q 4 * 10 + (c - 48)) := by unfold rNx; rw [if_neg (by omega), if_neg (by omega), if_neg (by omega), if_neg (by omega), if_neg (by omega), if_neg (by omega), if_neg hc]
theorem rGood_nx (g : rGood q) (ok : rOk q c) : rGood (rNx q c) := by
  obtain ⟨g0, g1, g2, g3, g4, g5⟩ := g
  rcases (show q 0 = 0 ∨ q 0 = 1 ∨ q 0 = 2 ∨ q 0 = 3 ∨ q 0 = 4 ∨ q 0 = 5 ∨ q 0 = 6 by omega) with h | h | h | h | h | h | h
  · have ok := (rOk_0 h).mp ok
    rw [rNx_0 h]; refine ⟨?_, ?_, ?_, ?_, ?_, ?_⟩ <;> simp [rSet] <;> omega
  · have ok := (rOk_1 h).mp ok
    by_cases hc : c = 97 ∨ c = 98
    · rw [rNx_1a h hc]; refine ⟨?_, ?_, ?_, ?_, ?_, ?_⟩ <;> simp [rSet] <;> omega
    · have ok := ok.resolve_left hc
      rw [rNx_1b h hc]; refine ⟨?_, ?_, ?_, ?_, ?_, ?_⟩ <;> simp [rSet] <;> omega
  · rw [rNx_2 h]; refine ⟨?_, ?_, ?_, ?_, ?_, ?_⟩ <;> simp [rSet] <;> (try split) <;> omega
  · rw [rNx_3 h]; refine ⟨?_, ?_, ?_, ?_, ?_, ?_⟩ <;> simp [rSet] <;> omega
  · have ok := (rOk_4 h).mp ok
    by_cases hc : c = 45
    · rw [rNx_4a h hc]; refine ⟨?_, ?_, ?_, ?_, ?_, ?_⟩ <;> simp [rSet] <;> omega
    · have ok := ok.resolve_left hc
      rw [rNx_4b h hc]; refine ⟨?_, ?_, ?_, ?_, ?_, ?_⟩ <;> simp [rSet] <;> omega
  · have ok := (rOk_5 h).mp ok
    rw [rNx_5 h]; refine ⟨?_, ?_, ?_, ?_, ?_, ?_⟩ <;> simp [rSet] <;> omega
  · have ok := (rOk_6 h).mp ok
    by_cases hc : c = 59
    · rw [rNx_6a h hc]; refine ⟨?_, ?_, ?_, ?_, ?_, ?_⟩ <;> simp [rSet] <;> omega
    · have ok := ok.resolve_left hc
      rw [rNx_6b h hc]; refine ⟨?_, ?_, ?_, ?_, ?_, ?_⟩ <;> simp [rSet] <;> omega
theorem rTk_y (g : rGood q) (ok : rOk q c) {u : Nat → Nat} (e : rNx q c = u) : rTk q c 1 u := ⟨Or.inl ⟨ok, rfl, e.symm⟩, e ▸ rGood_nx g ok⟩
theorem rTk_n (g : rGood q) (ok : ¬ rOk q c) : rTk q c 0 q := ⟨Or.inr ⟨ok, rfl⟩, g⟩
theorem rTk_bit {r : Int32} {u : Nat → Nat} (h : rTk q c r u) : narrow .boolean (.int r) = .int r := by
  rcases h.1 with ⟨_, h, _⟩ | ⟨_, h⟩ <;> rw [h] <;> rfl
end RQ
def rRun (tx : Nat → Nat) (q : Nat → Nat) : Nat → (Nat → Nat)
  | 0 => q
  | i + 1 => rNx (rRun tx q i) (tx i)
theorem rRun_good {tx q : Nat → Nat} (g : rGood q) : ∀ {i : Nat}, (∀ j, j < i → rOk (rRun tx q j) (tx j)) → rGood (rRun tx q i)
  | 0, _ => g
  | i + 1, h => rGood_nx (rRun_good g (fun j hj => h j (by omega))) (h i (by omega))
def zX (tx : Nat → Nat) : Nat → Int32 := fun i => nI (tx i)
