/-! the reference's reading of a text, held against the reader's steps -/
def sg (tx : Nat → Nat) (n a : Nat) : Nat := if a < n then tx a else 0
def zAt (tx : Nat → Nat) (a : Nat) : Prop := ∀ j : Nat, j < a → rOk (rRun tx z0 j) (tx j)
def zS (tx : Nat → Nat) (n a b : Nat) (q : Nat → Nat) : Prop := a ≤ b ∧ b ≤ n ∧ zAt tx b ∧ (∀ i : Nat, a ≤ i → i < b → tx i ≠ 59) ∧ rRun tx z0 b = q
theorem zS_1 {tx q : Nat → Nat} {n a b : Nat} (h : zS tx n a b q) (hb : b < n) (ok : rOk q (tx b)) (h9 : tx b ≠ 59) : zS tx n a (b + 1) (rNx q (tx b)) := by
  obtain ⟨h1, h2, h3, h4, h5⟩ := h
  refine ⟨by omega, by omega, fun j hj => ?_, fun i hi hb' => ?_, ?_⟩
  · rcases (show j < b ∨ j = b by omega) with r | r
    · exact h3 j r
    · rw [r, h5]; exact ok
  · rcases (show i < b ∨ i = b by omega) with r | r
    · exact h4 i hi r
    · rw [r]; exact h9
  · show rNx (rRun tx z0 b) (tx b) = _
    rw [h5]
def zQ (tx : Nat → Nat) (n a b s l o f w v : Nat) : Prop := ∃ q, zS tx n a b q ∧ q 0 = s ∧ (1 ≤ s → q 1 = l) ∧ (2 ≤ s → q 2 = o) ∧ (3 ≤ s → q 3 = f) ∧ (5 ≤ s → q 5 = w) ∧ (s = 6 → q 4 = v)
section ZQ
variable {tx : Nat → Nat} {n a b l o f w v : Nat}
theorem zQ_0 (h : zAt tx a) (hn : a ≤ n) (h0 : rRun tx z0 a 0 = 0) : zQ tx n a a 0 l o f w v :=
  ⟨_, ⟨Nat.le_refl _, hn, h, fun i h1 h2 => by omega, rfl⟩, h0, fun h => by omega, fun h => by omega, fun h => by omega, fun h => by omega, fun h => by omega⟩
theorem zQ_01 (h : zQ tx n a b 0 l o f w v) (hb : b < n) (hd : rD (tx b)) : zQ tx n a (b + 1) 1 (tx b - 48) o f w v := by
  obtain ⟨q, hs, e0, -, -, -, -, -⟩ := h
  refine ⟨_, zS_1 hs hb ((rOk_0 e0).mpr hd) (by omega), ?_, ?_, ?_, ?_, ?_, ?_⟩ <;> rw [rNx_0 e0] <;> simp [rSet]
theorem zQ_11 (h : zQ tx n a b 1 l o f w v) (hb : b < n) (hd : rD (tx b)) (h0 : 0 < l) (h15 : 10 * l + (tx b - 48) ≤ 15) : zQ tx n a (b + 1) 1 (10 * l + (tx b - 48)) o f w v := by
  obtain ⟨q, hs, e0, e1, -, -, -, -⟩ := h
  have e1 := e1 (by omega)
  refine ⟨_, zS_1 hs hb ((rOk_1 e0).mpr (Or.inr ⟨hd, by omega, by omega⟩)) (by omega), ?_, ?_, ?_, ?_, ?_, ?_⟩ <;> rw [rNx_1b e0 (by omega)] <;> simp [rSet, e0, e1] <;> omega
theorem zQ_12 (h : zQ tx n a b 1 l o f w v) (hb : b < n) {o' : Nat} (ho : o' < 2) (hd : tx b = 97 + o') : zQ tx n a (b + 1) 2 l o' f w v := by
  obtain ⟨q, hs, e0, e1, -, -, -, -⟩ := h
  have e1 := e1 (by omega)
  refine ⟨_, zS_1 hs hb ((rOk_1 e0).mpr (Or.inl (by omega))) (by omega), ?_, ?_, ?_, ?_, ?_, ?_⟩ <;> rw [rNx_1a e0 (by omega)] <;> simp [rSet, e1] <;> omega
theorem zQ_23 (h : zQ tx n a b 2 l o f w v) (hb : b < n) {f' : Nat} (hf : f' < 2) (hd : tx b = 43 + 2 * f') : zQ tx n a (b + 1) 3 l o f' w v := by
  obtain ⟨q, hs, e0, e1, e2, -, -, -⟩ := h
  have e1 := e1 (by omega)
  have e2 := e2 (by omega)
  refine ⟨_, zS_1 hs hb ((rOk_2 e0).mpr (by omega)) (by omega), ?_, ?_, ?_, ?_, ?_, ?_⟩ <;> rw [rNx_2 e0] <;> simp [rSet, e1, e2] <;> (try split) <;> omega
theorem zQ_34 (h : zQ tx n a b 3 l o f w v) (hb : b < n) (hd : tx b = 61) : zQ tx n a (b + 1) 4 l o f w v := by
  obtain ⟨q, hs, e0, e1, e2, e3, -, -⟩ := h
  have e1 := e1 (by omega)
  have e2 := e2 (by omega)
  have e3 := e3 (by omega)
  refine ⟨_, zS_1 hs hb ((rOk_3 e0).mpr hd) (by omega), ?_, ?_, ?_, ?_, ?_, ?_⟩ <;> rw [rNx_3 e0] <;> simp [rSet, e1, e2, e3]
theorem zQ_45 (h : zQ tx n a b 4 l o f w v) (hb : b < n) (hd : tx b = 45) : zQ tx n a (b + 1) 5 l o f 1 v := by
  obtain ⟨q, hs, e0, e1, e2, e3, -, -⟩ := h
  have e1 := e1 (by omega)
  have e2 := e2 (by omega)
  have e3 := e3 (by omega)
  refine ⟨_, zS_1 hs hb ((rOk_4 e0).mpr (Or.inl hd)) (by omega), ?_, ?_, ?_, ?_, ?_, ?_⟩ <;> rw [rNx_4a e0 hd] <;> simp [rSet, e1, e2, e3]
theorem zQ_46 (h : zQ tx n a b 4 l o f w v) (hb : b < n) (hd : rD (tx b)) : zQ tx n a (b + 1) 6 l o f 0 (tx b - 48) := by
  obtain ⟨q, hs, e0, e1, e2, e3, -, -⟩ := h
  have e1 := e1 (by omega)
  have e2 := e2 (by omega)
  have e3 := e3 (by omega)
  refine ⟨_, zS_1 hs hb ((rOk_4 e0).mpr (Or.inr hd)) (by omega), ?_, ?_, ?_, ?_, ?_, ?_⟩ <;> rw [rNx_4b e0 (by omega)] <;> simp [rSet, e1, e2, e3]
theorem zQ_56 (h : zQ tx n a b 5 l o f w v) (hb : b < n) (h1 : 49 ≤ tx b) (h2 : tx b ≤ 57) : zQ tx n a (b + 1) 6 l o f w (tx b - 48) := by
  obtain ⟨q, hs, e0, e1, e2, e3, e5, -⟩ := h
  have e1 := e1 (by omega)
  have e2 := e2 (by omega)
  have e3 := e3 (by omega)
  have e5 := e5 (by omega)
  refine ⟨_, zS_1 hs hb ((rOk_5 e0).mpr ⟨by omega, by omega⟩) (by omega), ?_, ?_, ?_, ?_, ?_, ?_⟩ <;> rw [rNx_5 e0] <;> simp [rSet, e1, e2, e3, e5]
theorem zQ_66 (h : zQ tx n a b 6 l o f w v) (hb : b < n) (hd : rD (tx b)) (h0 : 0 < v) (h200 : 10 * v + (tx b - 48) ≤ 200) : zQ tx n a (b + 1) 6 l o f w (10 * v + (tx b - 48)) := by
  obtain ⟨q, hs, e0, e1, e2, e3, e5, e4⟩ := h
  have e1 := e1 (by omega)
  have e2 := e2 (by omega)
  have e3 := e3 (by omega)
  have e5 := e5 (by omega)
  have e4 := e4 rfl
  refine ⟨_, zS_1 hs hb ((rOk_6 e0).mpr (Or.inr ⟨hd, by omega, by omega⟩)) (by omega), ?_, ?_, ?_, ?_, ?_, ?_⟩ <;> rw [rNx_6b e0 (by omega)] <;> simp [rSet, e0, e1, e2, e3, e4, e5] <;> omega
/-- a text's first error, where no reading ends -/
def zBad (tx : Nat → Nat) (n b : Nat) : Prop := rErr tx z0 n b ∧ ¬ (b = n ∧ rRun tx z0 n 0 = 6)
theorem zBad_of {q : Nat → Nat} (hs : zS tx n a b q) (h6 : ¬ q 0 = 6) (no : b < n → ¬ rOk q (tx b)) : zBad tx n b := by
  obtain ⟨h1, h2, h3, h4, h5⟩ := hs
  refine ⟨⟨h2, h3, fun h => by rw [h5]; exact no h⟩, fun ⟨e, h⟩ => h6 ?_⟩
  rw [← h5, e]; exact h
theorem sg_y (h : b < n) : sg tx n b = tx b := if_pos h
theorem zQ_f0 (h : zQ tx n a b 0 l o f w v) (no : ¬ rD (sg tx n b)) : zBad tx n b := by
  obtain ⟨q, hs, e0, -, -, -, -, -⟩ := h
  exact zBad_of hs (by omega) (fun hb k => no (by rw [sg_y hb]; exact (rOk_0 e0).mp k))
theorem zQ_f1 (h : zQ tx n a b 1 l o f w v) (n1 : ¬ sg tx n b = 97) (n2 : ¬ sg tx n b = 98) (no : ¬ (b < n ∧ 0 < l ∧ rD (tx b) ∧ 10 * l + (tx b - 48) ≤ 15)) : zBad tx n b := by
  obtain ⟨q, hs, e0, e1, -, -, -, -⟩ := h
  have e1 := e1 (by omega)
  refine zBad_of hs (by omega) (fun hb k => ?_)
  rw [sg_y hb] at n1 n2
  have k := (rOk_1 e0).mp k
  exact no ⟨hb, by omega, by omega, by omega⟩
theorem zQ_f2 (h : zQ tx n a b 2 l o f w v) (n1 : ¬ sg tx n b = 43) (n2 : ¬ sg tx n b = 45) : zBad tx n b := by
  obtain ⟨q, hs, e0, -, -, -, -, -⟩ := h
  refine zBad_of hs (by omega) (fun hb k => ?_)
  rw [sg_y hb] at n1 n2
  have k := (rOk_2 e0).mp k
  omega
theorem zQ_f3 (h : zQ tx n a b 3 l o f w v) (n1 : ¬ sg tx n b = 61) : zBad tx n b := by
  obtain ⟨q, hs, e0, -, -, -, -, -⟩ := h
  refine zBad_of hs (by omega) (fun hb k => ?_)
  rw [sg_y hb] at n1
  exact n1 ((rOk_3 e0).mp k)
theorem zQ_f4 (h : zQ tx n a b 4 l o f w v) (n1 : ¬ sg tx n b = 45) (no : ¬ rD (sg tx n b)) : zBad tx n b := by
  obtain ⟨q, hs, e0, -, -, -, -, -⟩ := h
  refine zBad_of hs (by omega) (fun hb k => ?_)
  rw [sg_y hb] at n1 no
  exact ((rOk_4 e0).mp k).elim n1 no
theorem zQ_f5 (h : zQ tx n a b 5 l o f w v) (no : ¬ (49 ≤ sg tx n b ∧ sg tx n b ≤ 57)) : zBad tx n b := by
  obtain ⟨q, hs, e0, -, -, -, -, -⟩ := h
  refine zBad_of hs (by omega) (fun hb k => ?_)
  rw [sg_y hb] at no
  have k := (rOk_5 e0).mp k
  omega
/-- a reading told from a to b, and what stands behind it -/
def zGot (tx : Nat → Nat) (n a b p : Nat) (x : Int32) : Prop := ∃ q, zS tx n a b q ∧ a < b ∧ q 0 = 6 ∧ rGood q ∧ p = 1 + 4 * q 1 + 2 * q 2 + q 3 ∧ x = rVal q ∧ (b < n → tx b ≠ 59 → ¬ rOk q (tx b))
theorem zGood_z0 : rGood z0 := by unfold rGood z0; decide
theorem zQ_6 (h : zQ tx n a b 6 l o f w v) (hab : a < b) (no : ¬ (b < n ∧ 0 < v ∧ rD (tx b) ∧ 10 * v + (tx b - 48) ≤ 200)) {x : Int32} (hx : x = if w = 0 then nI v else -nI v) {p : Nat} (hp : p = 1 + 4 * l + 2 * o + f) : zGot tx n a b p x := by
  obtain ⟨q, hs, e0, e1, e2, e3, e5, e4⟩ := h
  have e1 := e1 (by omega)
  have e2 := e2 (by omega)
  have e3 := e3 (by omega)
  have e5 := e5 (by omega)
  have e4 := e4 rfl
  refine ⟨q, hs, hab, e0, ?_, by rw [e1, e2, e3]; exact hp, by unfold rVal; rw [e4, e5]; exact hx, fun hb h9 k => ?_⟩
  · obtain ⟨h1, h2, h3, h4, h5⟩ := hs
    rw [← h5]; exact rRun_good zGood_z0 h3
  · have k := ((rOk_6 e0).mp k).resolve_left h9
    exact no ⟨hb, by omega, k.1, by omega⟩
theorem sg_lt {m : Nat} (hm : 0 < m) (h : ∀ i : Nat, i < n → tx i < m) (b : Nat) : sg tx n b < m := by
  unfold sg
  split
  · exact h b (by assumption)
  · exact hm
theorem sg_in (h : sg tx n b ≠ 0) : b < n := by
  unfold sg at h
  split at h
  · assumption
  · exact absurd rfl h
end ZQ
