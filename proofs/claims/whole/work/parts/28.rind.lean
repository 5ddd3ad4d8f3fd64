/-! the reader's stale numbers don't matter -/
def z0 : Nat → Nat := fun _ => 0
def rRel (q p : Nat → Nat) : Prop := q 0 = p 0 ∧ q 0 ≤ 6 ∧ (1 ≤ q 0 → q 1 = p 1) ∧ (2 ≤ q 0 → q 2 = p 2) ∧ (3 ≤ q 0 → q 3 = p 3) ∧ (q 0 = 6 → q 4 = p 4) ∧ (5 ≤ q 0 → q 5 = p 5)
section RI
variable {q p : Nat → Nat} {c : Nat}
theorem rRel_ok (h : rRel q p) : rOk q c ↔ rOk p c := by
  obtain ⟨h0, h6, h1, h2, h3, h4, h5⟩ := h
  rcases (show q 0 = 0 ∨ q 0 = 1 ∨ q 0 = 2 ∨ q 0 = 3 ∨ q 0 = 4 ∨ q 0 = 5 ∨ q 0 = 6 by omega) with e | e | e | e | e | e | e
  · rw [rOk_0 e, rOk_0 (h0 ▸ e)]
  · rw [rOk_1 e, rOk_1 (h0 ▸ e), h1 (by omega)]
  · rw [rOk_2 e, rOk_2 (h0 ▸ e)]
  · rw [rOk_3 e, rOk_3 (h0 ▸ e)]
  · rw [rOk_4 e, rOk_4 (h0 ▸ e)]
  · rw [rOk_5 e, rOk_5 (h0 ▸ e)]
  · rw [rOk_6 e, rOk_6 (h0 ▸ e), h4 e]
theorem rRel_nx (h : rRel q p) (ok : rOk q c) : rRel (rNx q c) (rNx p c) := by
  obtain ⟨h0, h6, h1, h2, h3, h4, h5⟩ := h
  rcases (show q 0 = 0 ∨ q 0 = 1 ∨ q 0 = 2 ∨ q 0 = 3 ∨ q 0 = 4 ∨ q 0 = 5 ∨ q 0 = 6 by omega) with e | e | e | e | e | e | e
  · rw [rNx_0 e, rNx_0 (h0 ▸ e)]; unfold rRel; simp [rSet]
  · by_cases d : c = 97 ∨ c = 98
    · rw [rNx_1a e d, rNx_1a (h0 ▸ e) d]; have := h1 (by omega); unfold rRel; simp [rSet]; omega
    · rw [rNx_1b e d, rNx_1b (h0 ▸ e) d]; have := h1 (by omega); unfold rRel; simp [rSet]; omega
  · rw [rNx_2 e, rNx_2 (h0 ▸ e)]; have := h1 (by omega); have := h2 (by omega); unfold rRel; simp [rSet]; omega
  · rw [rNx_3 e, rNx_3 (h0 ▸ e)]; have := h1 (by omega); have := h2 (by omega); have := h3 (by omega); unfold rRel; simp [rSet]; omega
  · have := h1 (by omega); have := h2 (by omega); have := h3 (by omega)
    by_cases d : c = 45
    · rw [rNx_4a e d, rNx_4a (h0 ▸ e) d]; unfold rRel; simp [rSet]; omega
    · rw [rNx_4b e d, rNx_4b (h0 ▸ e) d]; unfold rRel; simp [rSet]; omega
  · have := h1 (by omega); have := h2 (by omega); have := h3 (by omega); have := h5 (by omega)
    rw [rNx_5 e, rNx_5 (h0 ▸ e)]; unfold rRel; simp [rSet]; omega
  · have := h1 (by omega); have := h2 (by omega); have := h3 (by omega); have := h5 (by omega); have := h4 e
    by_cases d : c = 59
    · rw [rNx_6a e d, rNx_6a (h0 ▸ e) d]; unfold rRel; simp [rSet]
    · rw [rNx_6b e d, rNx_6b (h0 ▸ e) d]; unfold rRel; simp [rSet]; omega
theorem rRel_0 (hq : q 0 = 0) (hp : p 0 = 0) : rRel q p := by unfold rRel; omega
variable {tx : Nat → Nat}
theorem rRel_run (h : rRel q p) : ∀ {i : Nat}, (∀ j, j < i → rOk (rRun tx q j) (tx j)) → rRel (rRun tx q i) (rRun tx p i)
  | 0, _ => h
  | i + 1, ok => rRel_nx (rRel_run h (fun j hj => ok j (by omega))) (ok i (by omega))
theorem rErr_z (hq : q 0 = 0) (hp : p 0 = 0) {n e : Nat} (h : rErr tx q n e) : rErr tx p n e := by
  obtain ⟨h1, h2, h3⟩ := h
  have hr := rRel_0 hq hp
  exact ⟨h1, fun j hj => (rRel_ok (rRel_run hr (fun j' hj' => h2 j' (by omega)))).mp (h2 j hj), fun he k => h3 he ((rRel_ok (rRel_run hr h2)).mpr k)⟩
theorem rRun_z (hq : q 0 = 0) (hp : p 0 = 0) {n : Nat} (h : rErr tx q n n) : rRun tx q n 0 = rRun tx p n 0 := (rRel_run (rRel_0 hq hp) h.2.1).1
theorem rPut_z (hq : q 0 = 0) (hp : p 0 = 0) {n k : Nat} {S : Nat → Int32} (h : rErr tx q n n) (h6 : rRun tx q n 0 = 6) : ∀ i, i ≤ n → rPut S k tx q n i = rPut S k tx p n i
  | 0, _ => rfl
  | i + 1, hi => by
    have ih := rPut_z (k := k) (S := S) hq hp h h6 i (by omega)
    show (if i + 1 = n ∨ tx (i + 1) = 59 then upd (rPut S k tx q n i) _ _ else rPut S k tx q n i) = (if i + 1 = n ∨ tx (i + 1) = 59 then upd (rPut S k tx p n i) _ _ else rPut S k tx p n i)
    by_cases c : i + 1 = n ∨ tx (i + 1) = 59
    · have hr := rRel_run (tx := tx) (rRel_0 hq hp) (i := i + 1) (fun j hj => h.2.1 j (by omega))
      have e6 : rRun tx q (i + 1) 0 = 6 := by
        rcases (show i + 1 = n ∨ i + 1 < n by omega) with r | r
        · rw [r]; exact h6
        · have ok := h.2.1 (i + 1) r
          have t9 : tx (i + 1) = 59 := c.resolve_left (by omega)
          have hle := hr.2.1
          rw [t9] at ok
          rcases (show rRun tx q (i + 1) 0 = 0 ∨ rRun tx q (i + 1) 0 = 1 ∨ rRun tx q (i + 1) 0 = 2 ∨ rRun tx q (i + 1) 0 = 3 ∨ rRun tx q (i + 1) 0 = 4 ∨ rRun tx q (i + 1) 0 = 5 ∨ rRun tx q (i + 1) 0 = 6 by omega) with e | e | e | e | e | e | e
          · have := (rOk_0 e).mp ok; omega
          · have := (rOk_1 e).mp ok; omega
          · have := (rOk_2 e).mp ok; omega
          · have := (rOk_3 e).mp ok; omega
          · have := (rOk_4 e).mp ok; omega
          · have := (rOk_5 e).mp ok; omega
          · exact e
      obtain ⟨h0, _, h1, h2, h3, h4, h5⟩ := hr
      rw [if_pos c, if_pos c, ih, h1 (by omega), h2 (by omega), h3 (by omega)]
      unfold rVal
      rw [h4 e6, h5 (by omega)]
    · rw [if_neg c, if_neg c]; exact ih
end RI
