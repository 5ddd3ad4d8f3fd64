/-! the law's world: what the class and the reference hold, what both have in common -/
def zSt : Type := (Nat → Int32) × (Nat → Nat → Int32) × (Nat) × (Nat) × (Nat → Nat → Int32) × (Nat → Int32) × (Nat) × (Nat → Nat) × (Nat → Int32) × (Nat → Int32) × (Nat → Int32) × (Nat → Int32) × (Int32) × (Nat → Nat) × (Nat) × (Int32) × (Nat) × (Nat) × (Int32) × (Int64) × (Nat → Int64) × (Nat → UInt64)
def zSt.G (z : zSt) : Nat → Int32 := z.1
def zSt.rg (z : zSt) : Nat → Nat → Int32 := z.2.1
def zSt.ro (z : zSt) : Nat := z.2.2.1
def zSt.rv (z : zSt) : Nat := z.2.2.2.1
def zSt.sl (z : zSt) : Nat → Nat → Int32 := z.2.2.2.2.1
def zSt.hd (z : zSt) : Nat → Int32 := z.2.2.2.2.2.1
def zSt.ln (z : zSt) : Nat := z.2.2.2.2.2.2.1
def zSt.tx (z : zSt) : Nat → Nat := z.2.2.2.2.2.2.2.1
def zSt.cm (z : zSt) : Nat → Int32 := z.2.2.2.2.2.2.2.2.1
def zSt.rd (z : zSt) : Nat → Int32 := z.2.2.2.2.2.2.2.2.2.1
def zSt.td (z : zSt) : Nat → Int32 := z.2.2.2.2.2.2.2.2.2.2.1
def zSt.od (z : zSt) : Nat → Int32 := z.2.2.2.2.2.2.2.2.2.2.2.1
def zSt.fr (z : zSt) : Int32 := z.2.2.2.2.2.2.2.2.2.2.2.2.1
def zSt.q (z : zSt) : Nat → Nat := z.2.2.2.2.2.2.2.2.2.2.2.2.2.1
def zSt.n (z : zSt) : Nat := z.2.2.2.2.2.2.2.2.2.2.2.2.2.2.1
def zSt.th (z : zSt) : Int32 := z.2.2.2.2.2.2.2.2.2.2.2.2.2.2.2.1
def zSt.at9 (z : zSt) : Nat := z.2.2.2.2.2.2.2.2.2.2.2.2.2.2.2.2.1
def zSt.pl (z : zSt) : Nat := z.2.2.2.2.2.2.2.2.2.2.2.2.2.2.2.2.2.1
def zSt.va (z : zSt) : Int32 := z.2.2.2.2.2.2.2.2.2.2.2.2.2.2.2.2.2.2.1
def zSt.hs (z : zSt) : Int64 := z.2.2.2.2.2.2.2.2.2.2.2.2.2.2.2.2.2.2.2.1
def zSt.x1 (z : zSt) : Nat → Int64 := z.2.2.2.2.2.2.2.2.2.2.2.2.2.2.2.2.2.2.2.2.1
def zSt.x2 (z : zSt) : Nat → UInt64 := z.2.2.2.2.2.2.2.2.2.2.2.2.2.2.2.2.2.2.2.2.2
def zMk (G : Nat → Int32) (rg : Nat → Nat → Int32) (ro : Nat) (rv : Nat) (sl : Nat → Nat → Int32) (hd : Nat → Int32) (ln : Nat) (tx : Nat → Nat) (cm : Nat → Int32) (rd : Nat → Int32) (td : Nat → Int32) (od : Nat → Int32) (fr : Int32) (q : Nat → Nat) (n : Nat) (th : Int32) (at9 : Nat) (pl : Nat) (va : Int32) (hs : Int64) (x1 : Nat → Int64) (x2 : Nat → UInt64) : zSt := (G, rg, ro, rv, sl, hd, ln, tx, cm, rd, td, od, fr, q, n, th, at9, pl, va, hs, x1, x2)
def zWld (y : Nat → ClassId) (ad g : Nat → Nat) (o1 o2 : Nat) (z : zSt) : va_W := (((ad 0), .inr (4, [.ref (ad 1), .ref (ad 8), .ref (ad 9), .ref (ad 10), .ref (ad 54), .ref (ad 59), .ref (ad 60), .int (nI z.ln)])) :: ((ad 1), .inr (2, [.ref (ad 2), .ref (ad 3), .ref (ad 4), .ref (ad 5), .ref (ad 6), .ref (ad 7), .int (z.G 0), .int (z.G 1), .int (z.G 4), .int (z.G 5)])) :: ((ad 2), .inl (y 0, 32, .inl (zT z.G))) :: ((ad 3), .inl (y 0, 16, .inl (zU z.G))) :: ((ad 4), .inl (y 0, 2, .inl (zB z.G))) :: ((ad 5), .inl (y 0, 3, .inl (zE z.G))) :: ((ad 6), .inl (y 0, 384, .inl (zR z.G))) :: ((ad 7), .inl (y 0, 6, .inl (zY z.G))) :: ((ad 8), .inl (y 3, 2, .inr (.inr (.inr (.inr (zGs ad)))))) :: ((ad 9), .inl (y 2, 2, .inl z.hd)) :: ((ad 10), .inr (1, [.ref (ad 11), .int (nI z.ro), .int (nI z.rv)])) :: ((ad 11), .inl (y 3, 6, .inr (.inr (.inr (.inr (zG (fun i => ad (i + 10)))))))) :: ((ad 12), .inr (2, [.ref (ad 13), .ref (ad 14), .ref (ad 15), .ref (ad 16), .ref (ad 17), .ref (ad 18), .int ((z.rg 0) 0), .int ((z.rg 0) 1), .int ((z.rg 0) 4), .int ((z.rg 0) 5)])) :: ((ad 13), .inl (y 0, 32, .inl (zT (z.rg 0)))) :: ((ad 14), .inl (y 0, 16, .inl (zU (z.rg 0)))) :: ((ad 15), .inl (y 0, 2, .inl (zB (z.rg 0)))) :: ((ad 16), .inl (y 0, 3, .inl (zE (z.rg 0)))) :: ((ad 17), .inl (y 0, 384, .inl (zR (z.rg 0)))) :: ((ad 18), .inl (y 0, 6, .inl (zY (z.rg 0)))) :: ((ad 19), .inr (2, [.ref (ad 20), .ref (ad 21), .ref (ad 22), .ref (ad 23), .ref (ad 24), .ref (ad 25), .int ((z.rg 1) 0), .int ((z.rg 1) 1), .int ((z.rg 1) 4), .int ((z.rg 1) 5)])) :: ((ad 20), .inl (y 0, 32, .inl (zT (z.rg 1)))) :: ((ad 21), .inl (y 0, 16, .inl (zU (z.rg 1)))) :: ((ad 22), .inl (y 0, 2, .inl (zB (z.rg 1)))) :: ((ad 23), .inl (y 0, 3, .inl (zE (z.rg 1)))) :: ((ad 24), .inl (y 0, 384, .inl (zR (z.rg 1)))) :: ((ad 25), .inl (y 0, 6, .inl (zY (z.rg 1)))) :: ((ad 26), .inr (2, [.ref (ad 27), .ref (ad 28), .ref (ad 29), .ref (ad 30), .ref (ad 31), .ref (ad 32), .int ((z.rg 2) 0), .int ((z.rg 2) 1), .int ((z.rg 2) 4), .int ((z.rg 2) 5)])) :: ((ad 27), .inl (y 0, 32, .inl (zT (z.rg 2)))) :: ((ad 28), .inl (y 0, 16, .inl (zU (z.rg 2)))) :: ((ad 29), .inl (y 0, 2, .inl (zB (z.rg 2)))) :: ((ad 30), .inl (y 0, 3, .inl (zE (z.rg 2)))) :: ((ad 31), .inl (y 0, 384, .inl (zR (z.rg 2)))) :: ((ad 32), .inl (y 0, 6, .inl (zY (z.rg 2)))) :: ((ad 33), .inr (2, [.ref (ad 34), .ref (ad 35), .ref (ad 36), .ref (ad 37), .ref (ad 38), .ref (ad 39), .int ((z.rg 3) 0), .int ((z.rg 3) 1), .int ((z.rg 3) 4), .int ((z.rg 3) 5)])) :: ((ad 34), .inl (y 0, 32, .inl (zT (z.rg 3)))) :: ((ad 35), .inl (y 0, 16, .inl (zU (z.rg 3)))) :: ((ad 36), .inl (y 0, 2, .inl (zB (z.rg 3)))) :: ((ad 37), .inl (y 0, 3, .inl (zE (z.rg 3)))) :: ((ad 38), .inl (y 0, 384, .inl (zR (z.rg 3)))) :: ((ad 39), .inl (y 0, 6, .inl (zY (z.rg 3)))) :: ((ad 40), .inr (2, [.ref (ad 41), .ref (ad 42), .ref (ad 43), .ref (ad 44), .ref (ad 45), .ref (ad 46), .int ((z.rg 4) 0), .int ((z.rg 4) 1), .int ((z.rg 4) 4), .int ((z.rg 4) 5)])) :: ((ad 41), .inl (y 0, 32, .inl (zT (z.rg 4)))) :: ((ad 42), .inl (y 0, 16, .inl (zU (z.rg 4)))) :: ((ad 43), .inl (y 0, 2, .inl (zB (z.rg 4)))) :: ((ad 44), .inl (y 0, 3, .inl (zE (z.rg 4)))) :: ((ad 45), .inl (y 0, 384, .inl (zR (z.rg 4)))) :: ((ad 46), .inl (y 0, 6, .inl (zY (z.rg 4)))) :: ((ad 47), .inr (2, [.ref (ad 48), .ref (ad 49), .ref (ad 50), .ref (ad 51), .ref (ad 52), .ref (ad 53), .int ((z.rg 5) 0), .int ((z.rg 5) 1), .int ((z.rg 5) 4), .int ((z.rg 5) 5)])) :: ((ad 48), .inl (y 0, 32, .inl (zT (z.rg 5)))) :: ((ad 49), .inl (y 0, 16, .inl (zU (z.rg 5)))) :: ((ad 50), .inl (y 0, 2, .inl (zB (z.rg 5)))) :: ((ad 51), .inl (y 0, 3, .inl (zE (z.rg 5)))) :: ((ad 52), .inl (y 0, 384, .inl (zR (z.rg 5)))) :: ((ad 53), .inl (y 0, 6, .inl (zY (z.rg 5)))) :: ((ad 54), .inr (0, [.ref (ad 55), .ref (ad 75), .ref (ad 56), .ref (ad 57), .ref (ad 58), .int z.fr])) :: ((ad 55), .inl (y 0, 12, .inl z.cm)) :: ((ad 56), .inl (y 0, 192, .inl z.rd)) :: ((ad 57), .inl (y 0, 192, .inl z.td)) :: ((ad 58), .inl (y 0, 16, .inl z.od)) :: ((ad 59), .inr (3, [.int (nI (z.q 0)), .int (nI (z.q 1)), .int (nI (z.q 2)), .int (nI (z.q 3)), .int (nI (z.q 4)), .int (nI (z.q 5))])) :: ((ad 60), .inl (y 1, 60, .inl (zX z.tx))) :: ((ad 61), .inr (2, [.ref (ad 62), .ref (ad 63), .ref (ad 64), .ref (ad 65), .ref (ad 66), .ref (ad 67), .int ((z.sl 0) 0), .int ((z.sl 0) 1), .int ((z.sl 0) 4), .int ((z.sl 0) 5)])) :: ((ad 62), .inl (y 0, 32, .inl (zT (z.sl 0)))) :: ((ad 63), .inl (y 0, 16, .inl (zU (z.sl 0)))) :: ((ad 64), .inl (y 0, 2, .inl (zB (z.sl 0)))) :: ((ad 65), .inl (y 0, 3, .inl (zE (z.sl 0)))) :: ((ad 66), .inl (y 0, 384, .inl (zR (z.sl 0)))) :: ((ad 67), .inl (y 0, 6, .inl (zY (z.sl 0)))) :: ((ad 68), .inr (2, [.ref (ad 69), .ref (ad 70), .ref (ad 71), .ref (ad 72), .ref (ad 73), .ref (ad 74), .int ((z.sl 1) 0), .int ((z.sl 1) 1), .int ((z.sl 1) 4), .int ((z.sl 1) 5)])) :: ((ad 69), .inl (y 0, 32, .inl (zT (z.sl 1)))) :: ((ad 70), .inl (y 0, 16, .inl (zU (z.sl 1)))) :: ((ad 71), .inl (y 0, 2, .inl (zB (z.sl 1)))) :: ((ad 72), .inl (y 0, 3, .inl (zE (z.sl 1)))) :: ((ad 73), .inl (y 0, 384, .inl (zR (z.sl 1)))) :: ((ad 74), .inl (y 0, 6, .inl (zY (z.sl 1)))) :: ((ad 75), .inl (y 0, 192, .inl (zOf z.cm))) :: ((g 0), .inr (5, [.int z.th, .ref (g 1), .int (nI z.rv), .ref (g 2), .ref (g 3), .int (nI z.ln), .int (nI z.at9), .int (nI z.pl), .int z.va, .long z.hs])) :: ((g 1), .inl (y 0, 4023, .inl z.G)) :: ((g 2), .inl (y 2, 2, .inl z.hd)) :: ((g 3), .inl (y 0, 60, .inl (zX z.tx))) :: (o1, .inl (y 4, 1, .inr (.inl z.x1))) :: (o2, .inl (y 5, 1, .inr (.inr (.inr (.inl z.x2))))) :: [])
def zOk (S : Nat → Int32) (n : Nat) : Prop := n ≤ 6 ∧ S 1 = nI n ∧ (S 8 = 0 ∨ S 8 = 1) ∧ (∀ v : Nat, v < 16 → S (11 + 3 * v) = 0 ∨ S (11 + 3 * v) = 1 ∨ S (11 + 3 * v) = 2 ∨ S (11 + 3 * v) = 3) ∧
  (∀ v q : Nat, v < 16 → q < 2 → -99 ≤ (S (9 + 3 * v + q)).toInt ∧ (S (9 + 3 * v + q)).toInt ≤ 99) ∧ (∀ q : Nat, q < 2 → -50 ≤ (S (2 + q)).toInt ∧ (S (2 + q)).toInt ≤ 50) ∧
  (∀ k j : Nat, k < 6 → j < 64 → -900 ≤ (S (58 + 65 * k + j)).toInt ∧ (S (58 + 65 * k + j)).toInt ≤ 900)
theorem zOk.ext {S T : Nat → Int32} {n : Nat} (h : zOk S n) (e : ∀ k : Nat, k < 447 → T k = S k) : zOk T n := by
  obtain ⟨h1, h2, h3, h4, h5, h6, h7⟩ := h
  refine ⟨h1, ?_, ?_, ?_, ?_, ?_, ?_⟩
  · rw [e 1 (by decide)]; exact h2
  · rw [e 8 (by decide)]; exact h3
  · intro v hv; rw [e _ (by omega)]; exact h4 v hv
  · intro v q hv hq; rw [e _ (by omega)]; exact h5 v q hv hq
  · intro q hq; rw [e _ (by omega)]; exact h6 q hq
  · intro k j hk hj; rw [e _ (by omega)]; exact h7 k j hk hj
theorem zOk.hTq {S : Nat → Int32} {n : Nat} (h : zOk S n) : hTq S := by
  intro v hv
  unfold qTq
  rcases h.2.2.2.1 v hv with e | e | e | e <;> rw [e] <;> decide
theorem zOk.hB {S : Nat → Int32} {n : Nat} (h : zOk S n) : ∀ k : Nat, k < 6 → ∀ o v : Nat, o < 2 → v < 16 → -1800 ≤ (qCk S k v o).toInt ∧ (qCk S k v o).toInt ≤ 1800 := by
  intro k hk o v ho hv
  have a := h.2.2.2.2.2.2 k (4 * v + 2 * o) hk (by omega)
  have b := h.2.2.2.2.2.2 k (4 * v + 2 * o + 1) hk (by omega)
  unfold qCk qRd
  rw [show 58 + 65 * k + 4 * v + 2 * o + 0 = 58 + 65 * k + (4 * v + 2 * o) by omega, show 58 + 65 * k + 4 * v + 2 * o + 1 = 58 + 65 * k + (4 * v + 2 * o + 1) by omega]
  rw [Int32.toInt_add, Int.bmod_eq_of_le (by omega) (by omega)]
  omega
/-- what holds between the calls -/
def zInv (z : zSt) : Prop := (z.ro < 6 ∧ z.rv ≤ 6 ∧ z.ln ≤ 60 ∧ (∀ i : Nat, i < z.ln → z.tx i < 127) ∧ rGood z.q) ∧ zOk z.G z.n ∧
  (z.fr = 0 ∨ (z.fr = 1 ∧ zCmF z.G z.cm z.n ∧ zRdF z.G z.rd z.n ∧ zTdF z.G z.td z.n)) ∧
  (∀ i k : Nat, i < z.rv → k < 447 → z.rg ((z.ro + i) % 6) k = z.G (447 * (i + 1) + k)) ∧
  (∀ i : Nat, i < z.rv → ∃ n, zOk (fun k => z.G (447 * (i + 1) + k)) n) ∧
  (∀ j : Nat, j < 2 → ¬ z.hd j = 0 → (∀ k : Nat, k < 447 → z.sl j k = z.G (447 * (7 + j) + k)) ∧ ∃ n, zOk (fun k => z.G (447 * (7 + j) + k)) n)
theorem svS_hi {S : Nat → Int32} {v j : Nat} (hv : v ≤ 6) (hj : 3129 ≤ j) : svS S v j = S j := by
  unfold svS
  split
  · simp only [cpS]; repeat (rw [if_neg (by omega)])
  · unfold cpS; rw [if_neg (by omega)]
theorem svS_6 {S : Nat → Int32} {i k : Nat} (hi : i < 5) (hk : k < 447) : svS S 6 (447 * (i + 1) + k) = S (447 * (i + 1 + 1) + k) := by
  unfold svS
  rw [if_pos rfl]
  rcases (show i = 0 ∨ i = 1 ∨ i = 2 ∨ i = 3 ∨ i = 4 by omega) with rfl | rfl | rfl | rfl | rfl <;> simp only [cpS] <;> (repeat (first | rw [if_pos (by omega)] | rw [if_neg (by omega)])) <;> exact congrArg S (by omega)
theorem svS_66 {S : Nat → Int32} {k : Nat} (hk : k < 447) : svS S 6 (447 * (5 + 1) + k) = S k := by
  unfold svS
  rw [if_pos rfl]
  simp only [cpS]
  (repeat (first | rw [if_pos (by omega)] | rw [if_neg (by omega)])) <;> exact congrArg S (by omega)
theorem svS_v {S : Nat → Int32} {v k : Nat} (hv : v < 6) (hk : k < 447) : svS S v (447 * (v + 1) + k) = S k := by
  unfold svS
  rw [if_neg (by omega)]
  unfold cpS
  rw [if_pos (by omega)]; exact congrArg S (by omega)
theorem svS_o {S : Nat → Int32} {v i k : Nat} (hv : v < 6) (hi : i < v) (hk : k < 447) : svS S v (447 * (i + 1) + k) = S (447 * (i + 1) + k) := by
  unfold svS
  rw [if_neg (by omega)]
  unfold cpS
  rw [if_neg ?_]
  intro h
  have : 447 * (i + 1) ≤ 447 * v := Nat.mul_le_mul_left _ (by omega)
  omega
theorem zrng {x lo hi : Int32} (h : ¬ x < lo ∧ ¬ hi < x) : lo.toInt ≤ x.toInt ∧ x.toInt ≤ hi.toInt := by
  rw [Int32.lt_iff_toInt_lt, Int32.lt_iff_toInt_lt] at h
  omega
theorem zOk_put {S : Nat → Int32} {n p : Nat} {x : Int32} (h : zOk S n) (h1 : p ≠ 1) (h8 : p = 8 → x = 0 ∨ x = 1) (hu : ∀ v : Nat, v < 16 → p = 11 + 3 * v → x = 0 ∨ x = 1 ∨ x = 2 ∨ x = 3)
    (ht : ∀ v q : Nat, v < 16 → q < 2 → p = 9 + 3 * v + q → -99 ≤ x.toInt ∧ x.toInt ≤ 99) (hb : ∀ q : Nat, q < 2 → p = 2 + q → -50 ≤ x.toInt ∧ x.toInt ≤ 50) (hr : ∀ k j : Nat, k < 6 → j < 64 → p = 58 + 65 * k + j → -900 ≤ x.toInt ∧ x.toInt ≤ 900) : zOk (upd S p x) n := by
  obtain ⟨a1, a2, a3, a4, a5, a6, a7⟩ := h
  refine ⟨a1, ?_, ?_, ?_, ?_, ?_, ?_⟩
  · rw [pk_un (fun e => h1 e.symm)]; exact a2
  · by_cases e : 8 = p
    · subst e; rw [pk_us]; exact h8 rfl
    · rw [pk_un e]; exact a3
  · intro v hv
    by_cases e : 11 + 3 * v = p
    · subst e; rw [pk_us]; exact hu v hv rfl
    · rw [pk_un e]; exact a4 v hv
  · intro v q hv hq
    by_cases e : 9 + 3 * v + q = p
    · subst e; rw [pk_us]; exact ht v q hv hq rfl
    · rw [pk_un e]; exact a5 v q hv hq
  · intro q hq
    by_cases e : 2 + q = p
    · subst e; rw [pk_us]; exact hb q hq rfl
    · rw [pk_un e]; exact a6 q hq
  · intro k j hk hj
    by_cases e : 58 + 65 * k + j = p
    · subst e; rw [pk_us]; exact hr k j hk hj rfl
    · rw [pk_un e]; exact a7 k j hk hj
theorem zOk_tilt {S : Nat → Int32} {n v q : Nat} {x : Int32} (h : zOk S n) (hv : v < 16) (hq : q < 2) (hx : -99 ≤ x.toInt ∧ x.toInt ≤ 99) : zOk (upd S (9 + 3 * v + q) x) n :=
  zOk_put h (by omega) (fun e => by omega) (fun v' _ e => by omega) (fun _ _ _ _ _ => hx) (fun q' _ e => by omega) (fun k j _ _ e => by omega)
theorem zOk_turn {S : Nat → Int32} {n v : Nat} {x : Int32} (h : zOk S n) (hv : v < 16) (hx : ¬ x < 0 ∧ ¬ 3 < x) : zOk (upd S (11 + 3 * v) x) n := by
  have hx' := zrng hx
  have hx2 : x = 0 ∨ x = 1 ∨ x = 2 ∨ x = 3 := by
    rw [show (0 : Int32).toInt = 0 from rfl, show (3 : Int32).toInt = 3 from rfl] at hx'
    rcases (show x.toInt = 0 ∨ x.toInt = 1 ∨ x.toInt = 2 ∨ x.toInt = 3 by omega) with e | e | e | e
    · exact Or.inl (Int32.toInt.inj e)
    · exact Or.inr (Or.inl (Int32.toInt.inj e))
    · exact Or.inr (Or.inr (Or.inl (Int32.toInt.inj e)))
    · exact Or.inr (Or.inr (Or.inr (Int32.toInt.inj e)))
  exact zOk_put h (by omega) (fun e => by omega) (fun _ _ _ => hx2) (fun v' q' _ _ e => by omega) (fun q' _ e => by omega) (fun k j _ _ e => by omega)
theorem zOk_bias {S : Nat → Int32} {n q : Nat} {x : Int32} (h : zOk S n) (hq : q < 2) (hx : ¬ x < (-50) ∧ ¬ 50 < x) : zOk (upd S (2 + q) x) n :=
  zOk_put h (by omega) (fun e => by omega) (fun v' _ e => by omega) (fun v' q' _ _ e => by omega) (fun _ _ _ => zrng hx) (fun k j _ _ e => by omega)
theorem zOk_set {S : Nat → Int32} {n q : Nat} {x : Int32} (h : zOk S n) (hq : q < 3) (hx : ¬ x < 0 ∧ ¬ (if q = 0 then (99 : Int32) else 1) < x) : zOk (upd S (6 + q) x) n := by
  refine zOk_put h (by omega) (fun e => ?_) (fun v' _ e => by omega) (fun v' q' _ _ e => by omega) (fun q' _ e => by omega) (fun k j _ _ e => by omega)
  rw [if_neg (by omega)] at hx
  have hx' := zrng hx
  rw [show (0 : Int32).toInt = 0 from rfl, show (1 : Int32).toInt = 1 from rfl] at hx'
  rcases (show x.toInt = 0 ∨ x.toInt = 1 by omega) with e | e
  · exact Or.inl (Int32.toInt.inj e)
  · exact Or.inr (Int32.toInt.inj e)
theorem zOk_low {S : Nat → Int32} {n p : Nat} {x : Int32} (h : zOk S n) (hp : p = 0 ∨ p = 4 ∨ p = 5) : zOk (upd S p x) n :=
  zOk_put h (by omega) (fun e => by omega) (fun v' _ e => by omega) (fun v' q' _ _ e => by omega) (fun q' _ e => by omega) (fun k j _ _ e => by omega)
theorem zOk_day {S : Nat → Int32} {n k : Nat} {x : Int32} (h : zOk S n) (hk : k < 6) : zOk (upd S (57 + 65 * k) x) n :=
  zOk_put h (by omega) (fun e => by omega) (fun v' _ e => by omega) (fun v' q' _ _ e => by omega) (fun q' _ e => by omega) (fun k' j _ _ e => by omega)
theorem zOk_n {S : Nat → Int32} {n n' : Nat} (h : zOk S n) (hn : n' ≤ 6) : zOk (upd S 1 (nI n')) n' := by
  obtain ⟨a1, a2, a3, a4, a5, a6, a7⟩ := h
  refine ⟨hn, pk_us, ?_, ?_, ?_, ?_, ?_⟩
  · rw [pk_un (by decide)]; exact a3
  · intro v hv; rw [pk_un (by omega)]; exact a4 v hv
  · intro v q hv hq; rw [pk_un (by omega)]; exact a5 v q hv hq
  · intro q hq; rw [pk_un (by omega)]; exact a6 q hq
  · intro k j hk hj; rw [pk_un (by omega)]; exact a7 k j hk hj
theorem zOk_rd {S : Nat → Int32} {n k j : Nat} {x : Int32} (h : zOk S n) (hk : k < 6) (hj : j < 64) (hx : -900 ≤ x.toInt ∧ x.toInt ≤ 900) : zOk (upd S (58 + 65 * k + j) x) n :=
  zOk_put h (by omega) (fun e => by omega) (fun v' _ e => by omega) (fun v' q' _ _ e => by omega) (fun q' _ e => by omega) (fun _ _ _ _ _ => hx)
theorem zOk_spoil {S : Nat → Int32} {n v q f : Nat} {x : Int32} (h : zOk S n) (hn : 0 < n) (hv : v < 16) (hq : q < 2) (hf : f < 2) (hx : ¬ x < (-900) ∧ ¬ 900 < x) : zOk (upd S (58 + 65 * (n - 1) + 4 * v + 2 * q + f) x) n := by
  have h6 := h.1
  have := zOk_rd (k := n - 1) (j := 4 * v + 2 * q + f) h (by omega) (by omega) (zrng hx)
  rwa [show 58 + 65 * (n - 1) + (4 * v + 2 * q + f) = 58 + 65 * (n - 1) + 4 * v + 2 * q + f by omega] at this
theorem qSld_b {x : Int32} : -99 ≤ (qSld x).toInt ∧ (qSld x).toInt ≤ 99 := by
  unfold qSld
  by_cases a : x < 99
  · rw [if_pos a]
    by_cases b : (-99) < x
    · rw [if_pos b]
      rw [Int32.lt_iff_toInt_lt] at a b
      rw [show (99 : Int32).toInt = 99 from rfl] at a
      rw [show (-99 : Int32).toInt = -99 from rfl] at b
      omega
    · rw [if_neg b]; decide
  · rw [if_neg a]; decide
/-- the invariant behind a change -/
theorem zInv_mut {z z' : zSt} (h : zInv z) (hG : ∀ k : Nat, 447 ≤ k → z'.G k = svS z.G z.rv k) (hok : zOk z'.G z'.n) (hrg : z'.rg = va_up z.rg ((z.ro + z.rv) % 6) z.G) (hro : z'.ro = if z.rv = 6 then (z.ro + 1) % 6 else z.ro) (hrv : z'.rv = sv2 z.rv)
    (hsl : z'.sl = z.sl) (hhd : z'.hd = z.hd) (hfr : z'.fr = 0) (hln : z'.ln ≤ 60) (htx : ∀ i : Nat, i < z'.ln → z'.tx i < 127) (hq : rGood z'.q) : zInv z' := by
  obtain ⟨⟨b1, b2, b3, b4, b5⟩, c1, c2, d1, d2, d3⟩ := h
  have e1 : ∀ i k : Nat, i < z'.rv → k < 447 → (i + 1 = z'.rv ∧ z'.G (447 * (i + 1) + k) = z.G k ∧ z'.rg ((z'.ro + i) % 6) = z.G) ∨ (∃ i' : Nat, i' < z.rv ∧ z'.G (447 * (i + 1) + k) = z.G (447 * (i' + 1) + k) ∧ z'.rg ((z'.ro + i) % 6) = z.rg ((z.ro + i') % 6) ∧ (z.rv = 6 ∧ i' = i + 1 ∨ z.rv < 6 ∧ i' = i)) := by
    intro i k hi hk
    rw [hG _ (by omega), hrg, hro]
    rw [hrv] at hi ⊢
    unfold sv2 at hi ⊢
    by_cases h6 : z.rv = 6
    · rw [if_pos h6] at hi ⊢
      rw [if_pos h6, h6]
      by_cases hi5 : i = 5
      · left
        subst hi5
        refine ⟨rfl, svS_66 hk, ?_⟩
        show (if _ then _ else _) = _
        rw [if_pos (by omega)]
      · right
        refine ⟨i + 1, by omega, svS_6 (by omega) hk, ?_, Or.inl ⟨rfl, rfl⟩⟩
        show (if _ then _ else _) = _
        rw [if_neg (by omega)]
        exact congrArg z.rg (by omega)
    · rw [if_neg h6] at hi ⊢
      rw [if_neg h6]
      by_cases hiv : i = z.rv
      · left
        subst hiv
        refine ⟨rfl, svS_v (by omega) hk, ?_⟩
        show (if _ then _ else _) = _
        rw [if_pos rfl]
      · right
        refine ⟨i, by omega, svS_o (by omega) (by omega) hk, ?_, Or.inr ⟨by omega, rfl⟩⟩
        show (if _ then _ else _) = _
        rw [if_neg (by omega)]
  refine ⟨⟨?_, ?_, hln, htx, hq⟩, hok, Or.inl hfr, ?_, ?_, ?_⟩
  · rw [hro]; split <;> omega
  · rw [hrv]; unfold sv2; split <;> omega
  · intro i k hi hk
    rcases e1 i k hi hk with ⟨-, e, e'⟩ | ⟨i', hi', e, e', -⟩
    · rw [e, e']
    · rw [e, e']; exact d1 i' k hi' hk
  · intro i hi
    rcases e1 i 0 hi (by decide) with ⟨hl, -, -⟩ | ⟨i', hi', -, -, hc⟩
    · refine ⟨z.n, c1.ext fun k hk => ?_⟩
      rcases e1 i k hi hk with ⟨-, e, -⟩ | ⟨i'', hi'', e, -, hc'⟩
      · exact e
      · exfalso; rw [hrv] at hl; unfold sv2 at hl; split at hl <;> omega
    · obtain ⟨n, hn⟩ := d2 i' hi'
      refine ⟨n, hn.ext fun k hk => ?_⟩
      rcases e1 i k hi hk with ⟨hl, -, -⟩ | ⟨i'', hi'', e, -, hc'⟩
      · exfalso; rw [hrv] at hl; unfold sv2 at hl; split at hl <;> omega
      · have : i'' = i' := by omega
        rw [← this]; exact e
  · intro j hj hh
    rw [hhd] at hh
    obtain ⟨f1, n, f2⟩ := d3 j hj hh
    have e2 : ∀ k : Nat, k < 447 → z'.G (447 * (7 + j) + k) = z.G (447 * (7 + j) + k) := fun k hk => by rw [hG _ (by omega), svS_hi b2 (by omega)]
    exact ⟨fun k hk => by rw [hsl, e2 k hk]; exact f1 k hk, n, f2.ext e2⟩
theorem zInv_look {z z' : zSt} (h : zInv z) (hG : z'.G = z.G) (hrg : z'.rg = z.rg) (hro : z'.ro = z.ro) (hrv : z'.rv = z.rv) (hsl : z'.sl = z.sl) (hhd : z'.hd = z.hd) (hn : z'.n = z.n)
    (hfr : z'.fr = 0 ∨ (z'.fr = 1 ∧ zCmF z.G z'.cm z.n ∧ zRdF z.G z'.rd z.n ∧ zTdF z.G z'.td z.n)) (hln : z'.ln ≤ 60) (htx : ∀ i : Nat, i < z'.ln → z'.tx i < 127) (hq : rGood z'.q) : zInv z' := by
  obtain ⟨⟨b1, b2, b3, b4, b5⟩, c1, c2, d1, d2, d3⟩ := h
  refine ⟨⟨by rw [hro]; exact b1, by rw [hrv]; exact b2, hln, htx, hq⟩, by rw [hG, hn]; exact c1, by rw [hG, hn]; exact hfr, ?_, ?_, ?_⟩
  · rw [hG, hrg, hro, hrv]; exact d1
  · rw [hG, hrv]; exact d2
  · rw [hG, hsl, hhd]; exact d3
section ZEX
variable {S T : Nat → Int32}
theorem qRd_x (e : ∀ k : Nat, k < 447 → T k = S k) {k v o f : Nat} (hk : k < 6) (hv : v < 16) (ho : o < 2) (hf : f < 2) : qRd T k v o f = qRd S k v o f := e _ (by omega)
theorem qCk_x (e : ∀ k : Nat, k < 447 → T k = S k) {k v o : Nat} (hk : k < 6) (hv : v < 16) (ho : o < 2) : qCk T k v o = qCk S k v o := by
  unfold qCk; rw [qRd_x e hk hv ho (by decide), qRd_x e hk hv ho (by decide)]
theorem qBel_x (e : ∀ k : Nat, k < 447 → T k = S k) {k o : Nat} {x : Int32} (hk : k < 6) (ho : o < 2) : ∀ n : Nat, n ≤ 16 → qBel T k o x n = qBel S k o x n
  | 0, _ => rfl
  | n + 1, h => by
    show qBel T k o x n + (if qCk T k n o < x then 1 else 0) = qBel S k o x n + (if qCk S k n o < x then 1 else 0)
    rw [qBel_x e hk ho n (by omega), qCk_x e hk (by omega) ho]
theorem qNab_x (e : ∀ k : Nat, k < 447 → T k = S k) {k o : Nat} {x : Int32} (hk : k < 6) (ho : o < 2) : ∀ n : Nat, n ≤ 16 → qNab T k o x n = qNab S k o x n
  | 0, _ => rfl
  | n + 1, h => by
    show qNab T k o x n + (if qCk T k n o ≤ x then 1 else 0) = qNab S k o x n + (if qCk S k n o ≤ x then 1 else 0)
    rw [qNab_x e hk ho n (by omega), qCk_x e hk (by omega) ho]
theorem qCmL_x (e : ∀ k : Nat, k < 447 → T k = S k) {k o : Nat} (hk : k < 6) (ho : o < 2) : ∀ n : Nat, n ≤ 16 → qCmL T k o n = qCmL S k o n
  | 0, _ => rfl
  | n + 1, h => by
    show (if qBel T k o (qCk T k n o) 16 < 8 ∧ 8 ≤ qNab T k o (qCk T k n o) 16 then qCk T k n o else qCmL T k o n) = (if qBel S k o (qCk S k n o) 16 < 8 ∧ 8 ≤ qNab S k o (qCk S k n o) 16 then qCk S k n o else qCmL S k o n)
    rw [qCk_x e hk (by omega) ho, qBel_x e hk ho 16 (by decide), qNab_x e hk ho 16 (by decide), qCmL_x e hk ho n (by omega)]
theorem qCm_x (e : ∀ k : Nat, k < 447 → T k = S k) {k o : Nat} (hk : k < 6) (ho : o < 2) : qCm T k o = qCm S k o := qCmL_x e hk ho 16 (by decide)
theorem qOff_x (e : ∀ k : Nat, k < 447 → T k = S k) {k v o : Nat} (hk : k < 6) (hv : v < 16) (ho : o < 2) : qOff T k v o = qOff S k v o := by
  unfold qOff; rw [qCk_x e hk hv ho, qCm_x e hk ho]
theorem qFresh_x (e : ∀ k : Nat, k < 447 → T k = S k) {k v o : Nat} {b : Int32} (hk : k < 6) (hv : v < 16) (ho : o < 2) : qFresh T k v o b = qFresh S k v o b := by
  unfold qFresh; rw [e 7 (by decide), e 6 (by decide), qOff_x e hk hv ho, qCm_x e hk ho, qRd_x e hk hv ho (by decide), qRd_x e hk hv ho (by decide)]
theorem qTs_x (e : ∀ k : Nat, k < 447 → T k = S k) {v o : Nat} (hv : v < 16) (ho : o < 2) : ∀ k : Nat, k ≤ 6 → qTs T v o k = qTs S v o k
  | 0, _ => rfl
  | k + 1, h => by
    show qFresh T k v o (qTs T v o k) = qFresh S k v o (qTs S v o k)
    rw [qTs_x e hv ho k (by omega), qFresh_x e (by omega) hv ho]
theorem qTr_x (e : ∀ k : Nat, k < 447 → T k = S k) {k v o : Nat} (hk : k < 6) (hv : v < 16) (ho : o < 2) : qTr T k v o = qTr S k v o := qTs_x e hv ho (k + 1) (by omega)
theorem qTt_x (e : ∀ k : Nat, k < 447 → T k = S k) {k v o : Nat} (hk : k < 6) (hv : v < 16) (ho : o < 2) : qTt T k v o = qTt S k v o := by
  unfold qTt; rw [e 8 (by decide), e (11 + 3 * v) (by omega), qTr_x e hk hv ho, qTr_x e hk hv (by decide), qTr_x e hk hv (by decide)]
theorem zFnd_x (e : ∀ k : Nat, k < 447 → T k = S k) {cm rd td : Nat → Int32} {n : Nat} (hn : n ≤ 6) (f1 : zCmF S cm n) (f2 : zRdF S rd n) (f3 : zTdF S td n) : zCmF T cm n ∧ zRdF T rd n ∧ zTdF T td n :=
  ⟨⟨fun k o hk ho => (f1.1 k o hk ho).trans (qCm_x e (by omega) ho).symm, fun k v o hk hv ho => (f1.2 k v o hk hv ho).trans (qOff_x e (by omega) hv ho).symm⟩, fun k v o hk hv ho => (f2 k v o hk hv ho).trans (qTr_x e (by omega) hv ho).symm, fun k v o hk hv ho => (f3 k v o hk hv ho).trans (qTt_x e (by omega) hv ho).symm⟩
end ZEX
theorem zFind_ext {S cm rd td : Nat → Int32} {n j : Nat} (hj : j < 2) (hn : n ≤ 6) (f1 : zCmF S cm n) (f2 : zRdF S rd n) (f3 : zTdF S td n) : zCmF (cpS S 0 (7 + j)) cm n ∧ zRdF (cpS S 0 (7 + j)) rd n ∧ zTdF (cpS S 0 (7 + j)) td n :=
  zFnd_x (fun k hk => by unfold cpS; rw [if_neg (by omega)]) hn f1 f2 f3
theorem zInv_keep {z z' : zSt} {j : Nat} (h : zInv z) (hj : j < 2) (hG : z'.G = cpS z.G 0 (7 + j)) (hsl : z'.sl = va_up z.sl j z.G) (hhd : z'.hd = upd z.hd j 1) (hrg : z'.rg = z.rg) (hro : z'.ro = z.ro) (hrv : z'.rv = z.rv) (hn : z'.n = z.n)
    (hcm : z'.cm = z.cm) (hrd : z'.rd = z.rd) (htd : z'.td = z.td) (hfr : z'.fr = z.fr) (hln : z'.ln ≤ 60) (htx : ∀ i : Nat, i < z'.ln → z'.tx i < 127) (hq : rGood z'.q) : zInv z' := by
  obtain ⟨⟨b1, b2, b3, b4, b5⟩, c1, c2, d1, d2, d3⟩ := h
  have lo : ∀ k : Nat, k < 3129 → z'.G k = z.G k := fun k hk => by rw [hG]; unfold cpS; rw [if_neg (by omega)]
  have l4 : ∀ k : Nat, k < 447 → z'.G k = z.G k := fun k hk => lo k (by omega)
  have me : ∀ k : Nat, k < 447 → z'.G (447 * (7 + j) + k) = z.G k := fun k hk => by rw [hG]; unfold cpS; rw [if_pos (by omega)]; exact congrArg z.G (by omega)
  have ot : ∀ j' k : Nat, j' ≠ j → k < 447 → z'.G (447 * (7 + j') + k) = z.G (447 * (7 + j') + k) := fun j' k hjj hk => by rw [hG]; unfold cpS; rw [if_neg (by omega)]
  refine ⟨⟨by rw [hro]; exact b1, by rw [hrv]; exact b2, hln, htx, hq⟩, by rw [hn]; exact c1.ext l4, ?_, ?_, ?_, ?_⟩
  · rw [hfr, hcm, hrd, htd, hn]
    rcases c2 with e | ⟨e, f1, f2, f3⟩
    · exact Or.inl e
    · refine Or.inr ⟨e, ?_⟩
      rw [hG]; exact zFind_ext hj c1.1 f1 f2 f3
  · intro i k hi hk
    rw [hrv] at hi
    rw [hrg, hro, lo _ (by omega)]; exact d1 i k hi hk
  · intro i hi
    rw [hrv] at hi
    obtain ⟨n, hn⟩ := d2 i hi
    exact ⟨n, hn.ext fun k hk => lo _ (by omega)⟩
  · intro j' hj' hh
    by_cases e : j' = j
    · subst e
      refine ⟨fun k hk => ?_, z.n, c1.ext me⟩
      rw [me k hk, hsl]; show (if j' = j' then z.G else z.sl j') k = z.G k; rw [if_pos rfl]
    · rw [hhd, pk_un e] at hh
      obtain ⟨f1, n, f2⟩ := d3 j' hj' hh
      refine ⟨fun k hk => ?_, n, f2.ext fun k hk => ot j' k e hk⟩
      rw [ot j' k e hk, hsl]; show (if j' = j then z.G else z.sl j') k = _; rw [if_neg e]; exact f1 k hk
theorem zInv_undo {z z' : zSt} (h : zInv z) (hv : 0 < z.rv) (hG : z'.G = cpS z.G z.rv 0) (hsl : z'.sl = z.sl) (hhd : z'.hd = z.hd) (hrg : z'.rg = z.rg) (hro : z'.ro = z.ro) (hrv : z'.rv = z.rv - 1) (hn : zOk z'.G z'.n)
    (hfr : z'.fr = 0) (hln : z'.ln ≤ 60) (htx : ∀ i : Nat, i < z'.ln → z'.tx i < 127) (hq : rGood z'.q) : zInv z' := by
  obtain ⟨⟨b1, b2, b3, b4, b5⟩, c1, c2, d1, d2, d3⟩ := h
  have hi9 : ∀ k : Nat, 447 ≤ k → z'.G k = z.G k := fun k hk => by rw [hG]; unfold cpS; rw [if_neg (by omega)]
  refine ⟨⟨by rw [hro]; exact b1, by rw [hrv]; omega, hln, htx, hq⟩, hn, Or.inl hfr, ?_, ?_, ?_⟩
  · intro i k hi hk
    rw [hrv] at hi
    rw [hrg, hro, hi9 _ (by omega)]; exact d1 i k (by omega) hk
  · intro i hi
    rw [hrv] at hi
    obtain ⟨n, hn⟩ := d2 i (by omega)
    exact ⟨n, hn.ext fun k hk => hi9 _ (by omega)⟩
  · intro j hj hh
    rw [hhd] at hh
    obtain ⟨f1, n, f2⟩ := d3 j hj hh
    exact ⟨fun k hk => by rw [hsl, hi9 _ (by omega)]; exact f1 k hk, n, f2.ext fun k hk => hi9 _ (by omega)⟩
theorem zundo_at {z : zSt} (h : zInv z) (hv : 0 < z.rv) : (∀ k : Nat, k < 447 → z.rg ((z.ro + (z.rv - 1)) % 6) k = cpS z.G z.rv 0 k) ∧ ∃ n, zOk (cpS z.G z.rv 0) n := by
  obtain ⟨⟨b1, b2, b3, b4, b5⟩, c1, c2, d1, d2, d3⟩ := h
  have e : ∀ k : Nat, k < 447 → cpS z.G z.rv 0 k = z.G (447 * (z.rv - 1 + 1) + k) := fun k hk => by
    unfold cpS; rw [if_pos (by omega)]; exact congrArg z.G (by rw [show z.rv - 1 + 1 = z.rv by omega]; omega)
  refine ⟨fun k hk => by rw [e k hk]; exact d1 (z.rv - 1) k (by omega) hk, ?_⟩
  obtain ⟨n, hn⟩ := d2 (z.rv - 1) (by omega)
  exact ⟨n, hn.ext e⟩
theorem zback_at {z : zSt} {j : Nat} (h : zInv z) (hj : j < 2) (hh : ¬ z.hd j = 0) : (∀ k : Nat, k < 447 → z.sl j k = cpS (svS z.G z.rv) (7 + j) 0 k) ∧ (∃ n, zOk (cpS (svS z.G z.rv) (7 + j) 0) n) ∧ ∀ k : Nat, 447 ≤ k → cpS (svS z.G z.rv) (7 + j) 0 k = svS z.G z.rv k := by
  obtain ⟨⟨b1, b2, b3, b4, b5⟩, c1, c2, d1, d2, d3⟩ := h
  obtain ⟨f1, n, f2⟩ := d3 j hj hh
  have e : ∀ k : Nat, k < 447 → cpS (svS z.G z.rv) (7 + j) 0 k = z.G (447 * (7 + j) + k) := fun k hk => by
    unfold cpS; rw [if_pos (by omega)]
    rw [show 447 * (7 + j) + (k - 447 * 0) = 447 * (7 + j) + k by omega, svS_hi b2 (by omega)]
  exact ⟨fun k hk => by rw [e k hk]; exact f1 k hk, ⟨n, f2.ext e⟩, fun k hk => by unfold cpS; rw [if_neg (by omega)]⟩
theorem zneg_b {x : Int32} (h : -99 ≤ x.toInt ∧ x.toInt ≤ 99) : -99 ≤ (-x).toInt ∧ (-x).toInt ≤ 99 := by
  rw [Int32.toInt_neg, Int.bmod_eq_of_le (by omega) (by omega)]; omega
theorem zTurn_b {t a b : Int32} {d : Nat} (ha : -99 ≤ a.toInt ∧ a.toInt ≤ 99) (hb : -99 ≤ b.toInt ∧ b.toInt ≤ 99) : -99 ≤ (zTurn t a b d).toInt ∧ (zTurn t a b d).toInt ≤ 99 := by
  unfold zTurn
  (repeat' split) <;> first | exact ha | exact hb | exact zneg_b ha | exact zneg_b hb
theorem zOk.bd {S : Nat → Int32} {n v o f : Nat} (h : zOk S n) (hv : v < 16) (ho : o < 2) : -149 ≤ (qPr S v o f).toInt ∧ (qPr S v o f).toInt ≤ 149 := by
  have b := h.2.2.2.2.2.1 o ho
  have t0 := h.2.2.2.2.1 v 0 hv (by decide)
  have t1 := h.2.2.2.2.1 v 1 hv (by decide)
  have ow : -99 ≤ (qOwn S v o).toInt ∧ (qOwn S v o).toInt ≤ 99 := by
    unfold qOwn
    exact zTurn_b t0 (by rw [show 10 + 3 * v = 9 + 3 * v + 1 by omega]; exact t1)
  have e1 : (S (2 + o) + qOwn S v o).toInt = (S (2 + o)).toInt + (qOwn S v o).toInt := by rw [Int32.toInt_add, Int.bmod_eq_of_le (by omega) (by omega)]
  have e2 : (S (2 + o) - qOwn S v o).toInt = (S (2 + o)).toInt - (qOwn S v o).toInt := by rw [Int32.toInt_sub, Int.bmod_eq_of_le (by omega) (by omega)]
  unfold qPr
  split
  · rw [e1]; omega
  · rw [e2]; omega
theorem zOk_sv {S : Nat → Int32} {n : Nat} (h : zOk S n) (hn : n < 6) : zOk (qSv S n) (n + 1) := by
  have h0 := h
  obtain ⟨a1, a2, a3, a4, a5, a6, a7⟩ := h
  have lo : ∀ k : Nat, k < 57 → k ≠ 1 → k ≠ 4 → qSv S n k = S k := fun k h1 h2 h3 => by
    unfold qSv; rw [if_neg h2, if_neg h3, if_neg (by omega), if_neg (by omega)]
  refine ⟨by omega, ?_, ?_, ?_, ?_, ?_, ?_⟩
  · unfold qSv; rw [if_pos rfl]
  · rw [lo 8 (by decide) (by decide) (by decide)]; exact a3
  · intro v hv; rw [lo _ (by omega) (by omega) (by omega)]; exact a4 v hv
  · intro v q hv hq; rw [lo _ (by omega) (by omega) (by omega)]; exact a5 v q hv hq
  · intro q hq; rw [lo _ (by omega) (by omega) (by omega)]; exact a6 q hq
  · intro k j hk hj
    unfold qSv
    rw [if_neg (by omega), if_neg (by omega), if_neg (by omega)]
    split
    · rename_i hr
      have := h0.bd (v := (58 + 65 * k + j - 58 - 65 * n) / 4) (o := (58 + 65 * k + j - 58 - 65 * n) / 2 % 2) (f := (58 + 65 * k + j - 58 - 65 * n) % 2) (by omega) (by omega)
      omega
    · exact a7 k j hk hj
theorem rVal_b {q : Nat → Nat} (h : rGood q) : -900 ≤ (rVal q).toInt ∧ (rVal q).toInt ≤ 900 := by
  have h4 := h.2.2.2.2.1
  have e : (nI (q 4)).toInt = (q 4 : Int) := by
    unfold nI
    rw [Int32.toInt_ofNat_of_lt (by omega)]
  unfold rVal
  split
  · rw [e]; omega
  · rw [Int32.toInt_neg, e, Int.bmod_eq_of_le (by omega) (by omega)]; omega
theorem zOk_put5 {S : Nat → Int32} {n ln : Nat} {tx : Nat → Nat} (h : zOk S n) (hn : 0 < n) (hg : ∀ i : Nat, i < ln → rGood (rRun tx z0 (i + 1))) : ∀ i : Nat, i ≤ ln → zOk (rPut S (n - 1) tx z0 ln i) n
  | 0, _ => h
  | i + 1, hi => by
    have ih := zOk_put5 h hn hg i (by omega)
    have g := hg i (by omega)
    have h6 := h.1
    show zOk (if i + 1 = ln ∨ tx (i + 1) = 59 then upd (rPut S (n - 1) tx z0 ln i) (58 + 65 * (n - 1) + 4 * (rRun tx z0 (i + 1) 1) + 2 * (rRun tx z0 (i + 1) 2) + rRun tx z0 (i + 1) 3) (rVal (rRun tx z0 (i + 1))) else rPut S (n - 1) tx z0 ln i) n
    split
    · have := zOk_rd (k := n - 1) (j := 4 * (rRun tx z0 (i + 1) 1) + 2 * (rRun tx z0 (i + 1) 2) + rRun tx z0 (i + 1) 3) ih (by omega) (by have := g.2.1; have := g.2.2.1; have := g.2.2.2.1; omega) (rVal_b g)
      rwa [show 58 + 65 * (n - 1) + (4 * (rRun tx z0 (i + 1) 1) + 2 * (rRun tx z0 (i + 1) 2) + rRun tx z0 (i + 1) 3) = 58 + 65 * (n - 1) + 4 * (rRun tx z0 (i + 1) 1) + 2 * (rRun tx z0 (i + 1) 2) + rRun tx z0 (i + 1) 3 by omega] at this
    · exact ih
/-- the same numbers where two rows agree below 447 -/
theorem rPut_x {S T : Nat → Int32} {k ln : Nat} {tx : Nat → Nat} {a : Nat} (e : ∀ j : Nat, j < a → T j = S j) : ∀ i : Nat, ∀ j : Nat, j < a → rPut T k tx z0 ln i j = rPut S k tx z0 ln i j
  | 0, j, hj => e j hj
  | i + 1, j, hj => by
    have ih := rPut_x (k := k) (ln := ln) (tx := tx) e i
    show (if _ then upd (rPut T k tx z0 ln i) _ _ else rPut T k tx z0 ln i) j = (if _ then upd (rPut S k tx z0 ln i) _ _ else rPut S k tx z0 ln i) j
    split
    · unfold upd; split
      · rfl
      · exact ih j hj
    · exact ih j hj
theorem rPut_h {S : Nat → Int32} {k ln : Nat} {tx : Nat → Nat} (hk : k < 6) (hg : ∀ i : Nat, i < ln → rGood (rRun tx z0 (i + 1))) : ∀ i : Nat, i ≤ ln → ∀ j : Nat, (j < 58 ∨ 447 ≤ j) → rPut S k tx z0 ln i j = S j
  | 0, _, j, _ => rfl
  | i + 1, hi, j, hj => by
    have ih := rPut_h (S := S) hk hg i (by omega) j hj
    have g := hg i (by omega)
    show (if _ then upd (rPut S k tx z0 ln i) _ _ else rPut S k tx z0 ln i) j = S j
    split
    · rw [pk_un (by have := g.2.1; have := g.2.2.1; have := g.2.2.2.1; omega)]; exact ih
    · exact ih
theorem upd_x {S T : Nat → Int32} {p : Nat} {x y : Int32} {a : Nat} (e : ∀ j : Nat, j < a → T j = S j) (hx : x = y) : ∀ j : Nat, j < a → upd T p x j = upd S p y j := by
  intro j hj; subst hx; unfold upd; split
  · rfl
  · exact e j hj
theorem qSv_x {S T : Nat → Int32} {n : Nat} (e : ∀ j : Nat, j < 447 → T j = S j) : ∀ j : Nat, j < 447 → qSv T n j = qSv S n j := by
  intro j hj
  unfold qSv
  rw [e 0 (by decide), e 4 (by decide), e j hj]
  (repeat' split) <;> first | rfl | exact qPr_eq (fun i hi => e i (by omega)) (by omega) (by omega)
-- the rows of a state under a row that agrees
section ZSC
variable {D : va_G} {y : Nat → ClassId} {H : Heap}
theorem zstc {ws : va_W} {A : Nat → Prop} (hP : va_P D vwCl ws H) (hD : va_D A ws) (i : Nat) (T : Nat → Int32) {S : Nat → Int32} {a0 a1 a2 a3 a4 a5 a6 r1 r2 r3 r4 r5 r6 : Nat} {cA : ClassId}
    (e0 : ws[i]? = some (a0, .inr (2, [.ref r1, .ref r2, .ref r3, .ref r4, .ref r5, .ref r6, .int (S 0), .int (S 1), .int (S 4), .int (S 5)]))) (e1 : ws[i + 1]? = some (a1, .inl (cA, 32, .inl (zT S)))) (e2 : ws[i + 2]? = some (a2, .inl (cA, 16, .inl (zU S)))) (e3 : ws[i + 3]? = some (a3, .inl (cA, 2, .inl (zB S)))) (e4 : ws[i + 4]? = some (a4, .inl (cA, 3, .inl (zE S)))) (e5 : ws[i + 5]? = some (a5, .inl (cA, 384, .inl (zR S)))) (e6 : ws[i + 6]? = some (a6, .inl (cA, 6, .inl (zY S))))
    (h : ∀ j : Nat, j < 447 → S j = T j) :
    va_P D vwCl (((((((ws.set i (a0, .inr (2, [.ref r1, .ref r2, .ref r3, .ref r4, .ref r5, .ref r6, .int (T 0), .int (T 1), .int (T 4), .int (T 5)]))).set (i + 1) (a1, .inl (cA, 32, .inl (zT T)))).set (i + 2) (a2, .inl (cA, 16, .inl (zU T)))).set (i + 3) (a3, .inl (cA, 2, .inl (zB T)))).set (i + 4) (a4, .inl (cA, 3, .inl (zE T)))).set (i + 5) (a5, .inl (cA, 384, .inl (zR T)))).set (i + 6) (a6, .inl (cA, 6, .inl (zY T)))) H ∧
    va_D A (((((((ws.set i (a0, .inr (2, [.ref r1, .ref r2, .ref r3, .ref r4, .ref r5, .ref r6, .int (T 0), .int (T 1), .int (T 4), .int (T 5)]))).set (i + 1) (a1, .inl (cA, 32, .inl (zT T)))).set (i + 2) (a2, .inl (cA, 16, .inl (zU T)))).set (i + 3) (a3, .inl (cA, 2, .inl (zB T)))).set (i + 4) (a4, .inl (cA, 3, .inl (zE T)))).set (i + 5) (a5, .inl (cA, 384, .inl (zR T)))).set (i + 6) (a6, .inl (cA, 6, .inl (zY T)))) :=
  zstput hP hD i T e0 e1 e2 e3 e4 e5 e6 ⟨h 0 (by decide), h 1 (by decide), h 4 (by decide), h 5 (by decide)⟩ (fun j hj => by unfold zT; exact h _ (by omega)) (fun j hj => by unfold zU; exact h _ (by omega)) (fun j hj => by unfold zB; exact h _ (by omega)) (fun j hj => by unfold zE; exact h _ (by omega)) (fun j hj => by unfold zR; exact h _ (by omega)) (fun j hj => by unfold zY; exact h _ (by omega))
end ZSC
