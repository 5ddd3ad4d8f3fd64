/-! the state between the law's turns -/
def zOk (S : Nat → Int32) (n : Nat) : Prop := n ≤ 6 ∧ S 1 = nI n ∧ (S 8 = 0 ∨ S 8 = 1) ∧ (∀ v : Nat, v < 16 → S (11 + 3 * v) = 0 ∨ S (11 + 3 * v) = 1 ∨ S (11 + 3 * v) = 2 ∨ S (11 + 3 * v) = 3) ∧
  (∀ v q : Nat, v < 16 → q < 2 → -99 ≤ (S (9 + 3 * v + q)).toInt ∧ (S (9 + 3 * v + q)).toInt ≤ 99) ∧ (∀ q : Nat, q < 2 → -50 ≤ (S (2 + q)).toInt ∧ (S (2 + q)).toInt ≤ 50) ∧
  (∀ k j : Nat, k < 6 → j < 64 → -900 ≤ (S (58 + 65 * k + j)).toInt ∧ (S (58 + 65 * k + j)).toInt ≤ 900)
theorem zOk.ext {S T : Nat → Int32} {n : Nat} (h : zOk S n) (e : ∀ k : Nat, k < 447 → T k = S k) : zOk T n := by
  obtain ⟨h1, h2, h3, h4, h5, h6, h7⟩ := h
  refine ⟨h1, ?_, ?_, ?_, ?_, ?_, ?_⟩
  · rw [e 1 (by decide)]; exact h2
  · rw [e 8 (by decide)]; exact h3
  · intro v hv; rw [e _ (by omega)]; exact h4 v hv
  · intro v q hv hq; rw [e _ (by omega)]; exact h5 v q hv hq
  · intro q hq; rw [e _ (by omega)]; exact h6 q hq
  · intro k j hk hj; rw [e _ (by omega)]; exact h7 k j hk hj
theorem zrng {x lo hi : Int32} (h : ¬ x < lo ∧ ¬ hi < x) : lo.toInt ≤ x.toInt ∧ x.toInt ≤ hi.toInt := by
  rw [Int32.lt_iff_toInt_lt, Int32.lt_iff_toInt_lt] at h
  omega
theorem zOk_put {S : Nat → Int32} {n p : Nat} {x : Int32} (h : zOk S n) (h1 : p ≠ 1) (h8 : p = 8 → x = 0 ∨ x = 1) (hu : ∀ v : Nat, v < 16 → p = 11 + 3 * v → x = 0 ∨ x = 1 ∨ x = 2 ∨ x = 3)
    (ht : ∀ v q : Nat, v < 16 → q < 2 → p = 9 + 3 * v + q → -99 ≤ x.toInt ∧ x.toInt ≤ 99) (hb : ∀ q : Nat, q < 2 → p = 2 + q → -50 ≤ x.toInt ∧ x.toInt ≤ 50) (hr : ∀ k j : Nat, k < 6 → j < 64 → p = 58 + 65 * k + j → -900 ≤ x.toInt ∧ x.toInt ≤ 900) : zOk (upd S p x) n := by
  obtain ⟨a1, a2, a3, a4, a5, a6, a7⟩ := h
  refine ⟨a1, ?_, ?_, ?_, ?_, ?_, ?_⟩
  · rw [pk_un (fun e => h1 e.symm)]; exact a2
  · by_cases e : 8 = p
    · subst e; rw [pk_us]; exact h8 rfl
    · rw [pk_un e]; exact a3
  · intro v hv
    by_cases e : 11 + 3 * v = p
    · subst e; rw [pk_us]; exact hu v hv rfl
    · rw [pk_un e]; exact a4 v hv
  · intro v q hv hq
    by_cases e : 9 + 3 * v + q = p
    · subst e; rw [pk_us]; exact ht v q hv hq rfl
    · rw [pk_un e]; exact a5 v q hv hq
  · intro q hq
    by_cases e : 2 + q = p
    · subst e; rw [pk_us]; exact hb q hq rfl
    · rw [pk_un e]; exact a6 q hq
  · intro k j hk hj
    by_cases e : 58 + 65 * k + j = p
    · subst e; rw [pk_us]; exact hr k j hk hj rfl
    · rw [pk_un e]; exact a7 k j hk hj
theorem zOk_tilt {S : Nat → Int32} {n v q : Nat} {x : Int32} (h : zOk S n) (hv : v < 16) (hq : q < 2) (hx : -99 ≤ x.toInt ∧ x.toInt ≤ 99) : zOk (upd S (9 + 3 * v + q) x) n :=
  zOk_put h (by omega) (fun e => by omega) (fun v' _ e => by omega) (fun _ _ _ _ _ => hx) (fun q' _ e => by omega) (fun k j _ _ e => by omega)
theorem zOk_turn {S : Nat → Int32} {n v : Nat} {x : Int32} (h : zOk S n) (hv : v < 16) (hx : ¬ x < 0 ∧ ¬ 3 < x) : zOk (upd S (11 + 3 * v) x) n := by
  have hx' := zrng hx
  have hx2 : x = 0 ∨ x = 1 ∨ x = 2 ∨ x = 3 := by
    rw [show (0 : Int32).toInt = 0 from rfl, show (3 : Int32).toInt = 3 from rfl] at hx'
    rcases (show x.toInt = 0 ∨ x.toInt = 1 ∨ x.toInt = 2 ∨ x.toInt = 3 by omega) with e | e | e | e
    · exact Or.inl (Int32.toInt.inj e)
    · exact Or.inr (Or.inl (Int32.toInt.inj e))
    · exact Or.inr (Or.inr (Or.inl (Int32.toInt.inj e)))
    · exact Or.inr (Or.inr (Or.inr (Int32.toInt.inj e)))
  exact zOk_put h (by omega) (fun e => by omega) (fun _ _ _ => hx2) (fun v' q' _ _ e => by omega) (fun q' _ e => by omega) (fun k j _ _ e => by omega)
theorem zOk_bias {S : Nat → Int32} {n q : Nat} {x : Int32} (h : zOk S n) (hq : q < 2) (hx : ¬ x < (-50) ∧ ¬ 50 < x) : zOk (upd S (2 + q) x) n :=
  zOk_put h (by omega) (fun e => by omega) (fun v' _ e => by omega) (fun v' q' _ _ e => by omega) (fun _ _ _ => zrng hx) (fun k j _ _ e => by omega)
theorem zOk_set {S : Nat → Int32} {n q : Nat} {x : Int32} (h : zOk S n) (hq : q < 3) (hx : ¬ x < 0 ∧ ¬ (if q = 0 then (99 : Int32) else 1) < x) : zOk (upd S (6 + q) x) n := by
  refine zOk_put h (by omega) (fun e => ?_) (fun v' _ e => by omega) (fun v' q' _ _ e => by omega) (fun q' _ e => by omega) (fun k j _ _ e => by omega)
  rw [if_neg (by omega)] at hx
  have hx' := zrng hx
  rw [show (0 : Int32).toInt = 0 from rfl, show (1 : Int32).toInt = 1 from rfl] at hx'
  rcases (show x.toInt = 0 ∨ x.toInt = 1 by omega) with e | e
  · exact Or.inl (Int32.toInt.inj e)
  · exact Or.inr (Int32.toInt.inj e)
theorem zOk_low {S : Nat → Int32} {n p : Nat} {x : Int32} (h : zOk S n) (hp : p = 0 ∨ p = 4 ∨ p = 5) : zOk (upd S p x) n :=
  zOk_put h (by omega) (fun e => by omega) (fun v' _ e => by omega) (fun v' q' _ _ e => by omega) (fun q' _ e => by omega) (fun k j _ _ e => by omega)
theorem zOk_n {S : Nat → Int32} {n n' : Nat} (h : zOk S n) (hn : n' ≤ 6) : zOk (upd S 1 (nI n')) n' := by
  obtain ⟨a1, a2, a3, a4, a5, a6, a7⟩ := h
  refine ⟨hn, pk_us, ?_, ?_, ?_, ?_, ?_⟩
  · rw [pk_un (by decide)]; exact a3
  · intro v hv; rw [pk_un (by omega)]; exact a4 v hv
  · intro v q hv hq; rw [pk_un (by omega)]; exact a5 v q hv hq
  · intro q hq; rw [pk_un (by omega)]; exact a6 q hq
  · intro k j hk hj; rw [pk_un (by omega)]; exact a7 k j hk hj
theorem zOk_rd {S : Nat → Int32} {n k j : Nat} {x : Int32} (h : zOk S n) (hk : k < 6) (hj : j < 64) (hx : -900 ≤ x.toInt ∧ x.toInt ≤ 900) : zOk (upd S (58 + 65 * k + j) x) n :=
  zOk_put h (by omega) (fun e => by omega) (fun v' _ e => by omega) (fun v' q' _ _ e => by omega) (fun q' _ e => by omega) (fun _ _ _ _ _ => hx)
theorem zOk_spoil {S : Nat → Int32} {n v q f : Nat} {x : Int32} (h : zOk S n) (hn : 0 < n) (hv : v < 16) (hq : q < 2) (hf : f < 2) (hx : ¬ x < (-900) ∧ ¬ 900 < x) : zOk (upd S (58 + 65 * (n - 1) + 4 * v + 2 * q + f) x) n := by
  have h6 := h.1
  have := zOk_rd (k := n - 1) (j := 4 * v + 2 * q + f) h (by omega) (by omega) (zrng hx)
  rwa [show 58 + 65 * (n - 1) + (4 * v + 2 * q + f) = 58 + 65 * (n - 1) + 4 * v + 2 * q + f by omega] at this
theorem qSld_b {x : Int32} : -99 ≤ (qSld x).toInt ∧ (qSld x).toInt ≤ 99 := by
  unfold qSld
  by_cases a : x < 99
  · rw [if_pos a]
    by_cases b : (-99) < x
    · rw [if_pos b]
      rw [Int32.lt_iff_toInt_lt] at a b
      rw [show (99 : Int32).toInt = 99 from rfl] at a
      rw [show (-99 : Int32).toInt = -99 from rfl] at b
      omega
    · rw [if_neg b]; decide
  · rw [if_neg a]; decide
theorem zneg_b {x : Int32} (h : -99 ≤ x.toInt ∧ x.toInt ≤ 99) : -99 ≤ (-x).toInt ∧ (-x).toInt ≤ 99 := by
  rw [Int32.toInt_neg, Int.bmod_eq_of_le (by omega) (by omega)]; omega
theorem zTurn_b {t a b : Int32} {d : Nat} (ha : -99 ≤ a.toInt ∧ a.toInt ≤ 99) (hb : -99 ≤ b.toInt ∧ b.toInt ≤ 99) : -99 ≤ (zTurn t a b d).toInt ∧ (zTurn t a b d).toInt ≤ 99 := by
  unfold zTurn
  (repeat' split) <;> first | exact ha | exact hb | exact zneg_b ha | exact zneg_b hb
theorem zOk.bd {S : Nat → Int32} {n v o f : Nat} (h : zOk S n) (hv : v < 16) (ho : o < 2) : -149 ≤ (qPr S v o f).toInt ∧ (qPr S v o f).toInt ≤ 149 := by
  have b := h.2.2.2.2.2.1 o ho
  have t0 := h.2.2.2.2.1 v 0 hv (by decide)
  have t1 := h.2.2.2.2.1 v 1 hv (by decide)
  have ow : -99 ≤ (qOwn S v o).toInt ∧ (qOwn S v o).toInt ≤ 99 := by
    unfold qOwn
    exact zTurn_b t0 (by rw [show 10 + 3 * v = 9 + 3 * v + 1 by omega]; exact t1)
  have e1 : (S (2 + o) + qOwn S v o).toInt = (S (2 + o)).toInt + (qOwn S v o).toInt := by rw [Int32.toInt_add, Int.bmod_eq_of_le (by omega) (by omega)]
  have e2 : (S (2 + o) - qOwn S v o).toInt = (S (2 + o)).toInt - (qOwn S v o).toInt := by rw [Int32.toInt_sub, Int.bmod_eq_of_le (by omega) (by omega)]
  unfold qPr
  split
  · rw [e1]; omega
  · rw [e2]; omega
theorem zOk.hB {S : Nat → Int32} {n : Nat} (h : zOk S n) : ∀ k : Nat, k < 6 → ∀ o v : Nat, o < 2 → v < 16 → -1800 ≤ (qCk S k v o).toInt ∧ (qCk S k v o).toInt ≤ 1800 := by
  intro k hk o v ho hv
  have a := h.2.2.2.2.2.2 k (4 * v + 2 * o) hk (by omega)
  have b := h.2.2.2.2.2.2 k (4 * v + 2 * o + 1) hk (by omega)
  unfold qCk qRd
  rw [show 58 + 65 * k + 4 * v + 2 * o + 0 = 58 + 65 * k + (4 * v + 2 * o) by omega, show 58 + 65 * k + 4 * v + 2 * o + 1 = 58 + 65 * k + (4 * v + 2 * o + 1) by omega]
  rw [Int32.toInt_add, Int.bmod_eq_of_le (by omega) (by omega)]
  omega
theorem zOk_sv {S : Nat → Int32} {n : Nat} (h : zOk S n) (hn : n < 6) : zOk (qSv S n) (n + 1) := by
  have h0 := h
  obtain ⟨a1, a2, a3, a4, a5, a6, a7⟩ := h
  have lo : ∀ k : Nat, k < 57 → k ≠ 1 → k ≠ 4 → qSv S n k = S k := fun k h1 h2 h3 => by
    unfold qSv; rw [if_neg h2, if_neg h3, if_neg (by omega), if_neg (by omega)]
  refine ⟨by omega, ?_, ?_, ?_, ?_, ?_, ?_⟩
  · unfold qSv; rw [if_pos rfl]
  · rw [lo 8 (by decide) (by decide) (by decide)]; exact a3
  · intro v hv; rw [lo _ (by omega) (by omega) (by omega)]; exact a4 v hv
  · intro v q hv hq; rw [lo _ (by omega) (by omega) (by omega)]; exact a5 v q hv hq
  · intro q hq; rw [lo _ (by omega) (by omega) (by omega)]; exact a6 q hq
  · intro k j hk hj
    unfold qSv
    rw [if_neg (by omega), if_neg (by omega), if_neg (by omega)]
    split
    · rename_i hr
      have := h0.bd (v := (58 + 65 * k + j - 58 - 65 * n) / 4) (o := (58 + 65 * k + j - 58 - 65 * n) / 2 % 2) (f := (58 + 65 * k + j - 58 - 65 * n) % 2) (by omega) (by omega)
      omega
    · exact a7 k j hk hj
def zGd (S : Nat → Int32) (n : Nat) (b : Int) : Prop := zOk S n ∧ (S 7 = 0 ∨ S 7 = 1) ∧ (0 ≤ (S 6).toInt ∧ (S 6).toInt ≤ 99) ∧ (∀ k : Nat, k < n → 0 ≤ (S (57 + 65 * k)).toInt ∧ (S (57 + 65 * k)).toInt ≤ (S 0).toInt) ∧ (∀ k : Nat, k + 1 < n → (S (57 + 65 * k)).toInt ≤ (S (57 + 65 * (k + 1))).toInt) ∧ (0 ≤ (S 0).toInt ∧ (S 0).toInt ≤ b) ∧ ((n : Int) ≤ (S 4).toInt ∧ (S 4).toInt ≤ b)
theorem zGd.mono {S : Nat → Int32} {n : Nat} {b b' : Int} (h : zGd S n b) (hb : b ≤ b') : zGd S n b' := by
  obtain ⟨h1, h2, h3, h4, h5, h6, h7⟩ := h
  exact ⟨h1, h2, h3, h4, h5, by omega, by omega⟩
theorem zGd_put {S : Nat → Int32} {n p : Nat} {x : Int32} {b : Int} (h : zGd S n b) (ho : zOk (upd S p x) n) (h0 : p ≠ 0) (h4 : p ≠ 4) (h6 : p ≠ 6) (h7 : p ≠ 7) (hd : ∀ k : Nat, k < 6 → p ≠ 57 + 65 * k) : zGd (upd S p x) n b := by
  obtain ⟨a1, a2, a3, a4, a5, a6, a7⟩ := h
  have hn := a1.1
  refine ⟨ho, ?_, ?_, ?_, ?_, ?_, ?_⟩
  · rw [pk_un (fun e => h7 e.symm)]; exact a2
  · rw [pk_un (fun e => h6 e.symm)]; exact a3
  · intro k hk; rw [pk_un (fun e => hd k (by omega) e.symm), pk_un (fun e => h0 e.symm)]; exact a4 k hk
  · intro k hk; rw [pk_un (fun e => hd k (by omega) e.symm), pk_un (fun e => hd (k + 1) (by omega) e.symm)]; exact a5 k hk
  · rw [pk_un (fun e => h0 e.symm)]; exact a6
  · rw [pk_un (fun e => h4 e.symm)]; exact a7
theorem zGd_tilt {S : Nat → Int32} {n v q : Nat} {x : Int32} {b : Int} (h : zGd S n b) (hv : v < 16) (hq : q < 2) (hx : -99 ≤ x.toInt ∧ x.toInt ≤ 99) : zGd (upd S (9 + 3 * v + q) x) n b :=
  zGd_put h (zOk_tilt h.1 hv hq hx) (by omega) (by omega) (by omega) (by omega) (fun k _ => by omega)
theorem zGd_turn {S : Nat → Int32} {n v : Nat} {x : Int32} {b : Int} (h : zGd S n b) (hv : v < 16) (hx : ¬ x < 0 ∧ ¬ 3 < x) : zGd (upd S (11 + 3 * v) x) n b :=
  zGd_put h (zOk_turn h.1 hv hx) (by omega) (by omega) (by omega) (by omega) (fun k _ => by omega)
theorem zGd_bias {S : Nat → Int32} {n q : Nat} {x : Int32} {b : Int} (h : zGd S n b) (hq : q < 2) (hx : ¬ x < (-50) ∧ ¬ 50 < x) : zGd (upd S (2 + q) x) n b :=
  zGd_put h (zOk_bias h.1 hq hx) (by omega) (by omega) (by omega) (by omega) (fun k _ => by omega)
theorem zGd_spoil {S : Nat → Int32} {n v q f : Nat} {x y : Int32} {b : Int} (h : zGd S n b) (hn : 0 < n) (hv : v < 16) (hq : q < 2) (hf : f < 2) (hx : ¬ x < (-900) ∧ ¬ 900 < x) : zGd (upd (upd S (58 + 65 * (n - 1) + 4 * v + 2 * q + f) x) 5 y) n b := by
  have h6 := h.1.1
  have h1 := zOk_spoil h.1 hn hv hq hf hx
  exact zGd_put (zGd_put h h1 (by omega) (by omega) (by omega) (by omega) (fun k _ => by omega)) (zOk_low h1 (Or.inr (Or.inr rfl))) (by decide) (by decide) (by decide) (by decide) (fun k _ => by omega)
theorem zbit2 {x : Int32} (h : ¬ x < 0 ∧ ¬ 1 < x) : x = 0 ∨ x = 1 := by
  have hx := zrng h
  rw [show (0 : Int32).toInt = 0 from rfl, show (1 : Int32).toInt = 1 from rfl] at hx
  rcases (show x.toInt = 0 ∨ x.toInt = 1 by omega) with e | e
  · exact Or.inl (Int32.toInt.inj e)
  · exact Or.inr (Int32.toInt.inj e)
theorem zGd_set {S : Nat → Int32} {n q : Nat} {x : Int32} {b : Int} (h : zGd S n b) (hq : q < 3) (hx : ¬ x < 0 ∧ ¬ (if q = 0 then (99 : Int32) else 1) < x) : zGd (upd S (6 + q) x) n b := by
  have ho := zOk_set h.1 hq hx
  obtain ⟨a1, a2, a3, a4, a5, a6, a7⟩ := h
  have hn := a1.1
  refine ⟨ho, ?_, ?_, ?_, ?_, ?_, ?_⟩
  · by_cases e : q = 1
    · subst e; rw [show 6 + 1 = 7 from rfl, pk_us]; exact zbit2 hx
    · rw [pk_un (by omega)]; exact a2
  · by_cases e : q = 0
    · subst e
      rw [show 6 + 0 = 6 from rfl, pk_us]
      have := zrng hx
      rw [if_pos rfl, show (0 : Int32).toInt = 0 from rfl, show (99 : Int32).toInt = 99 from rfl] at this
      exact this
    · rw [pk_un (by omega)]; exact a3
  · intro k hk; rw [pk_un (by omega), pk_un (by omega)]; exact a4 k hk
  · intro k hk; rw [pk_un (by omega), pk_un (by omega)]; exact a5 k hk
  · rw [pk_un (by omega)]; exact a6
  · rw [pk_un (by omega)]; exact a7
theorem zadd_i {x y : Int32} (h1 : -1000000000 ≤ x.toInt) (h2 : x.toInt ≤ 1000000000) (h3 : -1000000000 ≤ y.toInt) (h4 : y.toInt ≤ 1000000000) : (x + y).toInt = x.toInt + y.toInt := by
  rw [Int32.toInt_add, Int.bmod_eq_of_le (by omega) (by omega)]
theorem zsub_i {x y : Int32} (h1 : -1000000000 ≤ x.toInt) (h2 : x.toInt ≤ 1000000000) (h3 : -1000000000 ≤ y.toInt) (h4 : y.toInt ≤ 1000000000) : (x - y).toInt = x.toInt - y.toInt := by
  rw [Int32.toInt_sub, Int.bmod_eq_of_le (by omega) (by omega)]
theorem zGd_pass {S : Nat → Int32} {n : Nat} {x : Int32} {b b' : Int} (h : zGd S n b) (hx : 1 ≤ x.toInt ∧ x.toInt ≤ 99) (hb : b ≤ 100000) (hb' : b + 99 ≤ b') : zGd (upd S 0 (S 0 + x)) n b' := by
  have ho := zOk_low (x := S 0 + x) h.1 (Or.inl rfl)
  obtain ⟨a1, a2, a3, a4, a5, a6, a7⟩ := h
  have hn := a1.1
  have e : (S 0 + x).toInt = (S 0).toInt + x.toInt := zadd_i (by omega) (by omega) (by omega) (by omega)
  refine ⟨ho, ?_, ?_, ?_, ?_, ?_, ?_⟩
  · rw [pk_un (by decide)]; exact a2
  · rw [pk_un (by decide)]; exact a3
  · intro k hk
    have := a4 k hk
    rw [pk_un (by omega), pk_us, e]; omega
  · intro k hk; rw [pk_un (by omega), pk_un (by omega)]; exact a5 k hk
  · rw [pk_us, e]; omega
  · rw [pk_un (by decide)]; omega
theorem zGd_drop {S : Nat → Int32} {n : Nat} {b : Int} (h : zGd S n b) : zGd (upd S 1 (nI (n - 1))) (n - 1) b := by
  have hn := h.1.1
  have ho := zOk_n (n' := n - 1) h.1 (by omega)
  obtain ⟨a1, a2, a3, a4, a5, a6, a7⟩ := h
  refine ⟨ho, ?_, ?_, ?_, ?_, ?_, ?_⟩
  · rw [pk_un (by decide)]; exact a2
  · rw [pk_un (by decide)]; exact a3
  · intro k hk; rw [pk_un (by omega), pk_un (by decide)]; exact a4 k (by omega)
  · intro k hk; rw [pk_un (by omega), pk_un (by omega)]; exact a5 k (by omega)
  · rw [pk_un (by decide)]; exact a6
  · rw [pk_un (by decide)]; omega
theorem qSv_lo {S : Nat → Int32} {n k : Nat} (h1 : k < 57) (h2 : k ≠ 1) (h3 : k ≠ 4) : qSv S n k = S k := by
  unfold qSv; rw [if_neg h2, if_neg h3, if_neg (by omega), if_neg (by omega)]
theorem qSv_day {S : Nat → Int32} {n k : Nat} (hk : k < n) : qSv S n (57 + 65 * k) = S (57 + 65 * k) := by
  unfold qSv; rw [if_neg (by omega), if_neg (by omega), if_neg (by omega), if_neg (by omega)]
theorem qSv_dayn {S : Nat → Int32} {n : Nat} : qSv S n (57 + 65 * n) = S 0 := by
  unfold qSv; rw [if_neg (by omega), if_neg (by omega), if_pos rfl]
theorem zGd_sv {S : Nat → Int32} {n : Nat} {b : Int} (h : zGd S n b) (hn : n < 6) (hb : b ≤ 100000) : zGd (qSv S n) (n + 1) (b + 1) := by
  have ho := zOk_sv h.1 hn
  obtain ⟨a1, a2, a3, a4, a5, a6, a7⟩ := h
  have e4 : qSv S n 4 = S 4 + 1 := by unfold qSv; rw [if_neg (by decide), if_pos rfl]
  have e : (S 4 + 1).toInt = (S 4).toInt + 1 := zadd_i (y := 1) (by omega) (by omega) (by decide) (by decide)
  refine ⟨ho, ?_, ?_, ?_, ?_, ?_, ?_⟩
  · rw [qSv_lo (by decide) (by decide) (by decide)]; exact a2
  · rw [qSv_lo (by decide) (by decide) (by decide)]; exact a3
  · intro k hk
    rw [qSv_lo (k := 0) (by decide) (by decide) (by decide)]
    rcases (show k < n ∨ k = n by omega) with r | r
    · rw [qSv_day r]; exact a4 k r
    · rw [r, qSv_dayn]; omega
  · intro k hk
    rw [qSv_day (by omega)]
    rcases (show k + 1 < n ∨ k + 1 = n by omega) with r | r
    · rw [qSv_day r]; exact a5 k r
    · rw [r, qSv_dayn]; exact (a4 k (by omega)).2
  · rw [qSv_lo (k := 0) (by decide) (by decide) (by decide)]; omega
  · rw [e4, e]; omega
theorem zGd.n1 {S : Nat → Int32} {n : Nat} {b : Int} (h : zGd S n b) : S 1 = nI n := h.1.2.1
theorem zGd.uniq {S : Nat → Int32} {n m : Nat} {b c : Int} (h : zGd S n b) (h' : zGd S m c) : n = m := by
  have e := h.n1.symm.trans h'.n1
  exact (nI_eq (by have := h.1.1; omega) (by have := h'.1.1; omega)).mp e
