/-! what the law's own methods tell and do -/
def zs (x k : Int32) : Int32 := x >>> (k &&& 31)
def zb (x : Int32) (k : Nat) : Nat := x.toBitVec.toNat % 2 ^ k
theorem zb_lt {x : Int32} {k : Nat} : zb x k < 2 ^ k := Nat.mod_lt _ (Nat.two_pow_pos k)
theorem zb1_lt {x : Int32} : zb x 1 < 2 := zb_lt
def zup (x : Int32) (n : Nat) : Nat := zb x 31 % n
theorem zup_lt {x : Int32} {n : Nat} (h : 0 < n) : zup x n < n := Nat.mod_lt _ h
def zPs (S : Nat → Int32) (n : Nat) (x : Int32) : Int32 × (Nat → Int32) × Nat := (S 0 + x, upd S 0 (S 0 + x), n)
def zDr (S : Nat → Int32) (n : Nat) : Int32 × (Nat → Int32) × Nat := (nI (n - 1), upd S 1 (nI (n - 1)), n - 1)
def zSu (S : Nat → Int32) (n : Nat) : Int32 × (Nat → Int32) × Nat := (nI n, qSv S n, n + 1)
def zTi (S : Nat → Int32) (n p : Nat) (w : Int32) : Int32 × (Nat → Int32) × Nat := (200 + S p, upd S p w, n)
def zSl (S : Nat → Int32) (n p : Nat) (w : Int32) : Int32 × (Nat → Int32) × Nat := (200 + qSld (S p + w), upd S p (qSld (S p + w)), n)
def zPt (S : Nat → Int32) (n p : Nat) (w : Int32) : Int32 × (Nat → Int32) × Nat := (S p, upd S p w, n)
def zSpl (S : Nat → Int32) (n p : Nat) (w : Int32) : Int32 × (Nat → Int32) × Nat := (2000 + (S p + w), upd (upd S p (S p + w)) 5 (S 5 + 1), n)
def zAk (S : Nat → Int32) (n : Nat) (T : Nat → Int32) (y : Int32) (k l q : Nat) (w : Int32) : Int32 × (Nat → Int32) × Nat :=
  if k < 3 then zTi S n (9 + 3 * l + q) w
  else if k < 5 then zSl S n (9 + 3 * l + q) w
  else if k = 5 then zPt S n (11 + 3 * l) (nI (zup (zs y 5) 4))
  else if k = 6 then zTi S n (2 + q) (nI (zup (zs y 5) 101) - 50)
  else if k = 7 then zPt S n (6 + 0) (nI (zup y (if zb (zs y 8) 1 = 0 then 100 else 9)))
  else if k = 8 then zPt S n (6 + (1 + zb y 1)) (nI (zb (zs y 1) 1))
  else if k = 9 then zPs S n (nI (1 + zup y 30))
  else if k < 12 then (if n = 6 then zDr S n else zSu S n)
  else if k = 12 then (if n = 0 then zSu S n else if zb y 2 = 0 then zDr S n else zPs S n 1)
  else if k = 13 then (if zb y 3 = 0 then (T 1, T, (T 1).toInt.toNat) else zPs S n 2)
  else if 0 < n ∧ ¬ 900 < S (58 + 65 * (n - 1) + 4 * l + 2 * q + zb (zs y 13) 1) + w ∧ ¬ S (58 + 65 * (n - 1) + 4 * l + 2 * q + zb (zs y 13) 1) + w < (-900) then zSpl S n (58 + 65 * (n - 1) + 4 * l + 2 * q + zb (zs y 13) 1) w else zPs S n 1
def zA (S : Nat → Int32) (n : Nat) (T : Nat → Int32) (x y : Int32) : Int32 × (Nat → Int32) × Nat := zAk S n T y (zup x 16) (zup y 16) (zb (zs y 4) 1) (nI (zup (zs y 5) 199) - 99)
theorem zrng' {x lo hi : Int32} (h1 : lo.toInt ≤ x.toInt) (h2 : x.toInt ≤ hi.toInt) : ¬ x < lo ∧ ¬ hi < x := by
  rw [Int32.lt_iff_toInt_lt, Int32.lt_iff_toInt_lt]
  omega
theorem zby {j : Nat} {m : Nat} {c : Int32} (hc : c.toInt = (m : Int)) (hm : m < 1000) (hj : j < 2 * m + 1) : -(m : Int) ≤ (nI j - c).toInt ∧ (nI j - c).toInt ≤ m := by
  have e := nI_toInt (n := j) (by omega)
  rw [zsub_i (by omega) (by omega) (by omega) (by omega), e, hc]
  omega
theorem zby99 (y : Int32) : -99 ≤ (nI (zup (zs y 5) 199) - 99).toInt ∧ (nI (zup (zs y 5) 199) - 99).toInt ≤ 99 := zby (m := 99) (c := 99) rfl (by decide) (zup_lt (by decide))
theorem zby50 (y : Int32) : -50 ≤ (nI (zup (zs y 5) 101) - 50).toInt ∧ (nI (zup (zs y 5) 101) - 50).toInt ≤ 50 := zby (m := 50) (c := 50) rfl (by decide) (zup_lt (by decide))
theorem zr99 (y : Int32) : ¬ nI (zup (zs y 5) 199) - 99 < (-99) ∧ ¬ 99 < nI (zup (zs y 5) 199) - 99 := zrng' (zby99 y).1 (zby99 y).2
theorem zr50 (y : Int32) : ¬ nI (zup (zs y 5) 101) - 50 < (-50) ∧ ¬ 50 < nI (zup (zs y 5) 101) - 50 := zrng' (zby50 y).1 (zby50 y).2
theorem znr {a : Nat} (lo hi : Nat) (h1 : lo ≤ a) (h2 : a ≤ hi) (h3 : hi < 2 ^ 31) : ¬ nI a < nI lo ∧ ¬ nI hi < nI a := ⟨nI_nlt h1 (by omega), nI_nlt h2 h3⟩
theorem zset8 {a : Nat} (h : a ≤ 1) : ¬ nI a < 0 ∧ ¬ 1 < nI a := ⟨nI_pos (by omega), nI_nlt (a := 1) (b := a) h (by decide)⟩
theorem zset99 {a : Nat} (h : a ≤ 99) : ¬ nI a < 0 ∧ ¬ 99 < nI a := ⟨nI_pos (by omega), nI_nlt (a := 99) (b := a) h (by decide)⟩
theorem zset3 {a : Nat} (h : a ≤ 3) : ¬ nI a < 0 ∧ ¬ 3 < nI a := ⟨nI_pos (by omega), nI_nlt (a := 3) (b := a) h (by decide)⟩
theorem zsetq {q a : Nat} (hq : q = 0 → a ≤ 99) (h : ¬ q = 0 → a ≤ 1) : ¬ nI a < 0 ∧ ¬ (if q = 0 then (99 : Int32) else 1) < nI a := by
  by_cases e : q = 0
  · rw [if_pos e]; exact zset99 (hq e)
  · rw [if_neg e]; exact zset8 (h e)
theorem zup8 (y : Int32) : zup y (if zb (zs y 8) 1 = 0 then 100 else 9) ≤ 99 := by
  split
  · have := zup_lt (x := y) (n := 100) (by decide); omega
  · have := zup_lt (x := y) (n := 9) (by decide); omega
theorem zps_ok {S : Nat → Int32} {x : Int32} {b : Int} (h : 0 ≤ (S 0).toInt ∧ (S 0).toInt ≤ b) (hb : b ≤ 9000) (hx : 1 ≤ x.toInt ∧ x.toInt ≤ 99) : ¬ 9999 < S 0 + x ∧ (S 0 + x).toInt = (S 0).toInt + x.toInt := by
  have e : (S 0 + x).toInt = (S 0).toInt + x.toInt := zadd_i (by omega) (by omega) (by omega) (by omega)
  refine ⟨?_, e⟩
  rw [Int32.lt_iff_toInt_lt, e, show (9999 : Int32).toInt = 9999 from rfl]
  omega
def zOp (b : Int) (t : Int32 × (Nat → Int32) × Nat) : Prop := zGd t.2.1 t.2.2 (b + 99) ∧ 0 ≤ t.1.toInt
section ZOP
variable {S T : Nat → Int32} {n m l q f : Nat} {b : Int} {w : Int32}
theorem zOp_ps (h : zGd S n b) (hb : b ≤ 9000) (hx : 1 ≤ w.toInt ∧ w.toInt ≤ 99) : zOp b (zPs S n w) := by
  refine ⟨zGd_pass h hx (by omega) (by omega), ?_⟩
  show 0 ≤ (S 0 + w).toInt
  have h5 := h.2.2.2.2.2.1
  rw [(zps_ok h5 hb hx).2]; omega
theorem zOp_dr (h : zGd S n b) : zOp b (zDr S n) := by
  refine ⟨(zGd_drop h).mono (by omega), ?_⟩
  show 0 ≤ (nI (n - 1)).toInt
  have := h.1.1
  rw [nI_toInt (by omega)]; omega
theorem zOp_su (h : zGd S n b) (hn : n < 6) (hb : b ≤ 9000) : zOp b (zSu S n) := by
  refine ⟨(zGd_sv h hn (by omega)).mono (by omega), ?_⟩
  show 0 ≤ (nI n).toInt
  rw [nI_toInt (by omega)]; omega
theorem z200 {x : Int32} (h : -150 ≤ x.toInt ∧ x.toInt ≤ 150) : 0 ≤ (200 + x).toInt := by
  rw [zadd_i (by decide) (by decide) (by omega) (by omega), show (200 : Int32).toInt = 200 from rfl]; omega
theorem zOp_ti (h : zGd S n b) (hl : l < 16) (hq : q < 2) (hw : -99 ≤ w.toInt ∧ w.toInt ≤ 99) : zOp b (zTi S n (9 + 3 * l + q) w) :=
  ⟨(zGd_tilt h hl hq hw).mono (by omega), z200 (by have := h.1.2.2.2.2.1 l q hl hq; omega)⟩
theorem zOp_sl (h : zGd S n b) (hl : l < 16) (hq : q < 2) : zOp b (zSl S n (9 + 3 * l + q) w) :=
  ⟨(zGd_tilt h hl hq qSld_b).mono (by omega), z200 (by have := qSld_b (x := S (9 + 3 * l + q) + w); omega)⟩
theorem zOp_bi (h : zGd S n b) (hq : q < 2) (hw : ¬ w < (-50) ∧ ¬ 50 < w) : zOp b (zTi S n (2 + q) w) :=
  ⟨(zGd_bias h hq hw).mono (by omega), z200 (by have := h.1.2.2.2.2.2.1 q hq; omega)⟩
theorem zOp_tu (h : zGd S n b) (hl : l < 16) (hw : ¬ w < 0 ∧ ¬ 3 < w) : zOp b (zPt S n (11 + 3 * l) w) := by
  refine ⟨(zGd_turn h hl hw).mono (by omega), ?_⟩
  show 0 ≤ (S (11 + 3 * l)).toInt
  rcases h.1.2.2.2.1 l hl with e | e | e | e <;> rw [e] <;> decide
theorem zGd.st (h : zGd S n b) (hq : q < 3) : 0 ≤ (S (6 + q)).toInt := by
  rcases (show q = 0 ∨ q = 1 ∨ q = 2 by omega) with rfl | rfl | rfl
  · exact h.2.2.1.1
  · rcases h.2.1 with e | e
    · show 0 ≤ (S 7).toInt; rw [e]; decide
    · show 0 ≤ (S 7).toInt; rw [e]; decide
  · rcases h.1.2.2.1 with e | e
    · show 0 ≤ (S 8).toInt; rw [e]; decide
    · show 0 ≤ (S 8).toInt; rw [e]; decide
theorem zOp_se (h : zGd S n b) (hq : q < 3) (hw : ¬ w < 0 ∧ ¬ (if q = 0 then (99 : Int32) else 1) < w) : zOp b (zPt S n (6 + q) w) :=
  ⟨(zGd_set h hq hw).mono (by omega), h.st hq⟩
theorem zOp_gb (hT : zGd T m b) : zOp b (T 1, T, (T 1).toInt.toNat) := by
  have h6 := hT.1.1
  have e : (T 1).toInt = (m : Int) := by rw [hT.n1, nI_toInt (by omega)]
  refine ⟨?_, ?_⟩
  · show zGd T (T 1).toInt.toNat (b + 99)
    rw [e, Int.toNat_natCast]
    exact hT.mono (by omega)
  · show 0 ≤ (T 1).toInt
    omega
theorem zOp_sp (h : zGd S n b) (hn : 0 < n) (hl : l < 16) (hq : q < 2) (hf : f < 2) (hw : ¬ S (58 + 65 * (n - 1) + 4 * l + 2 * q + f) + w < (-900) ∧ ¬ 900 < S (58 + 65 * (n - 1) + 4 * l + 2 * q + f) + w) : zOp b (zSpl S n (58 + 65 * (n - 1) + 4 * l + 2 * q + f) w) := by
  refine ⟨(zGd_spoil h hn hl hq hf hw).mono (by omega), ?_⟩
  show 0 ≤ (2000 + (S (58 + 65 * (n - 1) + 4 * l + 2 * q + f) + w)).toInt
  have r := zrng hw
  rw [show (-900 : Int32).toInt = -900 from rfl, show (900 : Int32).toInt = 900 from rfl] at r
  rw [zadd_i (by decide) (by decide) (by omega) (by omega), show (2000 : Int32).toInt = 2000 from rfl]; omega
theorem zA_op {x y : Int32} (h : zGd S n b) (hT : zGd T m b) (hb : b ≤ 9000) : zOp b (zA S n T x y) := by
  have hl : zup y 16 < 16 := zup_lt (by decide)
  have hq : zb (zs y 4) 1 < 2 := zb1_lt
  have hf : zb (zs y 13) 1 < 2 := zb1_lt
  have hz1 := zb1_lt (x := y)
  have hz2 := zb1_lt (x := zs y 1)
  have hp30 := zup_lt (x := y) (n := 30) (by decide)
  have hp4 := zup_lt (x := zs y 5) (n := 4) (by decide)
  have hw := zby99 y
  have hu := zr50 y
  have h8 := zup8 y
  have hn6 := h.1.1
  unfold zA zAk
  generalize zup x 16 = k
  generalize zup y 16 = l at *
  generalize zb (zs y 4) 1 = q at *
  generalize zb (zs y 13) 1 = f at *
  generalize nI (zup (zs y 5) 199) - 99 = w at *
  generalize nI (zup (zs y 5) 101) - 50 = u at *
  generalize zup (zs y 5) 4 = t at *
  generalize zup y (if zb (zs y 8) 1 = 0 then 100 else 9) = v at *
  generalize zb y 1 = c at *
  generalize zb (zs y 1) 1 = d at *
  generalize zup y 30 = g at *
  by_cases e0 : k < 3
  · rw [if_pos e0]; exact zOp_ti h hl hq hw
  rw [if_neg e0]
  by_cases e1 : k < 5
  · rw [if_pos e1]; exact zOp_sl h hl hq
  rw [if_neg e1]
  by_cases e2 : k = 5
  · rw [if_pos e2]; exact zOp_tu h hl (zset3 (by omega))
  rw [if_neg e2]
  by_cases e3 : k = 6
  · rw [if_pos e3]; exact zOp_bi h hq hu
  rw [if_neg e3]
  by_cases e4 : k = 7
  · rw [if_pos e4]; exact zOp_se h (by decide) (zsetq (fun _ => h8) (fun e => absurd rfl e))
  rw [if_neg e4]
  by_cases e5 : k = 8
  · rw [if_pos e5]; exact zOp_se h (by omega) (zsetq (fun e => by omega) (fun _ => by omega))
  rw [if_neg e5]
  by_cases e6 : k = 9
  · rw [if_pos e6]; exact zOp_ps h hb (by rw [nI_toInt (by omega)]; omega)
  rw [if_neg e6]
  by_cases e7 : k < 12
  · rw [if_pos e7]
    by_cases e : n = 6
    · rw [if_pos e]; exact zOp_dr h
    · rw [if_neg e]; exact zOp_su h (by omega) hb
  rw [if_neg e7]
  by_cases e8 : k = 12
  · rw [if_pos e8]
    by_cases e : n = 0
    · rw [if_pos e]; exact zOp_su h (by omega) hb
    rw [if_neg e]
    by_cases e' : zb y 2 = 0
    · rw [if_pos e']; exact zOp_dr h
    · rw [if_neg e']; exact zOp_ps h hb (by decide)
  rw [if_neg e8]
  by_cases e9 : k = 13
  · rw [if_pos e9]
    by_cases e : zb y 3 = 0
    · rw [if_pos e]; exact zOp_gb hT
    · rw [if_neg e]; exact zOp_ps h hb (by decide)
  rw [if_neg e9]
  by_cases ea : 0 < n ∧ ¬ 900 < S (58 + 65 * (n - 1) + 4 * l + 2 * q + f) + w ∧ ¬ S (58 + 65 * (n - 1) + 4 * l + 2 * q + f) + w < (-900)
  · rw [if_pos ea]; exact zOp_sp h ea.1 hl hq hf ⟨ea.2.2, ea.2.1⟩
  · rw [if_neg ea]; exact zOp_ps h hb (by decide)
end ZOP
/-- looks: numbers mixed one after the other -/
def zLa (S : Nat → Int32) : Nat → Int64
  | 0 => 79
  | k + 1 => 31 * zLa S k + (qCt S 0 k).toInt64
def zLb (S : Nat → Int32) : Nat → Int64
  | 0 => zLa S 7
  | k + 1 => 31 * zLb S k + (qOfL S (k / 7) (k % 7)).toInt64
def zLd (S : Nat → Int32) (k : Nat) (h : Int64) : Nat → Int64
  | 0 => 31 * h + (S (57 + 65 * k)).toInt64
  | j + 1 => 31 * zLd S k h j + (qOfR S k (j / 6) (j / 3 % 2) (2 * (j % 3))).toInt64 + 7 * (qRd S k (j / 6) (j / 3 % 2) 0).toInt64
def zLc (S : Nat → Int32) : Nat → Int64
  | 0 => zLb S 112
  | k + 1 => zLd S k (zLc S k) 96
def zLk (S : Nat → Int32) (n : Nat) : Int64 := 31 * (31 * (31 * zLc S n + (S (6 + 0)).toInt64) + (S (6 + 1)).toInt64) + (S (6 + 2)).toInt64
theorem qCt_b {S : Nat → Int32} {x : Int32} {k : Nat} (h : k < 7) : qCt S x k = qCt S 0 k := by
  unfold qCt
  split
  · rfl
  · rw [if_neg (by omega), if_neg (by omega)]
/-- what the findings hold, if they are fresh -/
def zFq (S : Nat → Int32) (n : Nat) (cm rd td : Nat → Int32) (fr : Int32) : Prop := fr = 0 ∨ (fr = 1 ∧ zCmF S cm n ∧ zRdF S rd n ∧ zTdF S td n)
/-- readings of own pairs, one plane behind the other -/
def zSo (S : Nat → Int32) (k : Nat) : Nat → Int32
  | 0 => 0
  | o + 1 => zSo S k o + zSA S k o 16
theorem zSo_2 (S : Nat → Int32) (k : Nat) : zSo S k 2 = qSn S k 32 := by
  rw [qSn_AB S k 16]
  show 0 + zSA S k 0 16 + zSA S k 1 16 = zSA S k 0 16 + zSA S k 1 16
  rw [Int32.zero_add]
theorem zSA_s (S : Nat → Int32) (k o v : Nat) (a : Int32) : a + zSA S k o v + (if S 6 < qOff S k v o then 1 else 0) = a + zSA S k o (v + 1) := Int32.add_assoc ..
theorem qOfR_0 {S : Nat → Int32} {k v o : Nat} : qOfR S k v o 0 = qRd S k v o 0 := by unfold qOfR; rw [if_pos rfl]
theorem qOfR_1 {S : Nat → Int32} {k v o : Nat} : qOfR S k v o 1 = qRd S k v o 1 := by unfold qOfR; rw [if_neg (by decide), if_pos rfl]
theorem qOfR_2 {S : Nat → Int32} {k v o : Nat} : qOfR S k v o 2 = qCk S k v o := by unfold qOfR; rw [if_neg (by decide), if_neg (by decide), if_pos rfl]
theorem qOfR_3 {S : Nat → Int32} {k v o : Nat} : qOfR S k v o 3 = if S 6 < qOff S k v o then (1 : Int32) else 0 := by unfold qOfR; rw [if_neg (by decide), if_neg (by decide), if_neg (by decide), if_pos rfl]
theorem qOfR_4 {S : Nat → Int32} {k v o : Nat} : qOfR S k v o 4 = qTr S k v o := by unfold qOfR; rw [if_neg (by decide), if_neg (by decide), if_neg (by decide), if_neg (by decide), if_pos rfl]
theorem qOfR_5 {S : Nat → Int32} {k v o : Nat} : qOfR S k v o 5 = qTt S k v o := by unfold qOfR; rw [if_neg (by decide), if_neg (by decide), if_neg (by decide), if_neg (by decide), if_neg (by decide)]
theorem qOfS_0 {S : Nat → Int32} {k : Nat} : qOfS S k 0 = S (57 + 65 * k) := by unfold qOfS; rw [if_pos rfl]
theorem qOfS_1 {S : Nat → Int32} {k : Nat} : qOfS S k 1 = qCm S k 0 := by unfold qOfS; rw [if_neg (by decide), if_pos rfl]
theorem qOfS_2 {S : Nat → Int32} {k : Nat} : qOfS S k 2 = qCm S k 1 := by unfold qOfS; rw [if_neg (by decide), if_neg (by decide), if_pos rfl]
theorem qOfS_3 {S : Nat → Int32} {k : Nat} : qOfS S k 3 = qSn S k 32 := by unfold qOfS; rw [if_neg (by decide), if_neg (by decide), if_neg (by decide), if_pos rfl]
theorem qOfL_0 {S : Nat → Int32} {v : Nat} : qOfL S v 0 = S (9 + 3 * v) := by unfold qOfL; rw [if_pos rfl]
theorem qOfL_1 {S : Nat → Int32} {v : Nat} : qOfL S v 1 = S (10 + 3 * v) := by unfold qOfL; rw [if_neg (by decide), if_pos rfl]
theorem qOfL_2 {S : Nat → Int32} {v : Nat} : qOfL S v 2 = S (11 + 3 * v) := by unfold qOfL; rw [if_neg (by decide), if_neg (by decide), if_pos rfl]
theorem qOfL_3 {S : Nat → Int32} {v : Nat} : qOfL S v 3 = qPr S v 0 0 := by unfold qOfL; rw [if_neg (by decide), if_neg (by decide), if_neg (by decide), if_pos rfl]
theorem qOfL_4 {S : Nat → Int32} {v : Nat} : qOfL S v 4 = qPr S v 0 1 := by unfold qOfL; rw [if_neg (by decide), if_neg (by decide), if_neg (by decide), if_neg (by decide), if_pos rfl]
theorem qOfL_5 {S : Nat → Int32} {v : Nat} : qOfL S v 5 = qPr S v 1 0 := by unfold qOfL; rw [if_neg (by decide), if_neg (by decide), if_neg (by decide), if_neg (by decide), if_neg (by decide), if_pos rfl]
theorem qOfL_6 {S : Nat → Int32} {v : Nat} : qOfL S v 6 = qPr S v 1 1 := by unfold qOfL; rw [if_neg (by decide), if_neg (by decide), if_neg (by decide), if_neg (by decide), if_neg (by decide), if_neg (by decide)]
theorem qCt_w {S : Nat → Int32} {x : Int32} {w : Nat} (h : w < 6) : qCt S x w = S w := by unfold qCt; rw [if_neg (by omega), if_neg (by omega)]
theorem qCt_7 {S : Nat → Int32} {x : Int32} : qCt S x 7 = x := by unfold qCt; rw [if_neg (by decide), if_pos rfl]
theorem qOfS_cm {S : Nat → Int32} {k o : Nat} (ho : o < 2) : qOfS S k (1 + o) = qCm S k o := by
  rcases (show o = 0 ∨ o = 1 by omega) with rfl | rfl
  · exact qOfS_1
  · exact qOfS_2
theorem zAt_m (S : Nat → Int32) (k o : Nat) (x : Int32) (v : Nat) : v - qBel S k o x v + (if qCk S k v o < x then 0 else 1) = v + 1 - qBel S k o x (v + 1) := by
  show _ = v + 1 - (qBel S k o x v + (if qCk S k v o < x then 1 else 0))
  have := qBel_le S k o x v
  split <;> omega
/-- the ring: what was there before a change comes back -/
theorem zback {rg : Nat → Nat → Int32} {G : Nat → Int32} {ro rv ro2 rv2 : Nat} (h : (ro2 + (rv2 - 1)) % 6 = (ro + rv) % 6) : va_up rg ((ro + rv) % 6) G ((ro2 + (rv2 - 1)) % 6) = G := by rw [h]; exact va_up_self _ _ _
theorem zring {ro rv ro2 rv2 : Nat} (ho : ro < 6) (hv : rv ≤ 6) (h1 : ro2 = if rv = 6 then (ro + 1) % 6 else ro) (h2 : rv2 = if rv = 6 then 6 else rv + 1) : ro2 < 6 ∧ rv2 ≤ 6 ∧ 0 < rv2 ∧ (ro2 + (rv2 - 1)) % 6 = (ro + rv) % 6 := by
  by_cases e : rv = 6
  · rw [if_pos e] at h1 h2; subst h1; subst h2; subst e; refine ⟨by omega, by omega, by omega, by omega⟩
  · rw [if_neg e] at h1 h2; subst h1; subst h2; refine ⟨by omega, by omega, by omega, by omega⟩
theorem zRd_f {S : Nat → Int32} {k v o f : Nat} (hf : f < 2) : qOfR S k v o f = S (58 + 65 * k + 4 * v + 2 * o + f) := by
  rcases (show f = 0 ∨ f = 1 by omega) with rfl | rfl
  · exact qOfR_0
  · exact qOfR_1
section ZGN
variable {S : Nat → Int32} {n k q l : Nat} {b : Int}
theorem znn {x : Int32} (h : 0 ≤ x.toInt) : ¬ x < 0 := by rw [Int32.lt_iff_toInt_lt, show (0 : Int32).toInt = 0 from rfl]; omega
theorem zGd.nn (h : zGd S n b) (hq : q < 3) : ¬ S (6 + q) < 0 := znn (h.st hq)
theorem zGd.tn (h : zGd S n b) (hl : l < 16) : ¬ S (11 + 3 * l) < 0 := by
  rcases h.1.2.2.2.1 l hl with e | e | e | e <;> rw [e] <;> decide
theorem zGd.dm (h : zGd S n b) (hk : k < n) (h0 : ¬ k = 0) : ¬ S (57 + 65 * k) < S (57 + 65 * (k - 1)) := by
  obtain ⟨j, rfl⟩ : ∃ j, k = j + 1 := ⟨k - 1, by omega⟩
  rw [Int32.lt_iff_toInt_lt]
  have := h.2.2.2.2.1 j hk
  rw [show j + 1 - 1 = j by omega]
  omega
theorem zGd.dd (h : zGd S n b) (hk : k < n) : ¬ S 0 < S (57 + 65 * k) := by
  rw [Int32.lt_iff_toInt_lt]
  have := h.2.2.2.1 k hk
  omega
theorem zflip (h : zGd S n b) : ¬ 1 - S (6 + 2) < 0 ∧ ¬ (if 2 = 0 then (99 : Int32) else 1) < 1 - S (6 + 2) := by
  rcases h.1.2.2.1 with e | e
  · rw [show S (6 + 2) = 0 from e]; decide
  · rw [show S (6 + 2) = 1 from e]; decide
end ZGN
