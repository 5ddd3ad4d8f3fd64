/-! what is told of a survey: its counts, its tilts, its sums -/
theorem zOrd_find {i : Nat} {od : Nat → Int32} {x : Int32} : ∀ m : Nat, m ≤ i → (∀ j : Nat, m ≤ j → j < i → x < od j) → ∃ p, p ≤ i ∧ (∀ j : Nat, p ≤ j → j < i → x < od j) ∧ (0 < p → od (p - 1) ≤ x)
  | 0, _, h => ⟨0, Nat.zero_le _, h, fun h0 => absurd h0 (Nat.lt_irrefl 0)⟩
  | m + 1, hm, h => by
    by_cases q : x < od m
    · refine zOrd_find m (by omega) (fun j h1 h2 => ?_)
      rcases (show j = m ∨ m + 1 ≤ j by omega) with r | r
      · rw [r]; exact q
      · exact h j r h2
    · exact ⟨m + 1, hm, h, fun _ => Int32.not_lt.mp q⟩
theorem zOrd_ex {S : Nat → Int32} {k o : Nat} : ∀ i : Nat, ∃ od, zOrd S k o od i
  | 0 => ⟨fun _ => 0, zOrd_0⟩
  | i + 1 => by
    obtain ⟨od, h⟩ := zOrd_ex (S := S) (k := k) (o := o) i
    obtain ⟨p, hp, h4, h5⟩ := zOrd_find (od := od) (x := qCk S k i o) i (Nat.le_refl _) (fun j h1 h2 => absurd h2 (Nat.not_lt.mpr h1))
    refine ⟨fun j => if j < p then od j else if j = p then qCk S k i o else od (j - 1), zOrd_put h hp (fun j hj => if_pos hj) ?_ (fun j h1 h2 => ?_) h4 h5⟩
    · show (if p < p then od p else if p = p then qCk S k i o else od (p - 1)) = _
      rw [if_neg (Nat.lt_irrefl p), if_pos rfl]
    · show (if j < p then od j else if j = p then qCk S k i o else od (j - 1)) = _
      rw [if_neg (by omega), if_neg (by omega)]
theorem qCm_mid (S : Nat → Int32) (k o : Nat) : qBel S k o (qCm S k o) 16 < 8 ∧ 8 ≤ qNab S k o (qCm S k o) 16 ∧ ∃ j, j < 16 ∧ qCk S k j o = qCm S k o := by
  obtain ⟨od, h⟩ := zOrd_ex (S := S) (k := k) (o := o) 16
  rw [← zOrd_mid h]
  have hb : qBel S k o (od 7) 16 < 8 := by
    rw [qBel_cnt, ← h.2]
    refine Nat.lt_succ_of_le (zcnt_le (m := 7) fun j hj h7 => ?_)
    rcases (show j = 7 ∨ 7 < j by omega) with r | r
    · rw [r]; exact decide_eq_false (fun h => Int32.lt_irrefl h)
    · exact decide_eq_false (Int32.not_lt.mpr (h.1 7 j r hj))
  have hn : 8 ≤ qNab S k o (od 7) 16 := by
    rw [qNab_cnt, ← h.2]
    refine zcnt_ge (by omega) fun j hj => ?_
    rcases (show j = 7 ∨ j < 7 by omega) with r | r
    · rw [r]; exact decide_eq_true (Int32.le_refl _)
    · exact decide_eq_true (h.1 j 7 r (by omega))
  have he : ∃ j, j < 16 ∧ qCk S k j o = od 7 := by
    have := zcnt_ge (P := fun z => decide (z = od 7)) (f := fun j => od (7 + j)) (m := 1) (n := 1) (Nat.le_refl _) (fun j hj => by
      obtain rfl : j = 0 := by omega
      exact decide_eq_true rfl)
    have h0 : 0 < zcnt (fun z => decide (z = od 7)) od 16 := by
      rcases Nat.eq_zero_or_pos (zcnt (fun z => decide (z = od 7)) od 16) with r | r
      · exfalso
        have : ∀ n, 7 < n → 0 < zcnt (fun z => decide (z = od 7)) od n := by
          intro n
          induction n with
          | zero => intro h; omega
          | succ n ih =>
            intro h
            show 0 < zcnt _ od n + (if decide (od n = od 7) = true then 1 else 0)
            rcases (show n = 7 ∨ 7 < n by omega) with u | u
            · rw [u]; simp
            · have := ih u; omega
        have := this 16 (by omega)
        omega
      · exact r
    rw [h.2] at h0
    obtain ⟨j, a, b⟩ := zcnt_ex h0
    exact ⟨j, a, of_decide_eq_true b⟩
  exact ⟨hb, hn, he⟩
theorem qBel_le (S : Nat → Int32) (k o : Nat) (x : Int32) : ∀ n : Nat, qBel S k o x n ≤ n
  | 0 => Nat.le_refl _
  | n + 1 => by
    show qBel S k o x n + (if qCk S k n o < x then 1 else 0) ≤ n + 1
    have := qBel_le S k o x n
    split <;> omega
theorem qNab_le (S : Nat → Int32) (k o : Nat) (x : Int32) : ∀ n : Nat, qNab S k o x n ≤ n
  | 0 => Nat.le_refl _
  | n + 1 => by
    show qNab S k o x n + (if qCk S k n o ≤ x then 1 else 0) ≤ n + 1
    have := qNab_le S k o x n
    split <;> omega
theorem zGd.ck {S : Nat → Int32} {n k v o : Nat} {b : Int} (h : zGd S n b) (hk : k < n) (hv : v < 16) (ho : o < 2) : -1800 ≤ (qCk S k v o).toInt ∧ (qCk S k v o).toInt ≤ 1800 := h.1.hB k (by have := h.1.1; omega) o v ho hv
theorem zGd.cm {S : Nat → Int32} {n k o : Nat} {b : Int} (h : zGd S n b) (hk : k < n) (ho : o < 2) : -1800 ≤ (qCm S k o).toInt ∧ (qCm S k o).toInt ≤ 1800 := by
  obtain ⟨-, -, j, hj, e⟩ := qCm_mid S k o
  rw [← e]; exact h.ck hk hj ho
theorem zabs_i {x : Int32} (h1 : -1000000000 ≤ x.toInt) (h2 : x.toInt ≤ 1000000000) : (qAbs x).toInt = if 0 ≤ x.toInt then x.toInt else - x.toInt := by
  unfold qAbs
  by_cases h : 0 ≤ x
  · rw [if_pos h]
    rw [Int32.le_iff_toInt_le, show (0 : Int32).toInt = 0 from rfl] at h
    rw [if_pos h]
  · rw [if_neg h]
    rw [Int32.le_iff_toInt_le, show (0 : Int32).toInt = 0 from rfl] at h
    rw [if_neg h, Int32.toInt_sub, show (0 : Int32).toInt = 0 from rfl, Int.bmod_eq_of_le (by omega) (by omega)]
    omega
theorem zoff_law {x y : Int32} (h1 : -1800 ≤ x.toInt ∧ x.toInt ≤ 1800) (h2 : -1800 ≤ y.toInt ∧ y.toInt ≤ 1800) : (if x ≤ y then y - x else x - y) = qAbs (x - y) := by
  apply Int32.toInt.inj
  have e1 : (x - y).toInt = x.toInt - y.toInt := zsub_i (by omega) (by omega) (by omega) (by omega)
  have e2 : (y - x).toInt = y.toInt - x.toInt := zsub_i (by omega) (by omega) (by omega) (by omega)
  rw [zabs_i (by omega) (by omega), e1]
  by_cases h : x ≤ y
  · rw [if_pos h, e2]
    rw [Int32.le_iff_toInt_le] at h
    split <;> omega
  · rw [if_neg h, e1]
    rw [Int32.le_iff_toInt_le] at h
    split <;> omega
/-- own tilts, one after the other -/
theorem zhalf {t : Int32} (h : -1000 ≤ t.toInt ∧ t.toInt ≤ 1000) : (t + t) / 2 = t := by
  apply Int32.toInt.inj
  rw [Int32.toInt_div, zadd_i (by omega) (by omega) (by omega) (by omega), show (2 : Int32).toInt = 2 from rfl]
  rw [show t.toInt + t.toInt = t.toInt * 2 by omega, Int.mul_tdiv_cancel _ (by decide), Int.bmod_eq_of_le (by omega) (by omega)]
theorem zpm (b t : Int32) : b + t - (b - t) = t + t := by grind
theorem zpp2 (b t : Int32) : b + t + (b - t) = 2 * b := by grind
theorem zGd.own {S : Nat → Int32} {n v o : Nat} {b : Int} (h : zGd S n b) (hv : v < 16) : -99 ≤ (qOwn S v o).toInt ∧ (qOwn S v o).toInt ≤ 99 :=
  zTurn_b (h.1.2.2.2.2.1 v 0 hv (by decide)) (by have := h.1.2.2.2.2.1 v 1 hv (by decide); rwa [show 9 + 3 * v + 1 = 10 + 3 * v by omega] at this)
theorem qPr_sum (S : Nat → Int32) (v o : Nat) : qPr S v o 0 + qPr S v o 1 = 2 * S (2 + o) := zpp2 (S (2 + o)) (qOwn S v o)
theorem qPr_half {S : Nat → Int32} {n v o : Nat} {b : Int} (h : zGd S n b) (hv : v < 16) : (qPr S v o 0 - qPr S v o 1) / 2 = qOwn S v o := by
  show (S (2 + o) + qOwn S v o - (S (2 + o) - qOwn S v o)) / 2 = qOwn S v o
  rw [zpm]
  have := h.own (o := o) hv
  exact zhalf (by omega)
def zSA (S : Nat → Int32) (k o : Nat) : Nat → Int32
  | 0 => 0
  | v + 1 => zSA S k o v + (if S 6 < qOff S k v o then 1 else 0)
theorem qSn_AB (S : Nat → Int32) (k : Nat) : ∀ i : Nat, qSn S k (2 * i) = zSA S k 0 i + zSA S k 1 i
  | 0 => rfl
  | i + 1 => by
    rw [qSn2, qSn_AB S k i]
    show zSA S k 0 i + zSA S k 1 i + (if S 6 < qOff S k i 0 then 1 else 0) + (if S 6 < qOff S k i 1 then 1 else 0) = zSA S k 0 i + (if S 6 < qOff S k i 0 then 1 else 0) + (zSA S k 1 i + (if S 6 < qOff S k i 1 then 1 else 0))
    generalize (if S 6 < qOff S k i 0 then (1 : Int32) else 0) = x
    generalize (if S 6 < qOff S k i 1 then (1 : Int32) else 0) = y
    grind
theorem zpl_s (S : Nat → Int32) (k q v : Nat) : qPl S k q v + qTt S k v q = qPl S k q (v + 1) := by
  show zsum (fun v => qTt S k v q) 0 v + qTt S k v q = zsum (fun v => qTt S k v q) 0 v + qTt S k (0 + v) q
  rw [Nat.zero_add]
theorem zpl_d (S : Nat → Int32) (k q v : Nat) : qPl S k q (v + 1) - qPl S k q v = qTt S k v q := by
  rw [← zpl_s]; grind
theorem zTt_8 {S : Nat → Int32} {k v p : Nat} (h8 : S 8 = 0 ∨ S 8 = 1) (h : ¬ S 8 = 1) : qTt S k v p = qTr S k v p := if_pos (h8.resolve_right h)
/-- how great what is told may be -/
theorem zGd.rd {S : Nat → Int32} {n k v o f : Nat} {b : Int} (h : zGd S n b) (hk : k < n) (hv : v < 16) (ho : o < 2) (hf : f < 2) : -900 ≤ (qRd S k v o f).toInt ∧ (qRd S k v o f).toInt ≤ 900 := by
  have h6 := h.1.1
  have := h.1.2.2.2.2.2.2 k (4 * v + 2 * o + f) (by omega) (by omega)
  unfold qRd
  rwa [show 58 + 65 * k + (4 * v + 2 * o + f) = 58 + 65 * k + 4 * v + 2 * o + f by omega] at this
theorem ztd (a : Int) : (0 ≤ a → 0 ≤ a.tdiv 2 ∧ 2 * a.tdiv 2 ≤ a) ∧ (a ≤ 0 → a ≤ 2 * a.tdiv 2 ∧ a.tdiv 2 ≤ 0) := by
  have key : ∀ b : Int, 0 ≤ b → 0 ≤ b.tdiv 2 ∧ 2 * b.tdiv 2 ≤ b := fun b hb => by rw [Int.tdiv_eq_ediv_of_nonneg hb]; omega
  refine ⟨key a, fun h => ?_⟩
  have k := key (-a) (by omega)
  rw [Int.neg_tdiv] at k
  omega
theorem zdiv2_i {x : Int32} : (x / 2).toInt = x.toInt.tdiv 2 := by
  have h1 := x.toInt_lt; have h2 := x.le_toInt
  have h3 := ztd x.toInt
  rw [Int32.toInt_div, show (2 : Int32).toInt = 2 from rfl, Int.bmod_eq_of_le (by omega) (by omega)]
theorem zGd.tr {S : Nat → Int32} {n k v o : Nat} {b : Int} (h : zGd S n b) (hk : k < n) (hv : v < 16) (ho : o < 2) : -1800 ≤ (qTr S k v o).toInt ∧ (qTr S k v o).toInt ≤ 1800 := by
  have r0 := h.rd hk hv ho (f := 0) (by decide)
  have r1 := h.rd hk hv ho (f := 1) (by decide)
  have cm := h.cm hk ho
  have c2 : (qCm S k o / 2).toInt = (qCm S k o).toInt.tdiv 2 := zdiv2_i
  have c3 := ztd (qCm S k o).toInt
  have c4 := ztd ((qRd S k v o 0).toInt - (qRd S k v o 1).toInt)
  show -1800 ≤ (qFresh S k v o (qTs S v o k)).toInt ∧ (qFresh S k v o (qTs S v o k)).toInt ≤ 1800
  unfold qFresh
  split
  · split
    · rw [zsub_i (by omega) (by omega) (by omega) (by omega), c2]; omega
    · rw [zsub_i (by omega) (by omega) (by omega) (by omega), c2]; omega
  · rw [zdiv2_i, zsub_i (by omega) (by omega) (by omega) (by omega)]; omega
theorem zneg_i {x : Int32} (h1 : -1000000000 ≤ x.toInt) (h2 : x.toInt ≤ 1000000000) : (-x).toInt = - x.toInt := by
  rw [Int32.toInt_neg, Int.bmod_eq_of_le (by omega) (by omega)]
theorem zTurn_c {t a b : Int32} {d : Nat} (ha : -1800 ≤ a.toInt ∧ a.toInt ≤ 1800) (hb : -1800 ≤ b.toInt ∧ b.toInt ≤ 1800) : -1800 ≤ (zTurn t a b d).toInt ∧ (zTurn t a b d).toInt ≤ 1800 := by
  have na : (-a).toInt = - a.toInt := zneg_i (by omega) (by omega)
  have nb : (-b).toInt = - b.toInt := zneg_i (by omega) (by omega)
  unfold zTurn
  (repeat' split) <;> omega
theorem zGd.tt {S : Nat → Int32} {n k v p : Nat} {b : Int} (h : zGd S n b) (hk : k < n) (hv : v < 16) (hp : p < 2) : -1800 ≤ (qTt S k v p).toInt ∧ (qTt S k v p).toInt ≤ 1800 := by
  unfold qTt
  split
  · exact h.tr hk hv hp
  · exact zTurn_c (h.tr hk hv (by decide)) (h.tr hk hv (by decide))
theorem zGd.pl {S : Nat → Int32} {n k p : Nat} {b : Int} (h : zGd S n b) (hk : k < n) (hp : p < 2) : ∀ v : Nat, v ≤ 16 → -(1800 * (v : Int)) ≤ (qPl S k p v).toInt ∧ (qPl S k p v).toInt ≤ 1800 * (v : Int)
  | 0, _ => by show _ ≤ (0 : Int32).toInt ∧ (0 : Int32).toInt ≤ _; decide
  | v + 1, hv => by
    have i := h.pl hk hp v (by omega)
    have t := h.tt hk (v := v) (by omega) hp
    rw [← zpl_s, zadd_i (by omega) (by omega) (by omega) (by omega)]
    omega
/-- movements -/
theorem zsum_d (S : Nat → Int32) (a b p : Nat) : ∀ n : Nat, zsum (qDf S a b p) 0 n = qPl S b p n - qPl S a p n
  | 0 => by show (0 : Int32) = 0 - 0; decide
  | n + 1 => by
    show zsum (qDf S a b p) 0 n + qDf S a b p (0 + n) = _
    rw [zsum_d S a b p n, ← zpl_s, ← zpl_s, Nat.zero_add]
    show _ + (qTt S b n p - qTt S a n p) = _
    grind
theorem zmv_neg (S : Nat → Int32) (a b p n : Nat) : qPl S b p n - qPl S a p n = -(qPl S a p n - qPl S b p n) := by grind
def zMv (S : Nat → Int32) (a b p w : Nat) : Int32 := qAbs (zsum (qDf S a b p) 0 (w + 1))
theorem qFm_sp (S : Nat → Int32) (a b p : Nat) (x : Int32) : ∀ n v : Nat, (qFm S a b p x n v = -1 ∧ ∀ w : Nat, v ≤ w → w < v + n → ¬ x ≤ zMv S a b p w) ∨ ∃ w : Nat, v ≤ w ∧ w < v + n ∧ qFm S a b p x n v = nI w ∧ x ≤ zMv S a b p w ∧ ∀ u : Nat, v ≤ u → u < w → ¬ x ≤ zMv S a b p u
  | 0, v => Or.inl ⟨rfl, fun w h1 h2 => absurd h2 (by omega)⟩
  | n + 1, v => by
    have e : qFm S a b p x (n + 1) v = if x ≤ zMv S a b p v then nI v else qFm S a b p x n (v + 1) := rfl
    by_cases h : x ≤ zMv S a b p v
    · refine Or.inr ⟨v, Nat.le_refl _, by omega, by rw [e, if_pos h], h, fun u h1 h2 => absurd h2 (by omega)⟩
    · rw [e, if_neg h]
      rcases qFm_sp S a b p x n (v + 1) with ⟨e1, h1⟩ | ⟨w, w1, w2, e1, h1, h2⟩
      · refine Or.inl ⟨e1, fun w h3 h4 => ?_⟩
        rcases (show w = v ∨ v + 1 ≤ w by omega) with r | r
        · rw [r]; exact h
        · exact h1 w r (by omega)
      · refine Or.inr ⟨w, by omega, by omega, e1, h1, fun u h3 h4 => ?_⟩
        rcases (show u = v ∨ v + 1 ≤ u by omega) with r | r
        · rw [r]; exact h
        · exact h2 u r h4
theorem zfar_2 {S : Nat → Int32} {a b p c : Nat} (hc : c < 1000) (h : ¬ qFm S a b p (nI (c + 1)) 16 0 < 0) : ¬ qFm S a b p (nI c) 16 0 < 0 ∧ ¬ qFm S a b p (nI (c + 1)) 16 0 < qFm S a b p (nI c) 16 0 := by
  have hle : ∀ w : Nat, nI (c + 1) ≤ zMv S a b p w → nI c ≤ zMv S a b p w := fun w hw => Int32.le_trans (nI_le (by omega) (by omega)) hw
  rcases qFm_sp S a b p (nI (c + 1)) 16 0 with ⟨e, -⟩ | ⟨w, -, w2, e, h1, -⟩
  · rw [e] at h; exact absurd (by decide) h
  · rcases qFm_sp S a b p (nI c) 16 0 with ⟨-, g⟩ | ⟨u, -, u2, e', h1', h2'⟩
    · exact absurd (hle w h1) (g w (Nat.zero_le _) w2)
    · rw [e, e']
      refine ⟨nI_pos (by omega), nI_nlt ?_ (by omega)⟩
      rcases Nat.lt_or_ge w u with r | r
      · exact absurd (hle w h1) (h2' w (Nat.zero_le _) r)
      · exact r
theorem zfar_1 {S : Nat → Int32} {a b p v : Nat} {x : Int32} (hv : v < 16) (h : x ≤ zMv S a b p v) : ¬ qFm S a b p x 16 0 < 0 ∧ ¬ nI v < qFm S a b p x 16 0 := by
  rcases qFm_sp S a b p x 16 0 with ⟨-, g⟩ | ⟨u, -, u2, e', h1', h2'⟩
  · exact absurd h (g v (Nat.zero_le _) (by omega))
  · rw [e']
    refine ⟨nI_pos (by omega), nI_nlt ?_ (by omega)⟩
    rcases Nat.lt_or_ge v u with r | r
    · exact absurd h (h2' v (Nat.zero_le _) r)
    · exact r
theorem zGd.mv {S : Nat → Int32} {n k1 k2 p v : Nat} {b : Int} (h : zGd S n b) (h1 : k1 < n) (h2 : k2 < n) (hp : p < 2) (hv : v < 16) : -100000 ≤ (qPl S k2 p (v + 1) - qPl S k1 p (v + 1)).toInt ∧ (qPl S k2 p (v + 1) - qPl S k1 p (v + 1)).toInt ≤ 100000 := by
  have a := h.pl h1 hp (v + 1) (by omega)
  have c := h.pl h2 hp (v + 1) (by omega)
  rw [zsub_i (by omega) (by omega) (by omega) (by omega)]
  omega
/-- at least so far: from either side -/
theorem zmv_ge {S : Nat → Int32} {n k1 k2 p v c : Nat} {b : Int} (h : zGd S n b) (h1 : k1 < n) (h2 : k2 < n) (hp : p < 2) (hv : v < 16) (hc : c < 1000) (hm : nI c ≤ qPl S k2 p (v + 1) - qPl S k1 p (v + 1)) : nI c ≤ zMv S k1 k2 p v := by
  have m := h.mv h1 h2 hp hv
  unfold zMv
  rw [zsum_d]
  rw [Int32.le_iff_toInt_le, nI_toInt (by omega)] at hm ⊢
  rw [zabs_i (by omega) (by omega)]
  split <;> omega
theorem zmv_le {S : Nat → Int32} {n k1 k2 p v c : Nat} {b : Int} (h : zGd S n b) (h1 : k1 < n) (h2 : k2 < n) (hp : p < 2) (hv : v < 16) (hc : c < 1000) (hm : ¬ -nI c < qPl S k2 p (v + 1) - qPl S k1 p (v + 1)) : nI c ≤ zMv S k1 k2 p v := by
  have m := h.mv h1 h2 hp hv
  have e : (-nI c).toInt = -(c : Int) := by rw [zneg_i (by rw [nI_toInt (by omega)]; omega) (by rw [nI_toInt (by omega)]; omega), nI_toInt (by omega)]
  unfold zMv
  rw [zsum_d]
  rw [Int32.lt_iff_toInt_lt, e] at hm
  rw [Int32.le_iff_toInt_le, nI_toInt (by omega), zabs_i (by omega) (by omega)]
  split <;> omega
/-- whether any level's told tilt differs -/
def zAn (S : Nat → Int32) (a b p : Nat) : Nat → Int32
  | 0 => 0
  | v + 1 => if zAn S a b p v = 0 ∧ qTt S a v p = qTt S b v p then 0 else 1
theorem zAn_01 (S : Nat → Int32) (a b p : Nat) : ∀ v : Nat, zAn S a b p v = 0 ∨ zAn S a b p v = 1
  | 0 => Or.inl rfl
  | v + 1 => by
    show (if _ then (0 : Int32) else 1) = 0 ∨ (if _ then (0 : Int32) else 1) = 1
    split
    · exact Or.inl rfl
    · exact Or.inr rfl
theorem zGd.df {S : Nat → Int32} {n k1 k2 p v : Nat} {b : Int} (h : zGd S n b) (h1 : k1 < n) (h2 : k2 < n) (hp : p < 2) (hv : v < 16) : (qDf S k1 k2 p v).toInt = (qTt S k2 v p).toInt - (qTt S k1 v p).toInt ∧ -3600 ≤ (qDf S k1 k2 p v).toInt ∧ (qDf S k1 k2 p v).toInt ≤ 3600 := by
  have a := h.tt h1 hv hp
  have c := h.tt h2 hv hp
  have e : (qDf S k1 k2 p v).toInt = (qTt S k2 v p).toInt - (qTt S k1 v p).toInt := zsub_i (by omega) (by omega) (by omega) (by omega)
  exact ⟨e, by omega, by omega⟩
theorem qSl_any {S : Nat → Int32} {n k1 k2 p : Nat} {b : Int} (h : zGd S n b) (h1 : k1 < n) (h2 : k2 < n) (hp : p < 2) : ∀ v : Nat, v ≤ 16 → (qSl S k1 k2 p v = (-1, 0) ∧ zAn S k1 k2 p v = 0) ∨ (∃ w : Nat, w < 16 ∧ (qSl S k1 k2 p v).1 = nI w ∧ 0 < (qSl S k1 k2 p v).2.toInt ∧ zAn S k1 k2 p v = 1)
  | 0, _ => Or.inl ⟨rfl, rfl⟩
  | v + 1, hv => by
    obtain ⟨de, d1, d2⟩ := h.df h1 h2 hp (v := v) (by omega)
    have da := zabs_i (x := qDf S k1 k2 p v) (by omega) (by omega)
    have ea : zAn S k1 k2 p (v + 1) = if zAn S k1 k2 p v = 0 ∧ qTt S k1 v p = qTt S k2 v p then 0 else 1 := rfl
    have hd : qTt S k1 v p = qTt S k2 v p ↔ (qAbs (qDf S k1 k2 p v)).toInt = 0 := by
      rw [da]
      constructor
      · intro e; rw [e] at de; rw [show (qDf S k1 k2 p v).toInt = 0 by omega]; rfl
      · intro e
        apply Int32.toInt.inj
        split at e <;> omega
    have hn : 0 ≤ (qAbs (qDf S k1 k2 p v)).toInt := by rw [da]; split <;> omega
    rcases qSl_any h h1 h2 hp v (by omega) with ⟨e1, e2⟩ | ⟨w, w1, e1, e2, e3⟩
    · by_cases q : (0 : Int32) < qAbs (qDf S k1 k2 p v)
      · right
        have q' := q
        rw [Int32.lt_iff_toInt_lt, show (0 : Int32).toInt = 0 from rfl] at q'
        refine ⟨v, by omega, ?_, ?_, ?_⟩
        · rw [qSl_yes (by rw [e1]; exact q)]
        · rw [qSl_yes (by rw [e1]; exact q)]; exact q'
        · rw [ea, if_neg (fun z => by have := hd.mp z.2; omega)]
      · left
        have q' := q
        rw [Int32.lt_iff_toInt_lt, show (0 : Int32).toInt = 0 from rfl] at q'
        refine ⟨by rw [qSl_no (by rw [e1]; exact q)]; exact e1, ?_⟩
        rw [ea, if_pos ⟨e2, hd.mpr (by omega)⟩]
    · right
      have e4 : zAn S k1 k2 p (v + 1) = 1 := by rw [ea, if_neg (fun z => by rw [e3] at z; exact absurd z.1 (by decide))]
      by_cases q : (qSl S k1 k2 p v).2 < qAbs (qDf S k1 k2 p v)
      · have q' := q
        rw [Int32.lt_iff_toInt_lt] at q'
        refine ⟨v, by omega, by rw [qSl_yes q], by rw [qSl_yes q]; show 0 < (qAbs (qDf S k1 k2 p v)).toInt; omega, e4⟩
      · exact ⟨w, w1, by rw [qSl_no q]; exact e1, by rw [qSl_no q]; exact e2, e4⟩
theorem qSl_sym {S : Nat → Int32} {n k1 k2 p : Nat} {b : Int} (h : zGd S n b) (h1 : k1 < n) (h2 : k2 < n) (hp : p < 2) : ∀ v : Nat, v ≤ 16 → qSl S k1 k2 p v = qSl S k2 k1 p v
  | 0, _ => rfl
  | v + 1, hv => by
    obtain ⟨de, d1, d2⟩ := h.df h1 h2 hp (v := v) (by omega)
    obtain ⟨de', d1', d2'⟩ := h.df h2 h1 hp (v := v) (by omega)
    have e : qAbs (qDf S k1 k2 p v) = qAbs (qDf S k2 k1 p v) := by
      apply Int32.toInt.inj
      rw [zabs_i (by omega) (by omega), zabs_i (by omega) (by omega)]
      split <;> split <;> omega
    show (if (qSl S k1 k2 p v).2 < qAbs (qDf S k1 k2 p v) then (nI v, qAbs (qDf S k1 k2 p v)) else qSl S k1 k2 p v) = (if (qSl S k2 k1 p v).2 < qAbs (qDf S k2 k1 p v) then (nI v, qAbs (qDf S k2 k1 p v)) else qSl S k2 k1 p v)
    rw [e, qSl_sym h h1 h2 hp v (by omega)]
/-! what is read leans on readings and two settings alone -/
section ZWK
variable {S T : Nat → Int32}
theorem qRd_w (e : ∀ j : Nat, (j = 6 ∨ j = 7 ∨ 58 ≤ j) → T j = S j) {k v o f : Nat} : qRd T k v o f = qRd S k v o f := e _ (by omega)
theorem qCk_w (e : ∀ j : Nat, (j = 6 ∨ j = 7 ∨ 58 ≤ j) → T j = S j) {k v o : Nat} : qCk T k v o = qCk S k v o := by
  unfold qCk; rw [qRd_w e, qRd_w e]
theorem qBel_w (e : ∀ j : Nat, (j = 6 ∨ j = 7 ∨ 58 ≤ j) → T j = S j) {k o : Nat} {x : Int32} : ∀ n : Nat, qBel T k o x n = qBel S k o x n
  | 0 => rfl
  | n + 1 => by
    show qBel T k o x n + (if qCk T k n o < x then 1 else 0) = qBel S k o x n + (if qCk S k n o < x then 1 else 0)
    rw [qBel_w e n, qCk_w e]
theorem qNab_w (e : ∀ j : Nat, (j = 6 ∨ j = 7 ∨ 58 ≤ j) → T j = S j) {k o : Nat} {x : Int32} : ∀ n : Nat, qNab T k o x n = qNab S k o x n
  | 0 => rfl
  | n + 1 => by
    show qNab T k o x n + (if qCk T k n o ≤ x then 1 else 0) = qNab S k o x n + (if qCk S k n o ≤ x then 1 else 0)
    rw [qNab_w e n, qCk_w e]
theorem qCmL_w (e : ∀ j : Nat, (j = 6 ∨ j = 7 ∨ 58 ≤ j) → T j = S j) {k o : Nat} : ∀ n : Nat, qCmL T k o n = qCmL S k o n
  | 0 => rfl
  | n + 1 => by
    show (if qBel T k o (qCk T k n o) 16 < 8 ∧ 8 ≤ qNab T k o (qCk T k n o) 16 then qCk T k n o else qCmL T k o n) = (if qBel S k o (qCk S k n o) 16 < 8 ∧ 8 ≤ qNab S k o (qCk S k n o) 16 then qCk S k n o else qCmL S k o n)
    rw [qCk_w e, qBel_w e, qNab_w e, qCmL_w e n]
theorem qOff_w (e : ∀ j : Nat, (j = 6 ∨ j = 7 ∨ 58 ≤ j) → T j = S j) {k v o : Nat} : qOff T k v o = qOff S k v o := by
  unfold qOff qCm; rw [qCk_w e, qCmL_w e]
theorem qFresh_w (e : ∀ j : Nat, (j = 6 ∨ j = 7 ∨ 58 ≤ j) → T j = S j) {k v o : Nat} {b : Int32} : qFresh T k v o b = qFresh S k v o b := by
  unfold qFresh qCm; rw [e 7 (by decide), e 6 (by decide), qOff_w e, qCmL_w e, qRd_w e, qRd_w e]
theorem qTs_w (e : ∀ j : Nat, (j = 6 ∨ j = 7 ∨ 58 ≤ j) → T j = S j) {v o : Nat} : ∀ k : Nat, qTs T v o k = qTs S v o k
  | 0 => rfl
  | k + 1 => by
    show qFresh T k v o (qTs T v o k) = qFresh S k v o (qTs S v o k)
    rw [qTs_w e k, qFresh_w e]
theorem qTr_w (e : ∀ j : Nat, (j = 6 ∨ j = 7 ∨ 58 ≤ j) → T j = S j) {k v o : Nat} : qTr T k v o = qTr S k v o := qTs_w e (k + 1)
end ZWK
theorem qTr_turn {S : Nat → Int32} {u : Nat} {x : Int32} {k v o : Nat} (hu : u < 15) : qTr (upd S (11 + 3 * u) x) k v o = qTr S k v o := qTr_w (fun j hj => pk_un (by omega))
theorem qTr_turn15 {S : Nat → Int32} {u : Nat} {x : Int32} {k v o : Nat} (hu : u < 16) : qTr (upd S (11 + 3 * u) x) k v o = qTr S k v o := qTr_w (fun j hj => pk_un (by omega))
theorem qTr_s8 {S : Nat → Int32} {x : Int32} {k v o : Nat} : qTr (upd S 8 x) k v o = qTr S k v o := qTr_w (fun j hj => pk_un (by omega))
/-- what has just been taken, told with turns taken out -/
def zTk (S : Nat → Int32) (n : Nat) : Nat → Int32 := upd (qSv S n) 8 1
theorem zTk_rd (S : Nat → Int32) {n v o f : Nat} (hv : v < 16) (ho : o < 2) (hf : f < 2) : qRd (zTk S n) n v o f = qPr S v o f := by
  unfold qRd zTk
  rw [pk_un (by omega)]
  unfold qSv
  rw [if_neg (by omega), if_neg (by omega), if_neg (by omega), if_pos (by omega)]
  rw [show (58 + 65 * n + 4 * v + 2 * o + f - 58 - 65 * n) / 4 = v by omega, show (58 + 65 * n + 4 * v + 2 * o + f - 58 - 65 * n) / 2 % 2 = o by omega, show (58 + 65 * n + 4 * v + 2 * o + f - 58 - 65 * n) % 2 = f by omega]
theorem zTk_ck (S : Nat → Int32) {n v o : Nat} (hv : v < 16) (ho : o < 2) : qCk (zTk S n) n v o = 2 * S (2 + o) := by
  unfold qCk
  rw [zTk_rd S hv ho (by decide), zTk_rd S hv ho (by decide), qPr_sum]
theorem zTk_cm (S : Nat → Int32) {n o : Nat} (ho : o < 2) : qCm (zTk S n) n o = 2 * S (2 + o) := by
  obtain ⟨-, -, j, hj, e⟩ := qCm_mid (zTk S n) n o
  rw [← e, zTk_ck S hj ho]
theorem zTk_off (S : Nat → Int32) {n v o : Nat} (hv : v < 16) (ho : o < 2) : qOff (zTk S n) n v o = 0 := by
  unfold qOff
  rw [zTk_ck S hv ho, zTk_cm S ho, Int32.sub_self]; rfl
theorem zTk_lo {S : Nat → Int32} {n j : Nat} (h : j < 57) (h1 : j ≠ 1) (h4 : j ≠ 4) (h8 : j ≠ 8) : zTk S n j = S j := by
  unfold zTk
  rw [pk_un h8, qSv_lo h h1 h4]
theorem zTk_sus {S : Nat → Int32} {n m v o : Nat} {b : Int} (h : zGd S m b) (hv : v < 16) (ho : o < 2) : ¬ zTk S n 6 < qOff (zTk S n) n v o := by
  rw [zTk_off S hv ho, zTk_lo (by decide) (by decide) (by decide) (by decide), Int32.lt_iff_toInt_lt, show (0 : Int32).toInt = 0 from rfl]
  have := h.2.2.1
  omega
theorem zTk_tr {S : Nat → Int32} {n m v o : Nat} {b : Int} (h : zGd S m b) (hv : v < 16) (ho : o < 2) : qTr (zTk S n) n v o = qOwn S v o := by
  show qFresh (zTk S n) n v o (qTs (zTk S n) v o n) = qOwn S v o
  unfold qFresh
  rw [if_neg (fun z => zTk_sus h hv ho z.2), zTk_rd S hv ho (by decide), zTk_rd S hv ho (by decide)]
  exact qPr_half h hv
theorem zunturn {t a b : Int32} {o : Nat} (h : t = 0 ∨ t = 1 ∨ t = 2 ∨ t = 3) (ho : o < 2) : zTurn (if t = 0 then 0 else 4 - t) (zTurn t a b 0) (zTurn t a b 1) o = if o = 0 then a else b := by
  rcases (show o = 0 ∨ o = 1 by omega) with rfl | rfl <;> rcases h with rfl | rfl | rfl | rfl <;> simp [zTurn]
theorem zTk_tt {S : Nat → Int32} {n m v o : Nat} {b : Int} (h : zGd S m b) (hv : v < 16) (ho : o < 2) : qTt (zTk S n) n v o = S (9 + 3 * v + o) := by
  unfold qTt
  have e8 : zTk S n 8 = 1 := pk_us
  rw [if_neg (by rw [e8]; decide), zTk_tr h hv (by decide), zTk_tr h hv (by decide), zTk_lo (by omega) (by omega) (by omega) (by omega)]
  show zTurn (if S (11 + 3 * v) = 0 then 0 else 4 - S (11 + 3 * v)) (zTurn (S (11 + 3 * v)) (S (9 + 3 * v)) (S (10 + 3 * v)) 0) (zTurn (S (11 + 3 * v)) (S (9 + 3 * v)) (S (10 + 3 * v)) 1) o = _
  rw [zunturn (h.1.2.2.2.1 v hv) ho]
  rcases (show o = 0 ∨ o = 1 by omega) with rfl | rfl
  · rfl
  · exact congrArg S (by omega)
theorem zTk_sn {S : Nat → Int32} {n m : Nat} {b : Int} (h : zGd S m b) : ∀ j : Nat, j ≤ 32 → qSn (zTk S n) n j = 0
  | 0, _ => rfl
  | j + 1, hj => by
    show qSn (zTk S n) n j + (if zTk S n 6 < qOff (zTk S n) n (j / 2) (j % 2) then 1 else 0) = 0
    rw [zTk_sn h j (by omega), if_neg (zTk_sus h (by omega) (by omega))]; rfl
