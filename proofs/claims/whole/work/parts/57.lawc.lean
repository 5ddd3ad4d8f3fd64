/-! the law, case by case -/
def zLaw (p : Program) (l : Launch) (s : State) (m : MethodId) (c : Code) (b L : Nat) (xs : Nat → Int32) (A : Nat → Prop) (D : va_G) (y : Nat → ClassId) : Prop :=
  p.tables.exec = Jvm.exec ∧ c.code = cL_law ∧ c.maxLocals = 9 ∧ s.vm.findClass RL = some m.cls ∧ (∀ w ∈ (Cond.initialized RX4 :: gT), w.before #[Value.ref b] s = true) ∧ va_X b L xs s s.heap ∧ b < s.heap.size ∧ zKN D y s ∧ zTh A s s.heap ∧ zNc s ∧ l.stackTraces = false ∧ (∀ q : Nat, s.heap.size ≤ q → A q) ∧ ¬ A b
def zGoes (p : Program) (l : Launch) (e : Env) (s : State) (m : MethodId) (below : List Frame) (meth : Method) (c : Code) (b : Nat) (A : Nat → Prop) (D : va_G) (y : Nat → ClassId) (ad g : Nat → Nat) (o1 o2 i : Nat) (Q : State → Prop) : Prop :=
  ∀ (z : zSt) (H : Heap) (locs : List Loc) (ls : Array Slot), zInv z → va_P D vwCl (zWld y ad g o1 o2 z) H → va_D A (zWld y ad g o1 o2 z) → va_S A s.heap H locs → lv_has ls 9 [(0, .ref b), (1, .ref (ad 0)), (2, .ref (g 0)), (3, .ref o1), (4, .ref o2), (5, .int (nI (5 * i)))] → W p l e room_1 s m #[Value.ref b] below meth c H locs (82 + (i + 1)) (8871 + 6 * (i + 1)) Q (F0 m 2048 ls [])
theorem zlc {a b : Int64} (h : a = b) : lg_cmp a b = 0 := by subst h; unfold lg_cmp; simp
theorem zdc {x : UInt64} (h : zDig x) : Op.cmpValue (FP.dcmp x x) CmpOp.l = 0 := by
  have hn : FP.Core.dIsNaN x = false := by
    rcases h with h | ⟨s, c, q, h, -⟩
    · exact h.fin.notNaN
    · exact FP.Core.DFin.notNaN ⟨_, _, _, h⟩
  rw [show FP.dcmp x x = some .eq from FP.Core.dcmp_refl hn]; rfl
theorem zarg {x hi : Int32} (k : Nat) (h : ¬ x < 0 ∧ ¬ hi < x) (hk : hi.toInt = (k : Int)) : ∃ v : Nat, v < k + 1 ∧ x = nI v := by
  rw [Int32.lt_iff_toInt_lt, Int32.lt_iff_toInt_lt, show (0 : Int32).toInt = 0 from rfl, hk] at h
  have h1 := x.toInt_lt
  refine ⟨x.toInt.toNat, by omega, Int32.toInt.inj ?_⟩
  unfold nI
  rw [Int32.toInt_ofNat_of_lt (by omega)]
  omega
theorem zargs {S : Nat → Int32} {n : Nat} {x : Int32} (h : S 1 = nI n) (h6 : n ≤ 6) (k : ¬ x < 0 ∧ ¬ (S 1 - 1) < x) : ∃ v : Nat, v < n ∧ x = nI v := by
  obtain ⟨a, b⟩ := zsu_l h h6
  rw [Int32.lt_iff_toInt_lt, Int32.lt_iff_toInt_lt, show (0 : Int32).toInt = 0 from rfl] at k
  have h1 := x.toInt_lt
  refine ⟨x.toInt.toNat, by omega, Int32.toInt.inj ?_⟩
  unfold nI
  rw [Int32.toInt_ofNat_of_lt (by omega)]
  omega
def zUpN (tx : Nat → Nat) (k v : Nat) : Nat → Nat := fun j => if j = k then v else tx j
theorem zXu {tx : Nat → Nat} {k v : Nat} : upd (zX tx) k (nI v) = zX (zUpN tx k v) := by
  funext j
  show (if j = k then nI v else nI (tx j)) = nI (if j = k then v else tx j)
  split <;> rfl
theorem zUpN_lt {tx : Nat → Nat} {ln v : Nat} (h : ∀ i : Nat, i < ln → tx i < 127) (hv : v < 127) : ∀ i : Nat, i < ln + 1 → zUpN tx ln v i < 127 := by
  intro i hi
  unfold zUpN; split
  · exact hv
  · exact h i (by omega)
theorem qSv_h {S : Nat → Int32} {n k : Nat} (hn : n < 6) (hk : 447 ≤ k) : qSv S n k = S k := by
  unfold qSv; rw [if_neg (by omega), if_neg (by omega), if_neg (by omega), if_neg (by omega)]
