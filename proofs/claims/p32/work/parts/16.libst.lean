/-! a state's rows, told by other numbers -/
section ZST
variable {D : va_G} {H : Heap} {A : Nat → Prop}
theorem zset1 {ws : va_W} (hP : va_P D vwCl ws H) (hD : va_D A ws) (q : Nat) {a : Nat} {e0 : va_E} (e : va_E) (he : ws[q]? = some (a, e0)) (h : va_at D vwCl (a, e0) H → va_at D vwCl (a, e) H) : va_P D vwCl (ws.set q (a, e)) H ∧ va_D A (ws.set q (a, e)) := ⟨va_P.set hP hD he (h (hP q _ he)) (fun _ _ => rfl), hD.set he⟩
theorem zat {a n : Nat} {cA : ClassId} {f g : Nat → Int32} (h : ∀ j : Nat, j < n → f j = g j) (k : va_at D vwCl (a, .inl (cA, n, .inl f)) H) : va_at D vwCl (a, .inl (cA, n, .inl g)) H := by
  have h' : H[a]? = some (vp_cell cA (n, .inl f)) := k
  show H[a]? = some (vp_cell cA (n, .inl g))
  rw [h']
  congr 1
  show arrV cA n (fun j => Value.int (f j)) = arrV cA n (fun j => Value.int (g j))
  exact zarr fun j hj => congrArg Value.int (h j hj)
theorem zstput {ws : va_W} (hP : va_P D vwCl ws H) (hD : va_D A ws) (i : Nat) (S' : Nat → Int32) {a0 a1 a2 a3 a4 a5 a6 r1 r2 r3 r4 r5 r6 : Nat} {cA : ClassId} {d0 d1 d4 d5 : Int32} {T U B E R Y : Nat → Int32}
    (e0 : ws[i]? = some (a0, .inr (2, [.ref r1, .ref r2, .ref r3, .ref r4, .ref r5, .ref r6, .int d0, .int d1, .int d4, .int d5]))) (e1 : ws[i + 1]? = some (a1, .inl (cA, 32, .inl T))) (e2 : ws[i + 2]? = some (a2, .inl (cA, 16, .inl U))) (e3 : ws[i + 3]? = some (a3, .inl (cA, 2, .inl B))) (e4 : ws[i + 4]? = some (a4, .inl (cA, 3, .inl E))) (e5 : ws[i + 5]? = some (a5, .inl (cA, 384, .inl R))) (e6 : ws[i + 6]? = some (a6, .inl (cA, 6, .inl Y)))
    (h0 : d0 = S' 0 ∧ d1 = S' 1 ∧ d4 = S' 4 ∧ d5 = S' 5) (hT : ∀ j : Nat, j < 32 → T j = zT S' j) (hU : ∀ j : Nat, j < 16 → U j = zU S' j) (hB : ∀ j : Nat, j < 2 → B j = zB S' j) (hE : ∀ j : Nat, j < 3 → E j = zE S' j) (hR : ∀ j : Nat, j < 384 → R j = zR S' j) (hY : ∀ j : Nat, j < 6 → Y j = zY S' j) :
    va_P D vwCl (((((((ws.set i (a0, .inr (2, [.ref r1, .ref r2, .ref r3, .ref r4, .ref r5, .ref r6, .int (S' 0), .int (S' 1), .int (S' 4), .int (S' 5)]))).set (i + 1) (a1, .inl (cA, 32, .inl (zT S')))).set (i + 2) (a2, .inl (cA, 16, .inl (zU S')))).set (i + 3) (a3, .inl (cA, 2, .inl (zB S')))).set (i + 4) (a4, .inl (cA, 3, .inl (zE S')))).set (i + 5) (a5, .inl (cA, 384, .inl (zR S')))).set (i + 6) (a6, .inl (cA, 6, .inl (zY S')))) H ∧
    va_D A (((((((ws.set i (a0, .inr (2, [.ref r1, .ref r2, .ref r3, .ref r4, .ref r5, .ref r6, .int (S' 0), .int (S' 1), .int (S' 4), .int (S' 5)]))).set (i + 1) (a1, .inl (cA, 32, .inl (zT S')))).set (i + 2) (a2, .inl (cA, 16, .inl (zU S')))).set (i + 3) (a3, .inl (cA, 2, .inl (zB S')))).set (i + 4) (a4, .inl (cA, 3, .inl (zE S')))).set (i + 5) (a5, .inl (cA, 384, .inl (zR S')))).set (i + 6) (a6, .inl (cA, 6, .inl (zY S')))) := by
  obtain ⟨rfl, rfl, rfl, rfl⟩ := h0
  obtain ⟨p1, q1⟩ := zset1 hP hD i _ e0 (fun h => h)
  obtain ⟨p2, q2⟩ := zset1 p1 q1 (i + 1) (.inl (cA, 32, .inl (zT S'))) (by rw [List.getElem?_set_ne (by omega)]; exact e1) (zat hT)
  obtain ⟨p3, q3⟩ := zset1 p2 q2 (i + 2) (.inl (cA, 16, .inl (zU S'))) (by rw [List.getElem?_set_ne (by omega), List.getElem?_set_ne (by omega)]; exact e2) (zat hU)
  obtain ⟨p4, q4⟩ := zset1 p3 q3 (i + 3) (.inl (cA, 2, .inl (zB S'))) (by rw [List.getElem?_set_ne (by omega), List.getElem?_set_ne (by omega), List.getElem?_set_ne (by omega)]; exact e3) (zat hB)
  obtain ⟨p5, q5⟩ := zset1 p4 q4 (i + 4) (.inl (cA, 3, .inl (zE S'))) (by rw [List.getElem?_set_ne (by omega), List.getElem?_set_ne (by omega), List.getElem?_set_ne (by omega), List.getElem?_set_ne (by omega)]; exact e4) (zat hE)
  obtain ⟨p6, q6⟩ := zset1 p5 q5 (i + 5) (.inl (cA, 384, .inl (zR S'))) (by rw [List.getElem?_set_ne (by omega), List.getElem?_set_ne (by omega), List.getElem?_set_ne (by omega), List.getElem?_set_ne (by omega), List.getElem?_set_ne (by omega)]; exact e5) (zat hR)
  exact zset1 p6 q6 (i + 6) (.inl (cA, 6, .inl (zY S'))) (by rw [List.getElem?_set_ne (by omega), List.getElem?_set_ne (by omega), List.getElem?_set_ne (by omega), List.getElem?_set_ne (by omega), List.getElem?_set_ne (by omega), List.getElem?_set_ne (by omega)]; exact e6) (zat hY)
end ZST
/-- what a survey writes: the number n of surveys before it -/
def qSv (S : Nat → Int32) (n : Nat) : Nat → Int32 := fun j => if j = 1 then nI (n + 1) else if j = 4 then S 4 + 1 else if j = 57 + 65 * n then S 0 else if 58 + 65 * n ≤ j ∧ j < 122 + 65 * n then qPr S ((j - 58 - 65 * n) / 4) ((j - 58 - 65 * n) / 2 % 2) ((j - 58 - 65 * n) % 2) else S j
def zok (i n : Int32) : Prop := ¬ i < 0 ∧ i < n
