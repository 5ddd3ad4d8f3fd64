/-! small library: types of arrays, what a method asks and gives, calls -/
abbrev zTy (y : Nat → ClassId) : List (ClassId × FieldType) := [(y 0, .int), (y 1, .char), (y 2, .boolean), (y 3, .object "SlotProbe$State")]
def zNest (U : State) : Prop := va_Nw (.methodLinkNest RX0 45 yX4_checkOf RX4) U ∧ va_Nw (.methodLinkNest RX0 41 yX4_tiltAt RX4) U ∧ va_Nw (.methodLinkNest RX0 65 yX4_readingAt RX4) U ∧ va_Nw (.methodLinkNest RX0 79 yX4_turnedTilt RX4) U
theorem zNest.warm {s U : State} (hW : s.WarmedH U.vm) (h : zNest s) : zNest U := ⟨va_Nw.warmM hW h.1, va_Nw.warmM hW h.2.1, va_Nw.warmM hW h.2.2.1, va_Nw.warmM hW h.2.2.2⟩
def zKN (D : va_G) (y : Nat → ClassId) (U : State) : Prop := va_K D vwCl (zTy y) U ∧ zNest U
theorem zKN.warm {D : va_G} {y : Nat → ClassId} {s U : State} (hW : s.WarmedH U.vm) (h : zKN D y s) : zKN D y U := ⟨va_K.moved hW.alike h.1, h.2.warm hW⟩
def zRO (D : va_G) (y : Nat → ClassId) (ws : va_W) : State → Prop := fun U => va_P D vwCl ws U.heap ∧ zKN D y U
def zRW (D : va_G) (y : Nat → ClassId) (ws : va_W) (sz : Nat) : State → Prop := fun U => U.heap.size = sz ∧ va_P D vwCl ws U.heap ∧ zKN D y U ∧ va_D (fun _ => True) ws
def zOut (D : va_G) (A : Nat → Prop) (w1 : va_W) (t : State) : Prop := va_P D vwCl w1 t.heap ∧ va_D A w1
theorem zfm {α β : Type} {f : α → Option β} : ∀ {is : List α} {wc : List β}, is.map f = wc.map some → is.filterMap f = wc
  | [], [], _ => rfl
  | [], _ :: _, h => by simp at h
  | _ :: _, [], h => by simp at h
  | i :: is, w :: wc, h => by
    simp only [List.map_cons, List.cons.injEq] at h
    rw [List.filterMap_cons, h.1]
    simp only [zfm h.2]
section ZL

variable {p : Program} {l : Launch} {e : Env} {R : Room} {s : State} {m : MethodId} {args : Array Value} {below : List Frame} {meth : Method} {c : Code} {H H0 : Heap} {locs : List Loc} {cells slots mc ms pc : Nat} {ls : Array Slot} {st0 rest : List Value} {a : Array Value} {A0 : Nat → Prop} {Q : State → Prop} {D : va_G} {y : Nat → ClassId} {As : List Value} {b : Addr}
theorem zarr {cA : ClassId} {n : Nat} {f g : Nat → Value} (h : ∀ j : Nat, j < n → f j = g j) : arrV cA n f = arrV cA n g := by
  unfold arrV
  congr 1
  congr 1
  funext j
  exact h j.1 j.2
theorem zb0 {P : Prop} [Decidable P] : (if P then (1 : Int32) else 0) = 0 ↔ ¬ P := by by_cases h : P <;> simp [h]
theorem zb1 {P : Prop} [Decidable P] : ¬ (if P then (1 : Int32) else 0) = 0 ↔ P := by by_cases h : P <;> simp [h]
/-- a loop: its head pc0, a number that falls, what holds at the head -/
theorem zloop (μ : Nat → Nat) (J : Nat → Heap → List Loc → Array Slot → Prop) (pc0 : Nat) (k n : Nat → Nat) (step : ∀ (i : Nat) (H : Heap) (locs : List Loc) (ls : Array Slot), J i H locs ls → (∀ (i' : Nat) (H' : Heap) (locs' : List Loc) (ls' : Array Slot), μ i' < μ i → J i' H' locs' ls' → W p l e R s m args below meth c H' locs' (k i') (n i') Q (F0 m pc0 ls' [])) → W p l e R s m args below meth c H locs (k i) (n i) Q (F0 m pc0 ls [])) (i : Nat) (hJ : J i H locs ls) : W p l e R s m args below meth c H locs (k i) (n i) Q (F0 m pc0 ls []) := by
  suffices K : ∀ (f i : Nat) (H : Heap) (locs : List Loc) (ls : Array Slot), μ i < f → J i H locs ls → W p l e R s m args below meth c H locs (k i) (n i) Q (F0 m pc0 ls []) from K (μ i + 1) i H locs ls (Nat.lt_succ_self _) hJ
  intro f
  induction f with
  | zero => intro i H locs ls h; exact absurd h (Nat.not_lt_zero _)
  | succ f ih => exact fun i H locs ls h hJ => step i H locs ls hJ fun i' H' locs' ls' h' hJ' => ih i' H' locs' ls' (by omega) hJ'
/-- ways that meet: what stands on the stack there -/
theorem zjoin {α : Type} (P : α → Prop) (f : α → JFrame) (k2 : ∀ v : α, P v → W p l e R s m args below meth c H locs cells slots Q (f v)) {g : JFrame} (k1 : (∀ v : α, P v → W p l e R s m args below meth c H locs cells slots Q (f v)) → W p l e R s m args below meth c H locs cells slots Q g) : W p l e R s m args below meth c H locs cells slots Q g := k1 k2
theorem zz_top {x y : Int32} (h : x = y) (k : W p l e R s m args below meth c H locs cells slots Q (F0 m pc ls (.int y :: rest))) : W p l e R s m args below meth c H locs cells slots Q (F0 m pc ls (.int x :: rest)) := h ▸ k
theorem zz_topl {x y : Int64} (h : x = y) (k : W p l e R s m args below meth c H locs cells slots Q (F0 m pc ls (.long y :: rest))) : W p l e R s m args below meth c H locs cells slots Q (F0 m pc ls (.long x :: rest)) := h ▸ k
theorem zz_topd {x y : UInt64} (h : x = y) (k : W p l e R s m args below meth c H locs cells slots Q (F0 m pc ls (.double y :: rest))) : W p l e R s m args below meth c H locs cells slots Q (F0 m pc ls (.double x :: rest)) := h ▸ k
theorem zz_topf {x y : UInt32} (h : x = y) (k : W p l e R s m args below meth c H locs cells slots Q (F0 m pc ls (.float y :: rest))) : W p l e R s m args below meth c H locs cells slots Q (F0 m pc ls (.float x :: rest)) := h ▸ k
theorem zz_topr {x y : Value} (h : x = y) (k : W p l e R s m args below meth c H locs cells slots Q (F0 m pc ls (y :: rest))) : W p l e R s m args below meth c H locs cells slots Q (F0 m pc ls (x :: rest)) := h ▸ k
theorem zP_pre : PreS s H (va_Pc As (fun _ => True)) As := ⟨fun _ _ _ _ q => q, fun _ _ _ => ⟨rfl, trivial⟩⟩
theorem zRO_blind {av : List Value} {ws : va_W} : FrameBlind (va_Pc av (zRO D y ws)) := fun a U g mk q => ⟨q.1, q.2.1, zKN.warm (s := U) (U := U.calling g mk a) (State.WarmedH.refl U) q.2.2⟩
theorem zRW_blind {av : List Value} {ws : va_W} {sz : Nat} : FrameBlind (va_Pc av (zRW D y ws sz)) := fun a U g mk q => ⟨q.1, q.2.1, q.2.2.1, zKN.warm (s := U) (U := U.calling g mk a) (State.WarmedH.refl U) q.2.2.2.1, q.2.2.2.2⟩
theorem zRO_at {ws wc : va_W} (hK : zKN D y s) (hP : va_P D vwCl ws H) (isC : List Nat) (hC : isC.map (fun i => ws[i]?) = wc.map some) (U : State) (hU : U.heap = H) (hW : s.WarmedH U.vm) : va_Pc As (zRO D y wc) As.toArray U := ⟨rfl, by rw [hU]; exact hP.sub isC (zfm hC), hK.warm hW⟩
theorem zRW_at {ws wc : va_W} (hK : zKN D y s) (hP : va_P D vwCl ws H) (hD : va_D A0 ws) (isC : List Nat) (hC : isC.map (fun i => ws[i]?) = wc.map some) (hn : va_nd isC = true) (U : State) (hU : U.heap = H) (hW : s.WarmedH U.vm) : va_Pc As (zRW D y wc H.size) As.toArray U := ⟨rfl, by rw [hU], by rw [hU]; exact hP.sub isC (zfm hC), hK.warm hW, (hD.sub isC hn hC).weaken (fun _ _ _ _ => trivial)⟩
theorem zRO_pre {ws wc : va_W} (hK : zKN D y s) (hP : va_P D vwCl ws H) (isC : List Nat) (hC : isC.map (fun i => ws[i]?) = wc.map some) : PreS s H (va_Pc As (zRO D y wc)) As := ⟨zRO_blind, zRO_at hK hP isC hC⟩
theorem zRW_pre {ws wc : va_W} (hK : zKN D y s) (hP : va_P D vwCl ws H) (hD : va_D A0 ws) (isC : List Nat) (hC : isC.map (fun i => ws[i]?) = wc.map some) (hn : va_nd isC = true) : PreS s H (va_Pc As (zRW D y wc H.size)) As := ⟨zRW_blind, zRW_at hK hP hD isC hC hn⟩
theorem zP_preV {ws : va_W} {ci q0 : Nat} {q : vw_C} {fs : List Value} (hK : zKN D y s) (hP : va_P D vwCl ws H) (hc : vwCl[ci]? = some q) (he : ws[q0]? = some (b, .inr (ci, fs))) : PreV s H q.1 b (va_Pc (.ref b :: As) (fun _ => True)) As := ⟨fun _ _ _ _ q => q, va_recv hK.1 hP hc he, fun _ _ _ => ⟨rfl, trivial⟩⟩
theorem zRO_preV {ws wc : va_W} {ci q0 : Nat} {q : vw_C} {fs : List Value} (hK : zKN D y s) (hP : va_P D vwCl ws H) (hc : vwCl[ci]? = some q) (he : ws[q0]? = some (b, .inr (ci, fs))) (isC : List Nat) (hC : isC.map (fun i => ws[i]?) = wc.map some) : PreV s H q.1 b (va_Pc (.ref b :: As) (zRO D y wc)) As := ⟨zRO_blind, va_recv hK.1 hP hc he, zRO_at hK hP isC hC⟩
theorem zRW_preV {ws wc : va_W} {ci q0 : Nat} {q : vw_C} {fs : List Value} (hK : zKN D y s) (hP : va_P D vwCl ws H) (hD : va_D A0 ws) (hc : vwCl[ci]? = some q) (he : ws[q0]? = some (b, .inr (ci, fs))) (isC : List Nat) (hC : isC.map (fun i => ws[i]?) = wc.map some) (hn : va_nd isC = true) : PreV s H q.1 b (va_Pc (.ref b :: As) (zRW D y wc H.size)) As := ⟨zRW_blind, va_recv hK.1 hP hc he, zRW_at hK hP hD isC hC hn⟩
/-- an array's row, written otherwise -/
theorem zcell {ws : va_W} {A : Nat → Prop} (hP : va_P D vwCl ws H) (hD : va_D A ws) (q0 : Nat) {q n : Nat} {cA : ClassId} {f : Nat → Int32} (he : ws[q0]? = some (q, .inl (cA, n, .inl f))) (g : Nat → Int32) (hg : ∀ j : Nat, j < n → f j = g j) : va_P D vwCl (ws.set q0 (q, .inl (cA, n, .inl g))) H ∧ va_D A (ws.set q0 (q, .inl (cA, n, .inl g))) := by
  refine ⟨?_, hD.set he⟩
  refine va_P.set hP hD he ?_ (fun _ _ => rfl)
  have h := hP q0 _ he
  show H[q]? = some (vp_cell cA (n, .inl g))
  have h' : H[q]? = some (vp_cell cA (n, .inl f)) := h
  rw [h']
  congr 1
  show arrV cA n (fun j => Value.int (f j)) = arrV cA n (fun j => Value.int (g j))
  exact zarr fun j hj => congrArg Value.int (hg j hj)

theorem zr_calli {P : Int32 → Prop} (hr : va_Run p l e R s m args below meth c H locs cells slots 0 0 (F0 m pc ls st0) rest (va_Qi (fun (r : Int32) (_ : Unit) => P r) (fun _ _ => True) (fun _ => False) a) (fun _ => False)) (hS : va_S A0 H0 H locs)
    (kk : ∀ (r : Int32) (H1 : Heap) (locs1 : List Loc), P r → (∀ (D : va_G) (ws : va_W), va_P D vwCl ws H → va_P D vwCl ws H1) → va_S A0 H0 H1 locs1 → W p l e R s m args below meth c H1 locs1 cells slots Q (F0 m (pc + 3) ls (.int r :: rest))) : W p l e R s m args below meth c H locs cells slots Q (F0 m pc ls st0) :=
  va_calli hr hS (fun _ _ h => h.elim) (fun _ h => h.elim) (fun r _ t H1 locs1 _ _ hw _ _ hk1 hS1 => kk r H1 locs1 hw (fun _ ws hP => hP.kept (fun k q hq => hk1 q.1 (hP k q hq).lt (fun z => z))) hS1)
theorem zw_calli {S : Type} {post : Int32 → S → Prop} {w1 : S → va_W} {ws wc wr : va_W} (hP : va_P D vwCl ws H) (hD : va_D A0 ws) (hS : va_S A0 H0 H locs) (hA : ∀ q, H0.size ≤ q → A0 q) (isC isR : List Nat) (hC : isC.map (fun i => ws[i]?) = wc.map some) (hR : isR.map (fun i => ws[i]?) = wr.map some) (hn : va_nd isR = true) (hdis : ∀ i ∈ isR, i ∉ isC)
    (hr : va_Run p l e R s m args below meth c H locs cells slots mc ms (F0 m pc ls st0) rest (va_Qi post (fun u t => zOut D (va_A wc H.size) (w1 u) t) (va_A wc H.size) a) (va_A wc H.size))
    (kk : ∀ (r : Int32) (u : S) (H1 : Heap) (locs1 : List Loc), post r u → va_P D vwCl (wr ++ w1 u) H1 → va_D A0 (wr ++ w1 u) → va_S A0 H0 H1 locs1 → W p l e R s m args below meth c H1 locs1 (cells + mc) (slots + ms) Q (F0 m (pc + 3) ls (.int r :: rest))) : W p l e R s m args below meth c H locs cells slots Q (F0 m pc ls st0) :=
  have hF := va_free hD hS hA isC hC
  va_calli hr hS (fun q _ h => hF q h) hF (fun r u t H1 locs1 ht _ hw hB _ hk1 hS1 => by
    obtain ⟨hP1, hD1⟩ := hB
    rw [ht] at hP1
    obtain ⟨hP2, hD2⟩ := va_join hP hD isC isR hC hR hn hdis hk1 hF hP1 hD1
    exact kk r u H1 locs1 hw hP2 hD2 hS1)

theorem zr_calll {P : Int64 → Prop} (hr : va_Run p l e R s m args below meth c H locs cells slots 0 0 (F0 m pc ls st0) rest (va_Ql (fun (r : Int64) (_ : Unit) => P r) (fun _ _ => True) (fun _ => False) a) (fun _ => False)) (hS : va_S A0 H0 H locs)
    (kk : ∀ (r : Int64) (H1 : Heap) (locs1 : List Loc), P r → (∀ (D : va_G) (ws : va_W), va_P D vwCl ws H → va_P D vwCl ws H1) → va_S A0 H0 H1 locs1 → W p l e R s m args below meth c H1 locs1 cells slots Q (F0 m (pc + 3) ls (.long r :: rest))) : W p l e R s m args below meth c H locs cells slots Q (F0 m pc ls st0) :=
  va_calll hr hS (fun _ _ h => h.elim) (fun _ h => h.elim) (fun r _ t H1 locs1 _ _ hw _ _ hk1 hS1 => kk r H1 locs1 hw (fun _ ws hP => hP.kept (fun k q hq => hk1 q.1 (hP k q hq).lt (fun z => z))) hS1)
theorem zw_calll {S : Type} {post : Int64 → S → Prop} {w1 : S → va_W} {ws wc wr : va_W} (hP : va_P D vwCl ws H) (hD : va_D A0 ws) (hS : va_S A0 H0 H locs) (hA : ∀ q, H0.size ≤ q → A0 q) (isC isR : List Nat) (hC : isC.map (fun i => ws[i]?) = wc.map some) (hR : isR.map (fun i => ws[i]?) = wr.map some) (hn : va_nd isR = true) (hdis : ∀ i ∈ isR, i ∉ isC)
    (hr : va_Run p l e R s m args below meth c H locs cells slots mc ms (F0 m pc ls st0) rest (va_Ql post (fun u t => zOut D (va_A wc H.size) (w1 u) t) (va_A wc H.size) a) (va_A wc H.size))
    (kk : ∀ (r : Int64) (u : S) (H1 : Heap) (locs1 : List Loc), post r u → va_P D vwCl (wr ++ w1 u) H1 → va_D A0 (wr ++ w1 u) → va_S A0 H0 H1 locs1 → W p l e R s m args below meth c H1 locs1 (cells + mc) (slots + ms) Q (F0 m (pc + 3) ls (.long r :: rest))) : W p l e R s m args below meth c H locs cells slots Q (F0 m pc ls st0) :=
  have hF := va_free hD hS hA isC hC
  va_calll hr hS (fun q _ h => hF q h) hF (fun r u t H1 locs1 ht _ hw hB _ hk1 hS1 => by
    obtain ⟨hP1, hD1⟩ := hB
    rw [ht] at hP1
    obtain ⟨hP2, hD2⟩ := va_join hP hD isC isR hC hR hn hdis hk1 hF hP1 hD1
    exact kk r u H1 locs1 hw hP2 hD2 hS1)

theorem zr_callf {P : UInt32 → Prop} (hr : va_Run p l e R s m args below meth c H locs cells slots 0 0 (F0 m pc ls st0) rest (va_Qf (fun (r : UInt32) (_ : Unit) => P r) (fun _ _ => True) (fun _ => False) a) (fun _ => False)) (hS : va_S A0 H0 H locs)
    (kk : ∀ (r : UInt32) (H1 : Heap) (locs1 : List Loc), P r → (∀ (D : va_G) (ws : va_W), va_P D vwCl ws H → va_P D vwCl ws H1) → va_S A0 H0 H1 locs1 → W p l e R s m args below meth c H1 locs1 cells slots Q (F0 m (pc + 3) ls (.float r :: rest))) : W p l e R s m args below meth c H locs cells slots Q (F0 m pc ls st0) :=
  va_callf hr hS (fun _ _ h => h.elim) (fun _ h => h.elim) (fun r _ t H1 locs1 _ _ hw _ _ hk1 hS1 => kk r H1 locs1 hw (fun _ ws hP => hP.kept (fun k q hq => hk1 q.1 (hP k q hq).lt (fun z => z))) hS1)
theorem zw_callf {S : Type} {post : UInt32 → S → Prop} {w1 : S → va_W} {ws wc wr : va_W} (hP : va_P D vwCl ws H) (hD : va_D A0 ws) (hS : va_S A0 H0 H locs) (hA : ∀ q, H0.size ≤ q → A0 q) (isC isR : List Nat) (hC : isC.map (fun i => ws[i]?) = wc.map some) (hR : isR.map (fun i => ws[i]?) = wr.map some) (hn : va_nd isR = true) (hdis : ∀ i ∈ isR, i ∉ isC)
    (hr : va_Run p l e R s m args below meth c H locs cells slots mc ms (F0 m pc ls st0) rest (va_Qf post (fun u t => zOut D (va_A wc H.size) (w1 u) t) (va_A wc H.size) a) (va_A wc H.size))
    (kk : ∀ (r : UInt32) (u : S) (H1 : Heap) (locs1 : List Loc), post r u → va_P D vwCl (wr ++ w1 u) H1 → va_D A0 (wr ++ w1 u) → va_S A0 H0 H1 locs1 → W p l e R s m args below meth c H1 locs1 (cells + mc) (slots + ms) Q (F0 m (pc + 3) ls (.float r :: rest))) : W p l e R s m args below meth c H locs cells slots Q (F0 m pc ls st0) :=
  have hF := va_free hD hS hA isC hC
  va_callf hr hS (fun q _ h => hF q h) hF (fun r u t H1 locs1 ht _ hw hB _ hk1 hS1 => by
    obtain ⟨hP1, hD1⟩ := hB
    rw [ht] at hP1
    obtain ⟨hP2, hD2⟩ := va_join hP hD isC isR hC hR hn hdis hk1 hF hP1 hD1
    exact kk r u H1 locs1 hw hP2 hD2 hS1)

theorem zr_calld {P : UInt64 → Prop} (hr : va_Run p l e R s m args below meth c H locs cells slots 0 0 (F0 m pc ls st0) rest (va_Qd (fun (r : UInt64) (_ : Unit) => P r) (fun _ _ => True) (fun _ => False) a) (fun _ => False)) (hS : va_S A0 H0 H locs)
    (kk : ∀ (r : UInt64) (H1 : Heap) (locs1 : List Loc), P r → (∀ (D : va_G) (ws : va_W), va_P D vwCl ws H → va_P D vwCl ws H1) → va_S A0 H0 H1 locs1 → W p l e R s m args below meth c H1 locs1 cells slots Q (F0 m (pc + 3) ls (.double r :: rest))) : W p l e R s m args below meth c H locs cells slots Q (F0 m pc ls st0) :=
  va_calld hr hS (fun _ _ h => h.elim) (fun _ h => h.elim) (fun r _ t H1 locs1 _ _ hw _ _ hk1 hS1 => kk r H1 locs1 hw (fun _ ws hP => hP.kept (fun k q hq => hk1 q.1 (hP k q hq).lt (fun z => z))) hS1)
theorem zw_calld {S : Type} {post : UInt64 → S → Prop} {w1 : S → va_W} {ws wc wr : va_W} (hP : va_P D vwCl ws H) (hD : va_D A0 ws) (hS : va_S A0 H0 H locs) (hA : ∀ q, H0.size ≤ q → A0 q) (isC isR : List Nat) (hC : isC.map (fun i => ws[i]?) = wc.map some) (hR : isR.map (fun i => ws[i]?) = wr.map some) (hn : va_nd isR = true) (hdis : ∀ i ∈ isR, i ∉ isC)
    (hr : va_Run p l e R s m args below meth c H locs cells slots mc ms (F0 m pc ls st0) rest (va_Qd post (fun u t => zOut D (va_A wc H.size) (w1 u) t) (va_A wc H.size) a) (va_A wc H.size))
    (kk : ∀ (r : UInt64) (u : S) (H1 : Heap) (locs1 : List Loc), post r u → va_P D vwCl (wr ++ w1 u) H1 → va_D A0 (wr ++ w1 u) → va_S A0 H0 H1 locs1 → W p l e R s m args below meth c H1 locs1 (cells + mc) (slots + ms) Q (F0 m (pc + 3) ls (.double r :: rest))) : W p l e R s m args below meth c H locs cells slots Q (F0 m pc ls st0) :=
  have hF := va_free hD hS hA isC hC
  va_calld hr hS (fun q _ h => hF q h) hF (fun r u t H1 locs1 ht _ hw hB _ hk1 hS1 => by
    obtain ⟨hP1, hD1⟩ := hB
    rw [ht] at hP1
    obtain ⟨hP2, hD2⟩ := va_join hP hD isC isR hC hR hn hdis hk1 hF hP1 hD1
    exact kk r u H1 locs1 hw hP2 hD2 hS1)

theorem zr_callv {P : Prop} (hr : va_Run p l e R s m args below meth c H locs cells slots 0 0 (F0 m pc ls st0) rest (va_Qv (fun (_ : Unit) => P) (fun _ _ => True) (fun _ => False) a) (fun _ => False)) (hS : va_S A0 H0 H locs)
    (kk : ∀ (H1 : Heap) (locs1 : List Loc), P → (∀ (D : va_G) (ws : va_W), va_P D vwCl ws H → va_P D vwCl ws H1) → va_S A0 H0 H1 locs1 → W p l e R s m args below meth c H1 locs1 cells slots Q (F0 m (pc + 3) ls (rest))) : W p l e R s m args below meth c H locs cells slots Q (F0 m pc ls st0) :=
  va_callv hr hS (fun _ _ h => h.elim) (fun _ h => h.elim) (fun  _ t H1 locs1 _ _ hw _ _ hk1 hS1 => kk  H1 locs1 hw (fun _ ws hP => hP.kept (fun k q hq => hk1 q.1 (hP k q hq).lt (fun z => z))) hS1)
theorem zw_callv {S : Type} {post : S → Prop} {w1 : S → va_W} {ws wc wr : va_W} (hP : va_P D vwCl ws H) (hD : va_D A0 ws) (hS : va_S A0 H0 H locs) (hA : ∀ q, H0.size ≤ q → A0 q) (isC isR : List Nat) (hC : isC.map (fun i => ws[i]?) = wc.map some) (hR : isR.map (fun i => ws[i]?) = wr.map some) (hn : va_nd isR = true) (hdis : ∀ i ∈ isR, i ∉ isC)
    (hr : va_Run p l e R s m args below meth c H locs cells slots mc ms (F0 m pc ls st0) rest (va_Qv post (fun u t => zOut D (va_A wc H.size) (w1 u) t) (va_A wc H.size) a) (va_A wc H.size))
    (kk : ∀ (u : S) (H1 : Heap) (locs1 : List Loc), post u → va_P D vwCl (wr ++ w1 u) H1 → va_D A0 (wr ++ w1 u) → va_S A0 H0 H1 locs1 → W p l e R s m args below meth c H1 locs1 (cells + mc) (slots + ms) Q (F0 m (pc + 3) ls (rest))) : W p l e R s m args below meth c H locs cells slots Q (F0 m pc ls st0) :=
  have hF := va_free hD hS hA isC hC
  va_callv hr hS (fun q _ h => hF q h) hF (fun  u t H1 locs1 ht _ hw hB _ hk1 hS1 => by
    obtain ⟨hP1, hD1⟩ := hB
    rw [ht] at hP1
    obtain ⟨hP2, hD2⟩ := va_join hP hD isC isR hC hR hn hdis hk1 hF hP1 hD1
    exact kk  u H1 locs1 hw hP2 hD2 hS1)

end ZL
