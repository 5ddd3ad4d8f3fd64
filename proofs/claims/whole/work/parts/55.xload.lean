/-! a call that throws behind a change -/
def zRWX (D : va_G) (y : Nat → ClassId) (ws : va_W) (sz : Nat) : State → Prop := fun U => zRW D y ws sz U ∧ zTh (va_A ws sz) U U.heap
def zRWXN (D : va_G) (y : Nat → ClassId) (ws : va_W) (sz : Nat) : State → Prop := fun U => zRWX D y ws sz U ∧ zNc U
def zXL (D : va_G) (cls : String) (ws : va_W) (sz : Nat) (w1 : (Nat → Nat) → va_W) : String → State → State → Prop := vx_X (fun u : Nat → Nat => rGood u) (fun E u t => E = cls ∧ zOut D (va_A ws sz) (w1 u) t) (va_A ws sz)
section ZXL
variable {p : Program} {l : Launch} {e : Env} {R : Room} {s : State} {m : MethodId} {args : Array Value} {below : List Frame} {meth : Method} {c : Code} {H H0 : Heap} {locs : List Loc} {cells slots mc ms pc : Nat} {ls : Array Slot} {st0 rest : List Value} {a : Array Value} {A0 : Nat → Prop} {Q : State → Prop} {D : va_G} {y : Nat → ClassId} {As : List Value} {b : Addr}
theorem zTh.here {U : State} (hZ : zTh A0 s s.heap) (hS : va_S A0 s.heap H locs) (hU : U.heap = H) (hW : s.WarmedH U.vm) {B : Nat → Prop} (hB : ∀ q, B q → A0 q) : zTh B U U.heap := by
  rw [hU]
  exact ((hZ.kept (fun a h1 h2 => hS.2.1 a h1 h2)).narrow hB).warm hW
theorem zRWX_blind {av : List Value} {ws : va_W} {sz : Nat} : FrameBlind (va_Pc av (zRWX D y ws sz)) := fun a U g mk q => ⟨q.1, (zRW_blind (av := av) a U g mk ⟨q.1, q.2.1⟩).2, zTh.warm (s := U) (U := U.calling g mk a) (State.WarmedH.refl U) q.2.2⟩
theorem zRWX_at {ws wc : va_W} (hZ : zTh A0 s s.heap) (hS : va_S A0 s.heap H locs) (hA : ∀ q, s.heap.size ≤ q → A0 q) (hK : zKN D y s) (hP : va_P D vwCl ws H) (hD : va_D A0 ws) (isC : List Nat) (hC : isC.map (fun i => ws[i]?) = wc.map some) (hn : va_nd isC = true) (U : State) (hU : U.heap = H) (hW : s.WarmedH U.vm) : va_Pc As (zRWX D y wc H.size) As.toArray U := ⟨rfl, (zRW_at (As := As) hK hP hD isC hC hn U hU hW).2, hZ.here hS hU hW (va_free hD hS hA isC hC)⟩
theorem zRWX_preV {ws wc : va_W} {ci q0 : Nat} {q : vw_C} {fs : List Value} (hZ : zTh A0 s s.heap) (hS : va_S A0 s.heap H locs) (hA : ∀ q, s.heap.size ≤ q → A0 q) (hK : zKN D y s) (hP : va_P D vwCl ws H) (hD : va_D A0 ws) (hc : vwCl[ci]? = some q) (he : ws[q0]? = some (b, .inr (ci, fs))) (isC : List Nat) (hC : isC.map (fun i => ws[i]?) = wc.map some) (hn : va_nd isC = true) : PreV s H q.1 b (va_Pc (.ref b :: As) (zRWX D y wc H.size)) As := ⟨zRWX_blind, va_recv hK.1 hP hc he, zRWX_at hZ hS hA hK hP hD isC hC hn⟩
theorem zRWXN_blind {av : List Value} {ws : va_W} {sz : Nat} : FrameBlind (va_Pc av (zRWXN D y ws sz)) := fun a U g mk q => ⟨q.1, (zRWX_blind (av := av) a U g mk ⟨q.1, q.2.1⟩).2, q.2.2⟩
theorem zRWXN_pre {ws wc : va_W} (hN : zNc s) (hZ : zTh A0 s s.heap) (hS : va_S A0 s.heap H locs) (hA : ∀ q, s.heap.size ≤ q → A0 q) (hK : zKN D y s) (hP : va_P D vwCl ws H) (hD : va_D A0 ws) (isC : List Nat) (hC : isC.map (fun i => ws[i]?) = wc.map some) (hn : va_nd isC = true) : PreS s H (va_Pc As (zRWXN D y wc H.size)) As := ⟨zRWXN_blind, fun U hU hW => ⟨rfl, (zRWX_at (As := As) hZ hS hA hK hP hD isC hC hn U hU hW).2, hN.moved hW.alike⟩⟩
theorem zwx_call {cls : String} {w1 : (Nat → Nat) → va_W} {ws wc wr : va_W} (hP : va_P D vwCl ws H) (hD : va_D A0 ws) (hS : va_S A0 H0 H locs) (hA : ∀ q, H0.size ≤ q → A0 q) (isC isR : List Nat) (hC : isC.map (fun i => ws[i]?) = wc.map some) (hR : isR.map (fun i => ws[i]?) = wr.map some) (hn : va_nd isR = true) (hdis : ∀ i ∈ isR, i ∉ isC)
    (hr : vx_Run p l e R s m args below meth c H locs cells slots mc ms (F0 m pc ls st0) rest (fun _ _ _ => False) (zXL D cls wc H.size w1) (va_A wc H.size))
    (kx : ∀ (u : Nat → Nat) (ce : Cell) (q9 : Addr) (H1 : Heap) (locs1 : List Loc), rGood u → va_P D vwCl (wr ++ w1 u) H1 → va_D A0 (wr ++ w1 u) → va_S A0 H0 H1 locs1 → H1[q9]? = some ce → ce.vm = .none → s.vm.findClass cls = some ce.cls → vx_W p l e R s m args below meth c H1 locs1 (cells + mc) (slots + ms) Q (F0 m pc ls rest) q9) : W p l e R s m args below meth c H locs cells slots Q (F0 m pc ls st0) := by
  have hFr := va_free hD hS hA isC hC
  intro T hT X
  rcases hr T hT X with ⟨v, st₀, t, T', L, h0, X', hL, e1, e2, hF, st⟩ | ⟨q, st₀, t, T', L, E, ce, h0, X', hL, e1, e2, ⟨u, hp, ⟨rfl, hP1, hD1⟩, hF⟩, hce, hcv, hcl, st⟩
  · exact hF.elim
  · obtain ⟨k1, k2, k3⟩ := vx_keep h0 e1 hS (A1 := va_A wc H.size) (fun q _ h => hFr q h) hFr hL hF
    rw [← e1] at hP1
    obtain ⟨hP2, hD2⟩ := va_join hP hD isC isR hC hR hn hdis k2 hFr hP1 hD1
    obtain ⟨t2, a1, b1⟩ := kx u ce q T'.heap (locs ++ L) hp hP2 hD2 k3 (by rw [e1]; exact hce) hcv hcl T' rfl X'
    exact ⟨t2, st.trans a1, b1⟩
theorem zrm_calli {P : Int32 → Prop} (hr : va_Run p l e R s m args below meth c H locs cells slots mc ms (F0 m pc ls st0) rest (va_Qi (fun (r : Int32) (_ : Unit) => P r) (fun _ _ => True) (fun _ => False) a) (fun _ => False)) (hS : va_S A0 H0 H locs)
    (kk : ∀ (r : Int32) (H1 : Heap) (locs1 : List Loc), P r → (∀ (D : va_G) (ws : va_W), va_P D vwCl ws H → va_P D vwCl ws H1) → va_S A0 H0 H1 locs1 → W p l e R s m args below meth c H1 locs1 (cells + mc) (slots + ms) Q (F0 m (pc + 3) ls (.int r :: rest))) : W p l e R s m args below meth c H locs cells slots Q (F0 m pc ls st0) :=
  va_calli hr hS (fun _ _ h => h.elim) (fun _ h => h.elim) (fun r _ t H1 locs1 _ _ hw _ _ hk1 hS1 => kk r H1 locs1 hw (fun _ ws hP => hP.kept (fun k q hq => hk1 q.1 (hP k q hq).lt (fun z => z))) hS1)
end ZXL
