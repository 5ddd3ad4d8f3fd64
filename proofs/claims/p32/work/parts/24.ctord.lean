/-! constructors: addresses in a row, what is made anew -/
def zAd : List Nat → Nat → Nat
  | [], _ => 0
  | a :: _, 0 => a
  | _ :: l, n + 1 => zAd l n
def zS0 : Nat → Int32 := upd (upd (upd (fun _ => 0) 6 2) 7 1) 8 1
def zRWo (D : va_G) (y : Nat → ClassId) (ws : va_W) (sz : Nat) : State → Prop := fun U => zRW D y ws sz U ∧ va_AO RX2 U
theorem zz_same {U : State} {a b : ClassId} {ty : FieldType} (h1 : va_RA U a ty) (h2 : va_RA U b ty) : a = b := by
  cases ty with
  | object C =>
    obtain ⟨_, _, -, -, -, h1⟩ := h1
    obtain ⟨_, _, -, -, -, h2⟩ := h2
    exact Option.some.inj (h1.symm.trans h2)
  | _ => exact Option.some.inj ((show U.vm.findClass _ = some a from h1).symm.trans (show U.vm.findClass _ = some b from h2))
section ZCT
variable {p : Program} {l : Launch} {e : Env} {R : Room} {s : State} {m : MethodId} {args : Array Value} {below : List Frame} {meth : Method} {c : Code} {H H0 : Heap} {locs : List Loc} {cells slots mc ms pc : Nat} {ls : Array Slot} {st0 rest : List Value} {a : Array Value} {A0 : Nat → Prop} {Q : State → Prop} {D : va_G} {y : Nat → ClassId} {As : List Value} {b : Addr}
theorem zRWo_blind {av : List Value} {ws : va_W} {sz : Nat} : FrameBlind (va_Pc av (zRWo D y ws sz)) := fun a U g mk q => ⟨q.1, (zRW_blind (av := av) a U g mk ⟨q.1, q.2.1⟩).2, q.2.2⟩
theorem zRWo_pre {ws wc : va_W} (hO : va_AO RX2 s) (hK : zKN D y s) (hP : va_P D vwCl ws H) (hD : va_D A0 ws) (isC : List Nat) (hC : isC.map (fun i => ws[i]?) = wc.map some) (hn : va_nd isC = true) : PreS s H (va_Pc As (zRWo D y wc H.size)) As := ⟨zRWo_blind, fun U hU hW => ⟨rfl, (zRW_at (As := As) hK hP hD isC hC hn U hU hW).2, va_AO.moved hW.alike hO⟩⟩
theorem zcellS {ws : va_W} {A : Nat → Prop} (hP : va_P D vwCl ws H) (hD : va_D A ws) (q0 : Nat) {q n : Nat} {cA : ClassId} {f : Nat → Option Nat} (he : ws[q0]? = some (q, .inl (cA, n, .inr (.inr (.inr (.inr f)))))) (g : Nat → Option Nat) (hg : ∀ j : Nat, j < n → f j = g j) : va_P D vwCl (ws.set q0 (q, .inl (cA, n, .inr (.inr (.inr (.inr g)))))) H ∧ va_D A (ws.set q0 (q, .inl (cA, n, .inr (.inr (.inr (.inr g)))))) := by
  refine ⟨?_, hD.set he⟩
  refine va_P.set hP hD he ?_ (fun _ _ => rfl)
  have h := hP q0 _ he
  show H[q]? = some (vp_cell cA (n, .inr (.inr (.inr (.inr g)))))
  have h' : H[q]? = some (vp_cell cA (n, .inr (.inr (.inr (.inr f))))) := h
  rw [h']
  congr 1
  show arrV cA n (fun j => va_rf (f j)) = arrV cA n (fun j => va_rf (g j))
  exact zarr fun j hj => congrArg va_rf (hg j hj)
end ZCT
theorem zS0u {S' : Nat → Int32} : S' = S' := rfl
