/-! the law's own methods: codes with tables, what a catch needs -/
abbrev wsW_ (y : MethodName) (cd : ByteArray) (n : Nat) (rt : Option FieldType) (hh : List (Nat × Nat × Nat × Nat)) : List Cond := .codeWith y cd n rt hh :: gT
def zNc (U : State) : Prop := va_Nc zIA zIO U ∧ va_Nc zIS zIO U ∧ va_Nc zIS zIA U ∧ va_Nc zIA zIS U
theorem zNc.moved {u U : State} (hvm : u.vm.Alike U.vm) (h : zNc u) : zNc U := ⟨h.1.moved hvm, h.2.1.moved hvm, h.2.2.1.moved hvm, h.2.2.2.moved hvm⟩
def zXN (D : va_G) (y : Nat → ClassId) (ws : va_W) : State → Prop := fun U => zXP D y ws U ∧ zNc U
def zRWN (D : va_G) (y : Nat → ClassId) (ws : va_W) (sz : Nat) : State → Prop := fun U => zRW D y ws sz U ∧ zTh (fun _ => False) U U.heap ∧ zNc U
section ZLW
variable {p : Program} {l : Launch} {e : Env} {R : Room} {s : State} {m : MethodId} {args : Array Value} {below : List Frame} {meth : Method} {c : Code} {H H0 : Heap} {locs : List Loc} {cells slots mc ms pc : Nat} {ls : Array Slot} {st0 rest : List Value} {a : Array Value} {A0 : Nat → Prop} {Q : State → Prop} {D : va_G} {y : Nat → ClassId} {As : List Value} {b : Addr}
theorem zXN_blind {av : List Value} {ws : va_W} : FrameBlind (va_Pc av (zXN D y ws)) := fun a U g mk q => ⟨q.1, (zXP_blind (av := av) a U g mk ⟨q.1, q.2.1⟩).2, q.2.2⟩
theorem zXN_pre {ws wc : va_W} (hN : zNc s) (hK : zKN D y s) (hP : va_P D vwCl ws H) (hZ : zTh A0 s s.heap) (hS : va_S A0 s.heap H locs) (isC : List Nat) (hC : isC.map (fun i => ws[i]?) = wc.map some) : PreS s H (va_Pc As (zXN D y wc)) As := ⟨zXN_blind, fun U hU hW => ⟨rfl, (zXP_at (As := As) hK hP hZ hS isC hC U hU hW).2, hN.moved hW.alike⟩⟩
theorem zgSW {k : Cond} {own : String} {idx n : Nat} {y : MethodName} {cd : ByteArray} {rt : Option FieldType} {hh : List (Nat × Nat × Nat × Nat)} (h1 : Cond.methodLink own idx y ∈ gT) (h2 : Cond.static y ∈ gT) (h3 : Cond.initialized y.cls ∈ gT) (h4 : Cond.codeWith y cd n rt hh ∈ gT) : GoodIn (k :: gT) (va_wsS own idx y (wsW_ y cd n rt hh)) := by
  intro w hw
  refine zgd ?_
  rcases List.mem_append.mp hw with h | h
  · simp only [List.mem_cons, List.not_mem_nil, or_false] at h
    rcases h with rfl | rfl | rfl
    · exact h1
    · exact h2
    · exact h3
  · rcases List.mem_cons.mp h with rfl | h
    · exact h4
    · exact h
end ZLW
