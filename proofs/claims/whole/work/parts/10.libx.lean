/-! what a throw needs, beside the words: two statics, the texts, what is castable; methods that always throw here -/
abbrev zsM (X : String) : MethodName := ⟨X, "<init>", "(Ljava/lang/String;)V"⟩
abbrev zIO : String := "java/lang/IndexOutOfBoundsException"
abbrev zIA : String := "java/lang/IllegalArgumentException"
abbrev zIS : String := "java/lang/IllegalStateException"
abbrev zNm : List String := ["java/lang/RuntimeException", "java/lang/Exception"]
def zBw (X : String) : List Cond := [.declares (zsM "java/lang/RuntimeException"), .declares (zsM "java/lang/Exception"), .declares (zsM "java/lang/Throwable"), .castable X X]
def zTh (A : Nat → Prop) (U : State) (H : Heap) : Prop := (vx_Zq Bundle.tN "UNASSIGNED_STACK" Bundle.steD A U H ∧ vx_Zq Bundle.tN "SUPPRESSED_SENTINEL" Bundle.listD A U H) ∧ ((∃ a, vk_R RX4 235 "there is no such number" a U) ∧ (∃ a, vk_R RX4 242 "out of range" a U) ∧ (∃ a, vk_R RX4 245 "the buffer does not tell readings" a U) ∧ (∃ a, vk_R RX4 249 "not in this state" a U)) ∧ (va_Nw (.declares (zsM "java/lang/RuntimeException")) U ∧ va_Nw (.declares (zsM "java/lang/Exception")) U ∧ va_Nw (.declares (zsM "java/lang/Throwable")) U) ∧ (va_Nw (.castable zIO zIO) U ∧ va_Nw (.castable zIA zIA) U ∧ va_Nw (.castable zIS zIS) U)
theorem zTh.warm {A : Nat → Prop} {s U : State} {H : Heap} (hW : s.WarmedH U.vm) (h : zTh A s H) : zTh A U H := by
  obtain ⟨⟨a1, a2⟩, ⟨⟨q1, b1⟩, ⟨q2, b2⟩, ⟨q3, b3⟩, ⟨q4, b4⟩⟩, ⟨c1, c2, c3⟩, ⟨d1, d2, d3⟩⟩ := h
  exact ⟨⟨a1.moved hW.alike, a2.moved hW.alike⟩, ⟨⟨q1, b1.warm hW⟩, ⟨q2, b2.warm hW⟩, ⟨q3, b3.warm hW⟩, ⟨q4, b4.warm hW⟩⟩, ⟨va_Nw.warmD hW c1, va_Nw.warmD hW c2, va_Nw.warmD hW c3⟩, ⟨va_Nw.warmC hW d1, va_Nw.warmC hW d2, va_Nw.warmC hW d3⟩⟩
theorem zTh.kept {A : Nat → Prop} {U : State} {H H1 : Heap} (h : zTh A U H) (hq : ∀ a : Nat, a < H.size → ¬ A a → H1[a]? = H[a]?) : zTh A U H1 := ⟨⟨h.1.1.kept hq, h.1.2.kept hq⟩, h.2⟩
theorem zTh.narrow {A B : Nat → Prop} {U : State} {H : Heap} (h : zTh A U H) (hAB : ∀ q, B q → A q) : zTh B U H := ⟨⟨h.1.1.narrow hAB, h.1.2.narrow hAB⟩, h.2⟩
theorem zTh.bad {A : Nat → Prop} {U : State} {H : Heap} {args : Array Value} (h : zTh A U H) {X : String} (hX : X = zIO ∨ X = zIA ∨ X = zIS) : ∀ w ∈ zBw X, w.before args U = true := by
  obtain ⟨-, -, ⟨c1, c2, c3⟩, ⟨d1, d2, d3⟩⟩ := h
  intro w hw
  simp only [zBw, List.mem_cons, List.not_mem_nil, or_false] at hw
  rcases hw with rfl | rfl | rfl | rfl
  · exact c1.use rfl
  · exact c2.use rfl
  · exact c3.use rfl
  · rcases hX with rfl | rfl | rfl
    · exact d1.use rfl
    · exact d2.use rfl
    · exact d3.use rfl
def zXP (D : va_G) (y : Nat → ClassId) (ws : va_W) : State → Prop := fun U => zTh (fun _ => False) U U.heap ∧ zRO D y ws U
def zXC (cls : String) : String → State → State → Prop := fun E st t => E = cls ∧ va_F (fun _ => False) st t
set_option maxRecDepth 20000 in
theorem zb_IO : ∀ w ∈ (vx_atS RX4 237 zIO zNm).filter (fun w => !goodWord w), w ∈ zBw zIO := by decide +kernel
set_option maxRecDepth 20000 in
theorem zb_IA : ∀ w ∈ (vx_atS RX4 244 zIA zNm).filter (fun w => !goodWord w), w ∈ zBw zIA := by decide +kernel
set_option maxRecDepth 20000 in
theorem zb_IS : ∀ w ∈ (vx_atS RX4 251 zIS zNm).filter (fun w => !goodWord w), w ∈ zBw zIS := by decide +kernel
set_option maxRecDepth 20000 in
theorem zg_IO : ∀ w ∈ Cond.classLink RX4 233 zIO :: Cond.initialized zIO :: vx_atS RX4 237 zIO zNm, vx_ot w = true := by decide +kernel
set_option maxRecDepth 20000 in
theorem zg_IA : ∀ w ∈ Cond.classLink RX4 240 zIA :: Cond.initialized zIA :: vx_atS RX4 244 zIA zNm, vx_ot w = true := by decide +kernel
set_option maxRecDepth 20000 in
theorem zg_IS : ∀ w ∈ Cond.classLink RX4 247 zIS :: Cond.initialized zIS :: vx_atS RX4 251 zIS zNm, vx_ot w = true := by decide +kernel
section ZX
variable {p : Program} {l : Launch} {e : Env} {R : Room} {s : State} {m : MethodId} {args : Array Value} {below : List Frame} {meth : Method} {c : Code} {H H0 : Heap} {locs : List Loc} {cells slots mc ms pc : Nat} {ls : Array Slot} {st0 rest : List Value} {a : Array Value} {A0 : Nat → Prop} {Q : State → Prop} {D : va_G} {y : Nat → ClassId} {As : List Value} {b : Addr}
theorem zXP_blind {av : List Value} {ws : va_W} : FrameBlind (va_Pc av (zXP D y ws)) := fun a U g mk q => ⟨q.1, zTh.warm (s := U) (U := U.calling g mk a) (State.WarmedH.refl U) q.2.1, (zRO_blind a U g mk ⟨q.1, q.2.2⟩).2⟩
theorem zTh.at {U : State} (hZ : zTh A0 s s.heap) (hS : va_S A0 s.heap H locs) (hU : U.heap = H) (hW : s.WarmedH U.vm) : zTh (fun _ => False) U U.heap := by
  rw [hU]
  exact ((hZ.kept (fun a h1 h2 => hS.2.1 a h1 h2)).narrow (fun _ h => h.elim)).warm hW
theorem zXP_at {ws wc : va_W} (hK : zKN D y s) (hP : va_P D vwCl ws H) (hZ : zTh A0 s s.heap) (hS : va_S A0 s.heap H locs) (isC : List Nat) (hC : isC.map (fun i => ws[i]?) = wc.map some) (U : State) (hU : U.heap = H) (hW : s.WarmedH U.vm) : va_Pc As (zXP D y wc) As.toArray U := ⟨rfl, hZ.at hS hU hW, (zRO_at (As := As) hK hP isC hC U hU hW).2⟩
theorem zXP_pre {ws wc : va_W} (hK : zKN D y s) (hP : va_P D vwCl ws H) (hZ : zTh A0 s s.heap) (hS : va_S A0 s.heap H locs) (isC : List Nat) (hC : isC.map (fun i => ws[i]?) = wc.map some) : PreS s H (va_Pc As (zXP D y wc)) As := ⟨zXP_blind, zXP_at hK hP hZ hS isC hC⟩
theorem zXP_preV {ws wc : va_W} {ci q0 : Nat} {q : vw_C} {fs : List Value} (hK : zKN D y s) (hP : va_P D vwCl ws H) (hZ : zTh A0 s s.heap) (hS : va_S A0 s.heap H locs) (hc : vwCl[ci]? = some q) (he : ws[q0]? = some (b, .inr (ci, fs))) (isC : List Nat) (hC : isC.map (fun i => ws[i]?) = wc.map some) : PreV s H q.1 b (va_Pc (.ref b :: As) (zXP D y wc)) As := ⟨zXP_blind, va_recv hK.1 hP hc he, zXP_at hK hP hZ hS isC hC⟩
/-- a call that throws -/
theorem zx_call {cls : String} (hr : vx_Run p l e R s m args below meth c H locs cells slots mc ms (F0 m pc ls st0) rest (fun _ _ _ => False) (zXC cls) (fun _ => False)) (hS : va_S A0 H0 H locs)
    (kx : ∀ (ce : Cell) (q9 : Addr) (H1 : Heap) (locs1 : List Loc), (∀ (D : va_G) (ws : va_W), va_P D vwCl ws H → va_P D vwCl ws H1) → va_S A0 H0 H1 locs1 → H1[q9]? = some ce → ce.vm = .none → s.vm.findClass cls = some ce.cls → vx_W p l e R s m args below meth c H1 locs1 (cells + mc) (slots + ms) Q (F0 m pc ls rest) q9) : W p l e R s m args below meth c H locs cells slots Q (F0 m pc ls st0) := by
  intro T hT X
  rcases hr T hT X with ⟨v, st₀, t, T', L, h0, X', hL, e1, e2, hF, st⟩ | ⟨q, st₀, t, T', L, E, ce, h0, X', hL, e1, e2, ⟨rfl, hF⟩, hce, hcv, hcl, st⟩
  · exact hF.elim
  · obtain ⟨k1, k2, k3⟩ := vx_keep h0 e1 hS (A1 := fun _ => False) (fun _ _ h => h.elim) (free := fun _ => False) (fun _ h => h.elim) hL hF
    obtain ⟨t2, a1, b1⟩ := kx ce q T'.heap (locs ++ L) (fun _ ws hP => hP.kept (fun k q hq => k2 q.1 (hP k q hq).lt (fun z => z))) k3 (by rw [e1]; exact hce) hcv hcl T' rfl X'
    exact ⟨t2, st.trans a1, b1⟩
end ZX
