/-! the place's own words: what holds at the law's start (B0), before a method (Pre), behind it (Pst), in its walk (Cx, Wd) -/
abbrev GT : Type := va_G × ClassId × ClassId × ClassId × ClassId
abbrev tyz (G : GT) : List (ClassId × FieldType) := [(G.2.1, .int), (G.2.2.1, .long), (G.2.2.2.1, .boolean), (G.2.2.2.2, .object "TokenHall$Stand")]
def B0 (l : Launch) (s0 : State) (a0 : Array Value) (G : GT) : Prop :=
  l.stackTraces = false ∧ (∀ w ∈ lw_tbl, w.before a0 s0 = true) ∧ va_K G.1 vwCl (tyz G) s0 ∧
  vx_Zq Bundle.tN "UNASSIGNED_STACK" Bundle.steD (fun q => s0.heap.size ≤ q) s0 s0.heap ∧ vx_Zq Bundle.tN "SUPPRESSED_SENTINEL" Bundle.listD (fun q => s0.heap.size ≤ q) s0 s0.heap ∧
  (∃ a, vk_R RX11 249 "no such number" a s0) ∧ (∃ a, vk_R RX11 362 "no such act" a s0) ∧ (∃ a, vk_R RX11 367 "no such place" a s0)
def Pre (s0 : State) (G : GT) (ws : va_W) (sz : Nat) (U : State) : Prop :=
  s0.WarmedH U.vm ∧ va_S (fun q => s0.heap.size ≤ q) s0.heap U.heap [] ∧ U.heap.size = sz ∧ va_P G.1 vwCl ws U.heap ∧ va_D (fun q => s0.heap.size ≤ q) ws
def Pst (G : GT) (ws : va_W) (sz : Nat) (ws' : va_W) (t : State) : Prop := va_P G.1 vwCl ws' t.heap ∧ va_D (va_A ws sz) ws'
def Pso (G : GT) (A : Nat → Prop) (ws' : va_W) (t : State) : Prop := va_P G.1 vwCl ws' t.heap ∧ va_D A ws'
theorem pre_blind {s0 : State} {G : GT} {ws : va_W} {sz : Nat} {av : List Value} : FrameBlind (va_Pc av (Pre s0 G ws sz)) :=
  fun a U g mk q => by obtain ⟨q0, q1, q2, q3, q4, q5⟩ := q; exact ⟨q0, q1, q2, q3, q4, q5⟩
def Cx (l : Launch) (s0 : State) (a0 : Array Value) (G : GT) (p : Program) (s : State) (m : MethodId) (args : Array Value) (meth : Method) (c : Code) (own : String) (cc : ByteArray) (nL : Nat) (nm : String) (A : Nat → Prop) : Prop :=
  B0 l s0 a0 G ∧ p.tables.exec = Jvm.exec ∧ c.code = cc ∧ c.maxLocals = nL ∧ s.vm.findClass own = some m.cls ∧ meth.locks = false ∧ s0.WarmedH s.vm ∧ va_S (fun q => s0.heap.size ≤ q) s0.heap s.heap [] ∧ (∀ q, s.heap.size ≤ q → A q) ∧ (∀ q, A q → s0.heap.size ≤ q) ∧ meth.name = nm
def Wd (s : State) (G : GT) (A : Nat → Prop) (ws : va_W) (H : Heap) (locs : List Loc) : Prop := va_P G.1 vwCl ws H ∧ va_D A ws ∧ va_S A s.heap H locs
section
variable {l : Launch} {s0 : State} {a0 : Array Value} {G : GT} {p : Program} {s : State} {m : MethodId} {args : Array Value} {meth : Method} {c : Code} {own : String} {cc : ByteArray} {nL : Nat} {nm : String} {A : Nat → Prop}
theorem Cx.b0 (C : Cx l s0 a0 G p s m args meth c own cc nL nm A) : B0 l s0 a0 G := C.1
theorem Cx.hx (C : Cx l s0 a0 G p s m args meth c own cc nL nm A) : p.tables.exec = Jvm.exec := C.2.1
theorem Cx.hb (C : Cx l s0 a0 G p s m args meth c own cc nL nm A) : c.code = cc := C.2.2.1
theorem Cx.hml (C : Cx l s0 a0 G p s m args meth c own cc nL nm A) : c.maxLocals = nL := C.2.2.2.1
theorem Cx.hown (C : Cx l s0 a0 G p s m args meth c own cc nL nm A) : s.vm.findClass own = some m.cls := C.2.2.2.2.1
theorem Cx.locks (C : Cx l s0 a0 G p s m args meth c own cc nL nm A) : meth.locks = false := C.2.2.2.2.2.1
theorem Cx.warm (C : Cx l s0 a0 G p s m args meth c own cc nL nm A) : s0.WarmedH s.vm := C.2.2.2.2.2.2.1
theorem Cx.hS0 (C : Cx l s0 a0 G p s m args meth c own cc nL nm A) : va_S (fun q => s0.heap.size ≤ q) s0.heap s.heap [] := C.2.2.2.2.2.2.2.1
theorem Cx.hA (C : Cx l s0 a0 G p s m args meth c own cc nL nm A) : ∀ q, s.heap.size ≤ q → A q := C.2.2.2.2.2.2.2.2.1
theorem Cx.hO (C : Cx l s0 a0 G p s m args meth c own cc nL nm A) : ∀ q, A q → s0.heap.size ≤ q := C.2.2.2.2.2.2.2.2.2.1
theorem Cx.name (C : Cx l s0 a0 G p s m args meth c own cc nL nm A) : meth.name = nm := C.2.2.2.2.2.2.2.2.2.2
theorem Cx.hK (C : Cx l s0 a0 G p s m args meth c own cc nL nm A) : va_K G.1 vwCl (tyz G) s := va_K.moved C.warm.alike C.b0.2.2.1
theorem Cx.word (C : Cx l s0 a0 G p s m args meth c own cc nL nm A) {w : Cond} (h : w ∈ lw_tbl) (g : goodWord w = true) : w.before args s = true := word_at C.warm (good_of_word g) (C.b0.2.1 w h)
theorem Cx.nest (C : Cx l s0 a0 G p s m args meth c own cc nL nm A) {a : String} {i : Nat} {x : MethodName} {h : String} (hm : Cond.methodLinkNest a i x h ∈ lw_tbl) : va_Nw (.methodLinkNest a i x h) s := va_Nw.warmM C.warm (va_Nw.of rfl (C.b0.2.1 _ hm))
theorem Cx.cast (C : Cx l s0 a0 G p s m args meth c own cc nL nm A) {a b : String} (hm : Cond.castable a b ∈ lw_tbl) : (Cond.castable a b).before args s = true := va_Nw.use rfl (va_Nw.warmC C.warm (va_Nw.of rfl (C.b0.2.1 _ hm)))
theorem Cx.over (C : Cx l s0 a0 G p s m args meth c own cc nL nm A) {a : String} (hm : Cond.arrayOver (.object a) ∈ lw_tbl) : va_AO a s := va_AO.moved C.warm.alike (va_AO.of (C.b0.2.1 _ hm))
theorem Cx.lays (C : Cx l s0 a0 G p s m args meth c own cc nL nm A) {D : String} {T : u_T} {N : Nat} (h : ∀ w ∈ u_ws D T N, w ∈ lw_tbl) : ∀ w ∈ u_ws D T N, w.before args s = true := fun w hw => C.word (h w hw) (by
  obtain ⟨k, -, rfl⟩ := List.mem_map.mp hw
  unfold u_lay
  split <;> rfl)
theorem Cx.S (C : Cx l s0 a0 G p s m args meth c own cc nL nm A) : CallFix p m c cc nL s args [] own := ⟨C.hx, C.hb, C.hml, C.hown, fun _ h => nomatch h⟩
theorem Cx.pre (C : Cx l s0 a0 G p s m args meth c own cc nL nm A) {ws wc : va_W} {H : Heap} {locs : List Loc} (w : Wd s G A ws H locs) (isC : List Nat) (hC : isC.map (fun i => ws[i]?) = wc.map some) (hn : va_nd isC = true) {U : State} (hU : U.heap = H) (hW : s.WarmedH U.vm) : Pre s0 G wc H.size U := by
  refine ⟨State.WarmedH.trans C.warm hW, ?_, by rw [hU], ?_, (w.2.1.sub isC hn hC).weaken (fun _ _ _ h => C.hO _ h)⟩
  · rw [hU]
    refine ⟨Nat.le_trans C.hS0.1 w.2.2.1, fun q h1 h2 => ?_, fun _ h => nomatch h⟩
    rw [w.2.2.2.1 q (Nat.lt_of_lt_of_le h1 C.hS0.1) (fun h => h2 (C.hO q h))]
    exact C.hS0.2.1 q h1 h2
  · rw [hU]
    intro k q hk
    have h1 : (isC.map (fun i => ws[i]?))[k]? = some (some q) := by rw [hC, List.getElem?_map, hk]; rfl
    rw [List.getElem?_map] at h1
    cases hi : isC[k]? with
    | none => rw [hi] at h1; cases h1
    | some i => rw [hi] at h1; exact w.1 i q (Option.some.inj h1)
theorem Cx.zU (C : Cx l s0 a0 G p s m args meth c own cc nL nm A) : vx_Zq Bundle.tN "UNASSIGNED_STACK" Bundle.steD A s s.heap := ((vx_Zq.moved C.warm.alike (C.b0.2.2.2.1.kept C.hS0.2.1)).narrow C.hO)
theorem Cx.zN (C : Cx l s0 a0 G p s m args meth c own cc nL nm A) : vx_Zq Bundle.tN "SUPPRESSED_SENTINEL" Bundle.listD A s s.heap := ((vx_Zq.moved C.warm.alike (C.b0.2.2.2.2.1.kept C.hS0.2.1)).narrow C.hO)
end
/-! contracts: i int (or boolean), l long, v nothing, r a cell that is new, x throws E -/
def Ki (l : Launch) (s0 : State) (G : GT) (y : MethodName) (cy : ByteArray) (ny : Nat) (ret : Option FieldType) (rm : Room) (av : List Value) (ws : va_W) (sz : Nat) (r : Int32) (ws' : (Nat → Nat) → va_W) : Prop :=
  Met l y [.code y cy ny ret] rm (va_Pc av (Pre s0 G ws sz)) (va_Qi (fun r' (_ : Nat → Nat) => r' = r) (fun u t => Pst G ws sz (ws' u) t) (va_A ws sz)) rm.cells rm.slots (va_A ws sz)
def Kl (l : Launch) (s0 : State) (G : GT) (y : MethodName) (cy : ByteArray) (ny : Nat) (ret : Option FieldType) (rm : Room) (av : List Value) (ws : va_W) (sz : Nat) (r : Int64) (ws' : (Nat → Nat) → va_W) : Prop :=
  Met l y [.code y cy ny ret] rm (va_Pc av (Pre s0 G ws sz)) (va_Ql (fun r' (_ : Nat → Nat) => r' = r) (fun u t => Pst G ws sz (ws' u) t) (va_A ws sz)) rm.cells rm.slots (va_A ws sz)
def Kv (l : Launch) (s0 : State) (G : GT) (y : MethodName) (cy : ByteArray) (ny : Nat) (ret : Option FieldType) (rm : Room) (av : List Value) (ws : va_W) (sz : Nat) (ws' : (Nat → Nat) → va_W) : Prop :=
  Met l y [.code y cy ny ret] rm (va_Pc av (Pre s0 G ws sz)) (va_Qv (fun (_ : Nat → Nat) => True) (fun u t => Pst G ws sz (ws' u) t) (va_A ws sz)) rm.cells rm.slots (va_A ws sz)
def Kr (l : Launch) (s0 : State) (G : GT) (y : MethodName) (cy : ByteArray) (ny : Nat) (ret : Option FieldType) (rm : Room) (av : List Value) (ws : va_W) (sz : Nat) (ra : (Nat → Nat) → Nat) (ws' : (Nat → Nat) → va_W) : Prop :=
  Met l y [.code y cy ny ret] rm (va_Pc av (Pre s0 G ws sz)) (va_Qr (fun (_ : Nat → Nat) => True) (fun u a t => a = ra u ∧ Pst G ws sz (ws' u) t) (va_A ws sz)) rm.cells rm.slots (va_A ws sz)
def Kx (l : Launch) (s0 : State) (G : GT) (y : MethodName) (cy : ByteArray) (ny : Nat) (ret : Option FieldType) (rm : Room) (av : List Value) (ws : va_W) (sz : Nat) (E : String) : Prop :=
  vx_Met l y [.code y cy ny ret] rm (va_Pc av (Pre s0 G ws sz)) (fun _ _ _ _ => False) (vx_X (fun _ : Unit => True) (fun E' _ t => E' = E ∧ Pst G ws sz ws t) (va_A ws sz)) rm.cells rm.slots (va_A ws sz)
def Kh (l : Launch) (s0 : State) (G : GT) (y : MethodName) (cy : ByteArray) (ny : Nat) (ret : Option FieldType) (hh : List (Nat × Nat × Nat × Nat)) (rm : Room) (av : List Value) (ws : va_W) (sz : Nat) (r : Int32) (ws' : (Nat → Nat) → va_W) : Prop :=
  vx_Met l y [.codeWith y cy ny ret hh] rm (va_Pc av (Pre s0 G ws sz)) (va_Qi (fun r' (_ : Nat → Nat) => r' = r) (fun u t => Pst G ws sz (ws' u) t) (va_A ws sz)) (fun _ _ _ => False) rm.cells rm.slots (va_A ws sz)
section
variable {l : Launch} {s0 : State} {a0 : Array Value} {G : GT}
theorem cx_of (b0 : B0 l s0 a0 G) {y : MethodName} {S : Spec} {cy : ByteArray} {ny : Nat} {ret : Option FieldType} {p : Program} {e : Env} {s : State} {m : MethodId} {args : Array Value} {below : List Frame} {meth : Method} {c : Code} {s₁ : State}
    (B : BodyLoose p l y S cy ny ret e s m args below meth c s₁) (hml : c.maxLocals = ny) {ws : va_W} {sz : Nat} (h : Pre s0 G ws sz s) : Cx l s0 a0 G p s m args meth c y.cls cy ny y.name (va_A ws sz) ∧ Wd s G (va_A ws sz) ws s.heap [] := by
  obtain ⟨h1, h2, h3, h4, h5⟩ := h
  subst h3
  refine ⟨⟨b0, B.exec, B.bytes, hml, findClass_of_methodNamed B.named, B.notSynchronized, h1, h2, fun q hq => Or.inr hq, fun q hq => ?_, (name_of_methodNamed B.named B.method).1⟩, h4, h5.self, va_S.rf⟩
  rcases hq with ⟨k, e, hk⟩ | hq
  · exact h5.2 k _ hk
  · exact Nat.le_trans h2.1 hq
abbrev Bd (l : Launch) (s0 : State) (a0 : Array Value) (G : GT) (own nm : String) (cy : ByteArray) (ny : Nat) (ret : Option FieldType) (rm : Room) (av : List Value) (ws : va_W) (lv : List (Nat × Value)) (Qc : (Nat → Prop) → Array Value → State → Outcome → State → Prop) : Prop :=
  ∀ (p : Program) (e : Env) (s : State) (m : MethodId) (below : List Frame) (meth : Method) (c : Code) (A : Nat → Prop), Cx l s0 a0 G p s m av.toArray meth c own cy ny nm A → meth.sig.returnType = ret → ∀ (H : Heap) (locs : List Loc), Wd s G A ws H locs → ∀ ls : Array Slot, lv_has ls ny lv →
    W p l e rm s m av.toArray below meth c H locs 0 0 (MQ below (Qc A) av.toArray s rm.cells rm.slots A) (F0 m 0 ls [])
theorem bd_met (b0 : B0 l s0 a0 G) {own nm : String} {y : MethodName} {cy : ByteArray} {ny : Nat} {ret : Option FieldType} {rm : Room} {av : List Value} {ws : va_W} {sz : Nat} {lv : List (Nat × Value)} (Qc : (Nat → Prop) → Array Value → State → Outcome → State → Prop)
    (ho : y.cls = own) (hnm : y.name = nm) (hy : plainName y.cls = true) (hn : (lg_sl av).length ≤ ny) (hlv : lv_args 0 av = lv) (body : Bd l s0 a0 G own nm cy ny ret rm av ws lv Qc) : Met l y [.code y cy ny ret] rm (va_Pc av (Pre s0 G ws sz)) (Qc (va_A ws sz)) rm.cells rm.slots (va_A ws sz) := by
  refine Met.ofW (cc := cy) (maxL := ny) (ret := ret) hy rfl ?_
  intro p e s m args below meth c s₁ B hml hv
  obtain ⟨rfl, hv⟩ := hv
  obtain ⟨C, w⟩ := cx_of b0 B hml hv
  rw [ho, hnm] at C
  rw [lg_entry_eq]
  exact body p e s m below meth c _ C B.returns _ _ w _ (hlv ▸ lv_entry av hn)
theorem Ki.of (b0 : B0 l s0 a0 G) {own nm : String} {y : MethodName} {cy : ByteArray} {ny : Nat} {ret : Option FieldType} {rm : Room} {av : List Value} {ws : va_W} {sz : Nat} {r : Int32} {ws' : (Nat → Nat) → va_W} (lv : List (Nat × Value))
    (ho : y.cls = own) (hnm : y.name = nm) (hy : plainName y.cls = true) (hn : (lg_sl av).length ≤ ny) (hlv : lv_args 0 av = lv) (body : Bd l s0 a0 G own nm cy ny ret rm av ws lv (fun A => va_Qi (fun r' (_ : Nat → Nat) => r' = r) (fun u t => Pso G A (ws' u) t) A)) : Ki l s0 G y cy ny ret rm av ws sz r ws' :=
  bd_met b0 (fun A => va_Qi (fun r' (_ : Nat → Nat) => r' = r) (fun u t => Pso G A (ws' u) t) A) ho hnm hy hn hlv body
theorem Kl.of (b0 : B0 l s0 a0 G) {own nm : String} {y : MethodName} {cy : ByteArray} {ny : Nat} {ret : Option FieldType} {rm : Room} {av : List Value} {ws : va_W} {sz : Nat} {r : Int64} {ws' : (Nat → Nat) → va_W} (lv : List (Nat × Value))
    (ho : y.cls = own) (hnm : y.name = nm) (hy : plainName y.cls = true) (hn : (lg_sl av).length ≤ ny) (hlv : lv_args 0 av = lv) (body : Bd l s0 a0 G own nm cy ny ret rm av ws lv (fun A => va_Ql (fun r' (_ : Nat → Nat) => r' = r) (fun u t => Pso G A (ws' u) t) A)) : Kl l s0 G y cy ny ret rm av ws sz r ws' :=
  bd_met b0 (fun A => va_Ql (fun r' (_ : Nat → Nat) => r' = r) (fun u t => Pso G A (ws' u) t) A) ho hnm hy hn hlv body
theorem Kv.of (b0 : B0 l s0 a0 G) {own nm : String} {y : MethodName} {cy : ByteArray} {ny : Nat} {ret : Option FieldType} {rm : Room} {av : List Value} {ws : va_W} {sz : Nat} {ws' : (Nat → Nat) → va_W} (lv : List (Nat × Value))
    (ho : y.cls = own) (hnm : y.name = nm) (hy : plainName y.cls = true) (hn : (lg_sl av).length ≤ ny) (hlv : lv_args 0 av = lv) (body : Bd l s0 a0 G own nm cy ny ret rm av ws lv (fun A => va_Qv (fun (_ : Nat → Nat) => True) (fun u t => Pso G A (ws' u) t) A)) : Kv l s0 G y cy ny ret rm av ws sz ws' :=
  bd_met b0 (fun A => va_Qv (fun (_ : Nat → Nat) => True) (fun u t => Pso G A (ws' u) t) A) ho hnm hy hn hlv body
theorem Kr.of (b0 : B0 l s0 a0 G) {own nm : String} {y : MethodName} {cy : ByteArray} {ny : Nat} {ret : Option FieldType} {rm : Room} {av : List Value} {ws : va_W} {sz : Nat} {ra : (Nat → Nat) → Nat} {ws' : (Nat → Nat) → va_W} (lv : List (Nat × Value))
    (ho : y.cls = own) (hnm : y.name = nm) (hy : plainName y.cls = true) (hn : (lg_sl av).length ≤ ny) (hlv : lv_args 0 av = lv) (body : Bd l s0 a0 G own nm cy ny ret rm av ws lv (fun A => va_Qr (fun (_ : Nat → Nat) => True) (fun u a t => a = ra u ∧ Pso G A (ws' u) t) A)) : Kr l s0 G y cy ny ret rm av ws sz ra ws' :=
  bd_met b0 (fun A => va_Qr (fun (_ : Nat → Nat) => True) (fun u a t => a = ra u ∧ Pso G A (ws' u) t) A) ho hnm hy hn hlv body
/-- a body that throws -/
theorem Kx.of (b0 : B0 l s0 a0 G) {own nm : String} {y : MethodName} {cy : ByteArray} {ny : Nat} {ret : Option FieldType} {rm : Room} {av : List Value} {ws : va_W} {sz : Nat} {E : String} (lv : List (Nat × Value))
    (ho : y.cls = own) (hnm : y.name = nm) (hy : plainName y.cls = true) (hn : (lg_sl av).length ≤ ny) (hlv : lv_args 0 av = lv)
    (body : ∀ (p : Program) (e : Env) (s : State) (m : MethodId) (below : List Frame) (meth : Method) (c : Code) (A : Nat → Prop), Cx l s0 a0 G p s m av.toArray meth c own cy ny nm A → (∀ (x : ExceptionTableEntry), x ∈ c.exceptionTable.toList → False) → ∀ (H : Heap) (locs : List Loc), Wd s G A ws H locs → ∀ ls : Array Slot, lv_has ls ny lv →
      W p l e rm s m av.toArray below meth c H locs 0 0 (vx_MQ below (fun _ _ _ _ => False) (vx_X (fun _ : Unit => True) (fun E' _ t => E' = E ∧ Pso G A ws t) A) av.toArray s rm.cells rm.slots A) (F0 m 0 ls [])) : Kx l s0 G y cy ny ret rm av ws sz E := by
  refine vx_ofW (cc := cy) (maxL := ny) (ret := ret) hy rfl ?_
  intro p e s m args below meth c s₁ B hml ht hv
  obtain ⟨rfl, hv⟩ := hv
  obtain ⟨C, w⟩ := cx_of b0 B hml hv
  rw [ho, hnm] at C
  rw [lg_entry_eq]
  exact body p e s m below meth c _ C ht _ _ w _ (hlv ▸ lv_entry av hn)
/-- a body with handlers, that returns -/
theorem Kh.of (b0 : B0 l s0 a0 G) {own nm : String} {y : MethodName} {cy : ByteArray} {ny : Nat} {ret : Option FieldType} {hh : List (Nat × Nat × Nat × Nat)} {rm : Room} {av : List Value} {ws : va_W} {sz : Nat} {r : Int32} {ws' : (Nat → Nat) → va_W} (lv : List (Nat × Value))
    (ho : y.cls = own) (hnm : y.name = nm) (hy : plainName y.cls = true) (hn : (lg_sl av).length ≤ ny) (hlv : lv_args 0 av = lv)
    (body : ∀ (p : Program) (e : Env) (s : State) (m : MethodId) (below : List Frame) (meth : Method) (c : Code) (A : Nat → Prop), Cx l s0 a0 G p s m av.toArray meth c own cy ny nm A → meth.sig.returnType = ret → c.exceptionTable.toList = tableOf hh → ∀ (H : Heap) (locs : List Loc), Wd s G A ws H locs → ∀ ls : Array Slot, lv_has ls ny lv →
      W p l e rm s m av.toArray below meth c H locs 0 0 (MQ below (va_Qi (fun r' (_ : Nat → Nat) => r' = r) (fun u t => Pso G A (ws' u) t) A) av.toArray s rm.cells rm.slots A) (F0 m 0 ls [])) : Kh l s0 G y cy ny ret hh rm av ws sz r ws' := by
  refine vx_ofWH (cc := cy) (maxL := ny) (ret := ret) (hh := hh) hy rfl ?_
  intro p e s m args below meth c s₁ B hml hv
  obtain ⟨rfl, hv⟩ := hv
  have ht := vx_table (x := y) B (atoms_spec (ws := [Cond.codeWith y cy ny ret hh]) B.pre _ List.mem_cons_self)
  obtain ⟨C, w⟩ := cx_of b0 B hml hv
  rw [ho, hnm] at C
  rw [lg_entry_eq]
  exact vx_ret (body p e s m below meth c _ C B.returns ht _ _ w _ (hlv ▸ lv_entry av hn))
end
