/-! rows of a walk, over Cx and Wd -/
def IX (i : Int32) (k n : Nat) : Prop := ¬ i < 0 ∧ i.toNatClampNeg = k ∧ k < n
def ixb (i : Int32) (k n : Nat) : Bool := !(decide (i < 0)) && (decide (i.toNatClampNeg = k) && decide (k < n))
theorem IX.of {i : Int32} {k n : Nat} (h : ixb i k n = true) : IX i k n := by
  simp only [ixb, Bool.and_eq_true, Bool.not_eq_true', decide_eq_false_iff_not, decide_eq_true_eq] at h
  exact h
theorem IX.nat {k n : Nat} (h : k < n) (hn : n < 2 ^ 31) : IX (nI k) k n := ⟨nI_pos (by omega), nI_clamp (by omega), h⟩
theorem IX.in {i : Int32} {k n : Nat} (h : IX i k n) : vp_in i n := fun q => q.elim h.1 (fun z => by have := h.2.1; have := h.2.2; omega)
def CLs (ci : Nat) (D : String) (T : u_T) (N : Nat) (ty : Nat → FieldType) : Prop := vwCl[ci]? = some (D, T, N) ∧ (∀ w ∈ u_ws D T N, w ∈ lw_tbl) ∧ (∀ k, k < N → parseFieldDescriptor (T k).2.2.1 = some (ty k)) ∧ (∀ a, a < N → ∀ b, b < N → a ≠ b → (T a).2.1 ≠ (T b).2.1)
def FL (own : String) (index ci k : Nat) (t : FieldType) (fin : Bool) : Prop := ∃ (D : String) (T : u_T) (N : Nat) (ty : Nat → FieldType), CLs ci D T N ty ∧ k < N ∧ Cond.fieldLink own index (T k).1 (T k).2.1 (T k).2.2.1 ∈ lw_tbl ∧ parseFieldDescriptor (T k).2.2.1 = some t ∧ (T k).2.2.2 = fin ∧ (fin = true → (T k).1 = own)
def FR (own : String) (index ci k : Nat) : Prop := ∃ (D : String) (T : u_T) (N : Nat) (ty : Nat → FieldType), CLs ci D T N ty ∧ k < N ∧ Cond.fieldLink own index (T k).1 (T k).2.1 (T k).2.2.1 ∈ lw_tbl
def NO (own : String) (index ci n : Nat) (fs : List Value) : Prop := ∃ (D : String) (T : u_T) (ty : Nat → FieldType), CLs ci D T n ty ∧ Cond.classLink own index D ∈ lw_tbl ∧ Cond.instantiable D n ∈ lw_tbl ∧ Cond.initialized D ∈ lw_tbl ∧ (List.range n).map (fun j => defaultValue (ty j)) = fs
def MV (own : String) (index : Nat) (D : String) (y : MethodName) (cy : ByteArray) (ny : Nat) (ret : Option FieldType) (n : Nat) : Prop :=
  Cond.methodLink own index y ∈ lw_tbl ∧ Cond.instanceMethod y ∈ lw_tbl ∧ Cond.selects D y y ∈ lw_tbl ∧ Cond.initialized y.cls ∈ lw_tbl ∧ Cond.code y cy ny ret ∈ lw_tbl ∧ (y.cls ≠ "java/lang/invoke/MethodHandle" ∧ y.cls ≠ "java/lang/invoke/VarHandle") ∧ (parseMethodDescriptor y.desc).map (fun d => d.parameters.length) = some n
def MS (own : String) (index : Nat) (y : MethodName) (cy : ByteArray) (ny : Nat) (ret : Option FieldType) (n : Nat) : Prop :=
  Cond.methodLink own index y ∈ lw_tbl ∧ Cond.static y ∈ lw_tbl ∧ Cond.initialized y.cls ∈ lw_tbl ∧ Cond.code y cy ny ret ∈ lw_tbl ∧ (y.cls ≠ "java/lang/invoke/MethodHandle" ∧ y.cls ≠ "java/lang/invoke/VarHandle") ∧ (parseMethodDescriptor y.desc).map (fun d => d.parameters.length) = some n
def MH (own : String) (index : Nat) (y : MethodName) (cy : ByteArray) (ny : Nat) (ret : Option FieldType) (hh : List (Nat × Nat × Nat × Nat)) (n : Nat) : Prop :=
  Cond.methodLink own index y ∈ lw_tbl ∧ Cond.static y ∈ lw_tbl ∧ Cond.initialized y.cls ∈ lw_tbl ∧ Cond.codeWith y cy ny ret hh ∈ lw_tbl ∧ (y.cls ≠ "java/lang/invoke/MethodHandle" ∧ y.cls ≠ "java/lang/invoke/VarHandle") ∧ (parseMethodDescriptor y.desc).map (fun d => d.parameters.length) = some n
def MI (own : String) (index : Nat) (y : MethodName) (cy : ByteArray) (ny : Nat) (n : Nat) : Prop :=
  Cond.methodLink own index y ∈ lw_tbl ∧ Cond.instanceMethod y ∈ lw_tbl ∧ Cond.initialized y.cls ∈ lw_tbl ∧ Cond.code y cy ny none ∈ lw_tbl ∧ (y.cls ≠ "java/lang/invoke/MethodHandle" ∧ y.cls ≠ "java/lang/invoke/VarHandle") ∧ (parseMethodDescriptor y.desc).map (fun d => d.parameters.length) = some n ∧ y.name = "<init>"
def MN (own : String) (index : Nat) (y : MethodName) (host : String) (cy : ByteArray) (ny : Nat) (n : Nat) : Prop :=
  Cond.methodLinkNest own index y host ∈ lw_tbl ∧ Cond.instanceMethod y ∈ lw_tbl ∧ Cond.initialized y.cls ∈ lw_tbl ∧ Cond.code y cy ny none ∈ lw_tbl ∧ (y.cls ≠ "java/lang/invoke/MethodHandle" ∧ y.cls ≠ "java/lang/invoke/VarHandle") ∧ (parseMethodDescriptor y.desc).map (fun d => d.parameters.length) = some n ∧ y.name = "<init>"
section
variable {l : Launch} {s0 : State} {a0 : Array Value} {G : GT} {p : Program} {e : Env} {R : Room} {s : State} {m : MethodId} {args : Array Value} {below : List Frame} {meth : Method} {c : Code} {H : Heap} {locs : List Loc} {cells slots : Nat} {Q : State → Prop} {own : String} {cc : ByteArray} {nL : Nat} {nm : String} {A : Nat → Prop} {ws : va_W} {pc : Nat} {ls : Array Slot} {rest : List Value} {a : Nat}
theorem z_i {x v : Int32} (h : x = v) (k : W p l e R s m args below meth c H locs cells slots Q (F0 m pc ls (.int v :: rest))) : W p l e R s m args below meth c H locs cells slots Q (F0 m pc ls (.int x :: rest)) := h ▸ k
theorem z_l {x v : Int64} (h : x = v) (k : W p l e R s m args below meth c H locs cells slots Q (F0 m pc ls (.long v :: rest))) : W p l e R s m args below meth c H locs cells slots Q (F0 m pc ls (.long x :: rest)) := h ▸ k
theorem r_get (C : Cx l s0 a0 G p s m args meth c own cc nL nm A) (w : Wd s G A ws H locs) (q0 : Nat) {ci : Nat} {fs : List Value} (he : ws[q0]? = some (a, .inr (ci, fs))) {k index : Nat} (fl : FR own index ci k) {v : Value} (hv : fs[k]? = some v) (hdg : decode cc pc = .ok (.getfield index, 3))
    (kk : W p l e R s m args below meth c H locs cells slots Q (F0 m (pc + 3) ls (v :: rest))) : W p l e R s m args below meth c H locs cells slots Q (F0 m pc ls (.ref a :: rest)) := by
  obtain ⟨D, T, N, ty, ⟨hc, hin, hty, hnm⟩, hk, hl⟩ := fl
  exact va_get (D := G.1) (Ts := u_ws D T N) (tys := tyz G) C.hx C.hb (C.lays hin) (fun _ h => h) C.hown C.hK w.1 q0 he hc k hk (C.word hl rfl) (fun _ h9 => h9) hv hdg kk
theorem r_put (C : Cx l s0 a0 G p s m args meth c own cc nL nm A) (w : Wd s G A ws H locs) (q0 : Nat) {ci : Nat} {fs : List Value} (he : ws[q0]? = some (a, .inr (ci, fs))) {k index : Nat} {t : FieldType} (fl : FL own index ci k t false) {v : Value} (hl : k < fs.length) (hn : narrow t v = v) (hfit : fits t v = true) (hdg : decode cc pc = .ok (.putfield index, 3)) {ws2 : va_W} (hw : ws.set q0 (a, .inr (ci, fs.set k v)) = ws2)
    (kk : ∀ (H : Heap) (locs : List Loc), Wd s G A ws2 H locs → W p l e R s m args below meth c H locs cells slots Q (F0 m (pc + 3) ls rest)) : W p l e R s m args below meth c H locs cells slots Q (F0 m pc ls (v :: .ref a :: rest)) := by
  obtain ⟨D, T, N, ty, ⟨hc, hin, hty, hnm⟩, hk, hl2, hp, hf, -⟩ := fl
  subst hw
  exact va_put (D := G.1) (Ts := u_ws D T N) (tys := tyz G) C.hx C.hb (C.lays hin) (fun _ h => h) ty hty hnm C.hown C.hK w.1 w.2.1 w.2.2 q0 he hc k hk (C.word hl2 rfl) (fun _ h9 => h9) hf hp hn hfit hl hdg (fun H1 locs1 h1 h2 h3 => kk H1 locs1 ⟨h1, h2, h3⟩)
theorem r_putF (C : Cx l s0 a0 G p s m args meth c own cc nL "<init>" A) (w : Wd s G A ws H locs) (q0 : Nat) {ci : Nat} {fs : List Value} (he : ws[q0]? = some (a, .inr (ci, fs))) {k index : Nat} {t : FieldType} (fl : FL own index ci k t true) {v : Value} (hl : k < fs.length) (hn : narrow t v = v) (hfit : fits t v = true) (hdg : decode cc pc = .ok (.putfield index, 3)) {ws2 : va_W} (hw : ws.set q0 (a, .inr (ci, fs.set k v)) = ws2)
    (kk : ∀ (H : Heap) (locs : List Loc), Wd s G A ws2 H locs → W p l e R s m args below meth c H locs cells slots Q (F0 m (pc + 3) ls rest)) : W p l e R s m args below meth c H locs cells slots Q (F0 m pc ls (v :: .ref a :: rest)) := by
  obtain ⟨D, T, N, ty, ⟨hc, hin, hty, hnm⟩, hk, hl2, hp, hf, hdc⟩ := fl
  subst hw
  exact va_putF (D := G.1) (Ts := u_ws D T N) (tys := tyz G) C.hx C.hb (C.lays hin) (fun _ h => h) ty hty hnm C.hown C.hK w.1 w.2.1 w.2.2 q0 he hc k hk (C.word hl2 rfl) (fun _ h9 => h9) hf C.name (hdc rfl) hp hn hfit hl hdg (fun H1 locs1 h1 h2 h3 => kk H1 locs1 ⟨h1, h2, h3⟩)
theorem r_iald (C : Cx l s0 a0 G p s m args meth c own cc nL nm A) (w : Wd s G A ws H locs) (q0 : Nat) {n : Nat} {f : Nat → Int32} (ha : ws[q0]? = some (a, .inl (G.2.1, n, .inl f))) {i : Int32} {k : Nat} (ix : IX i k n) {v : Int32} (hv : f k = v) (hdg : decode cc pc = .ok (.iaload, 1))
    (kk : W p l e R s m args below meth c H locs cells slots Q (F0 m (pc + 1) ls (.int v :: rest))) : W p l e R s m args below meth c H locs cells slots Q (F0 m pc ls (.int i :: .ref a :: rest)) := by
  subst hv
  rw [← ix.2.1] at kk
  exact va_iald (D := G.1) (tys := tyz G) C.hx C.hb C.hK w.1 q0 0 ha rfl ix.in hdg kk
theorem r_lald (C : Cx l s0 a0 G p s m args meth c own cc nL nm A) (w : Wd s G A ws H locs) (q0 : Nat) {n : Nat} {f : Nat → Int64} (ha : ws[q0]? = some (a, .inl (G.2.2.1, n, .inr (.inl f)))) {i : Int32} {k : Nat} (ix : IX i k n) {v : Int64} (hv : f k = v) (hdg : decode cc pc = .ok (.laload, 1))
    (kk : W p l e R s m args below meth c H locs cells slots Q (F0 m (pc + 1) ls (.long v :: rest))) : W p l e R s m args below meth c H locs cells slots Q (F0 m pc ls (.int i :: .ref a :: rest)) := by
  subst hv
  rw [← ix.2.1] at kk
  exact va_lald (D := G.1) (tys := tyz G) C.hx C.hb C.hK w.1 q0 1 ha rfl ix.in hdg kk
theorem r_zald (C : Cx l s0 a0 G p s m args meth c own cc nL nm A) (w : Wd s G A ws H locs) (q0 : Nat) {n : Nat} {f : Nat → Int32} (ha : ws[q0]? = some (a, .inl (G.2.2.2.1, n, .inl f))) {i : Int32} {k : Nat} (ix : IX i k n) {v : Int32} (hv : f k = v) (hdg : decode cc pc = .ok (.baload, 1))
    (kk : W p l e R s m args below meth c H locs cells slots Q (F0 m (pc + 1) ls (.int v :: rest))) : W p l e R s m args below meth c H locs cells slots Q (F0 m pc ls (.int i :: .ref a :: rest)) := by
  subst hv
  rw [← ix.2.1] at kk
  exact va_zald (D := G.1) (tys := tyz G) C.hx C.hb C.hK w.1 q0 2 ha rfl ix.in hdg kk
theorem r_aald (C : Cx l s0 a0 G p s m args meth c own cc nL nm A) (w : Wd s G A ws H locs) (q0 : Nat) {n : Nat} {f : Nat → Option Nat} (ha : ws[q0]? = some (a, .inl (G.2.2.2.2, n, .inr (.inr (.inr (.inr f)))))) {i : Int32} {k : Nat} (ix : IX i k n) {v : Value} (hv : va_rf (f k) = v) (hdg : decode cc pc = .ok (.aaload, 1))
    (kk : W p l e R s m args below meth c H locs cells slots Q (F0 m (pc + 1) ls (v :: rest))) : W p l e R s m args below meth c H locs cells slots Q (F0 m pc ls (.int i :: .ref a :: rest)) := by
  subst hv
  rw [← ix.2.1] at kk
  exact va_aldq (D := G.1) (tys := tyz G) C.hx C.hb C.hK w.1 q0 3 ha rfl ix.in hdg kk
theorem r_iast (C : Cx l s0 a0 G p s m args meth c own cc nL nm A) (w : Wd s G A ws H locs) (q0 : Nat) {n : Nat} {f : Nat → Int32} (ha : ws[q0]? = some (a, .inl (G.2.1, n, .inl f))) {i x : Int32} {k : Nat} (ix : IX i k n) {g : Nat → Int32} (hg : upd f k x = g) (hdg : decode cc pc = .ok (.iastore, 1)) {ws2 : va_W} (hw : ws.set q0 (a, .inl (G.2.1, n, .inl g)) = ws2)
    (kk : ∀ (H : Heap) (locs : List Loc), Wd s G A ws2 H locs → W p l e R s m args below meth c H locs cells slots Q (F0 m (pc + 1) ls rest)) : W p l e R s m args below meth c H locs cells slots Q (F0 m pc ls (.int x :: .int i :: .ref a :: rest)) := by
  subst hw
  subst hg
  refine va_iast (D := G.1) (tys := tyz G) C.hx C.hb C.hK w.1 w.2.1 w.2.2 q0 0 ha rfl ix.in hdg (fun H1 locs1 h1 h2 h3 => kk H1 locs1 ?_)
  rw [ix.2.1] at h1 h2
  exact ⟨h1, h2, h3⟩
theorem r_last (C : Cx l s0 a0 G p s m args meth c own cc nL nm A) (w : Wd s G A ws H locs) (q0 : Nat) {n : Nat} {f : Nat → Int64} (ha : ws[q0]? = some (a, .inl (G.2.2.1, n, .inr (.inl f)))) {i : Int32} {x : Int64} {k : Nat} (ix : IX i k n) {g : Nat → Int64} (hg : vp_updL f k x = g) (hdg : decode cc pc = .ok (.lastore, 1)) {ws2 : va_W} (hw : ws.set q0 (a, .inl (G.2.2.1, n, .inr (.inl g))) = ws2)
    (kk : ∀ (H : Heap) (locs : List Loc), Wd s G A ws2 H locs → W p l e R s m args below meth c H locs cells slots Q (F0 m (pc + 1) ls rest)) : W p l e R s m args below meth c H locs cells slots Q (F0 m pc ls (.long x :: .int i :: .ref a :: rest)) := by
  subst hw
  subst hg
  refine va_last (D := G.1) (tys := tyz G) C.hx C.hb C.hK w.1 w.2.1 w.2.2 q0 1 ha rfl ix.in hdg (fun H1 locs1 h1 h2 h3 => kk H1 locs1 ?_)
  rw [ix.2.1] at h1 h2
  exact ⟨h1, h2, h3⟩
theorem r_zast (C : Cx l s0 a0 G p s m args meth c own cc nL nm A) (w : Wd s G A ws H locs) (q0 : Nat) {n : Nat} {f : Nat → Int32} (ha : ws[q0]? = some (a, .inl (G.2.2.2.1, n, .inl f))) {i x : Int32} {k : Nat} (ix : IX i k n) {g : Nat → Int32} (hg : upd f k (vp_nar .boolean x) = g) (hdg : decode cc pc = .ok (.bastore, 1)) {ws2 : va_W} (hw : ws.set q0 (a, .inl (G.2.2.2.1, n, .inl g)) = ws2)
    (kk : ∀ (H : Heap) (locs : List Loc), Wd s G A ws2 H locs → W p l e R s m args below meth c H locs cells slots Q (F0 m (pc + 1) ls rest)) : W p l e R s m args below meth c H locs cells slots Q (F0 m pc ls (.int x :: .int i :: .ref a :: rest)) := by
  subst hw
  subst hg
  refine va_zast (D := G.1) (tys := tyz G) C.hx C.hb C.hK w.1 w.2.1 w.2.2 q0 2 ha rfl ix.in hdg (fun H1 locs1 h1 h2 h3 => kk H1 locs1 ?_)
  rw [ix.2.1] at h1 h2
  exact ⟨h1, h2, h3⟩
theorem r_aast (C : Cx l s0 a0 G p s m args meth c own cc nL nm A) (w : Wd s G A ws H locs) (q0 qk : Nat) {n v : Nat} {vs : List Value} {f : Nat → Option Nat} (ha : ws[q0]? = some (a, .inl (G.2.2.2.2, n, .inr (.inr (.inr (.inr f)))))) (hv : ws[qk]? = some (v, .inr (5, vs))) {i : Int32} {k : Nat} (ix : IX i k n) {g : Nat → Option Nat} (hg : va_up f k (some v) = g) (hdg : decode cc pc = .ok (.aastore, 1)) {ws2 : va_W} (hw : ws.set q0 (a, .inl (G.2.2.2.2, n, .inr (.inr (.inr (.inr g))))) = ws2)
    (kk : ∀ (H : Heap) (locs : List Loc), Wd s G A ws2 H locs → W p l e R s m args below meth c H locs cells slots Q (F0 m (pc + 1) ls rest)) : W p l e R s m args below meth c H locs cells slots Q (F0 m pc ls (.ref v :: .int i :: .ref a :: rest)) := by
  subst hw
  subst hg
  refine va_astq (D := G.1) (cl := vwCl) (tys := tyz G) (r := (RX5, TX5, 4)) C.hx C.hb C.hK w.1 w.2.1 w.2.2 q0 3 qk 5 ha rfl hv rfl ix.in hdg (fun H1 locs1 h1 h2 h3 => kk H1 locs1 ?_)
  rw [ix.2.1] at h1 h2
  exact ⟨h1, h2, h3⟩
theorem r_alenI (C : Cx l s0 a0 G p s m args meth c own cc nL nm A) (w : Wd s G A ws H locs) (q0 : Nat) {n : Nat} {f : Nat → Int32} (ha : ws[q0]? = some (a, .inl (G.2.1, n, .inl f))) {v : Int32} (hv : Int32.ofNat n = v) (hdg : decode cc pc = .ok (.arraylength, 1))
    (kk : W p l e R s m args below meth c H locs cells slots Q (F0 m (pc + 1) ls (.int v :: rest))) : W p l e R s m args below meth c H locs cells slots Q (F0 m pc ls (.ref a :: rest)) :=
  va_alen (D := G.1) (tys := tyz G) C.hx C.hb C.hK w.1 q0 0 ha (ty := .int) rfl hv hdg kk
theorem r_alenJ (C : Cx l s0 a0 G p s m args meth c own cc nL nm A) (w : Wd s G A ws H locs) (q0 : Nat) {n : Nat} {f : Nat → Int64} (ha : ws[q0]? = some (a, .inl (G.2.2.1, n, .inr (.inl f)))) {v : Int32} (hv : Int32.ofNat n = v) (hdg : decode cc pc = .ok (.arraylength, 1))
    (kk : W p l e R s m args below meth c H locs cells slots Q (F0 m (pc + 1) ls (.int v :: rest))) : W p l e R s m args below meth c H locs cells slots Q (F0 m pc ls (.ref a :: rest)) :=
  va_alen (D := G.1) (tys := tyz G) C.hx C.hb C.hK w.1 q0 1 ha (ty := .long) rfl hv hdg kk
theorem tb_int : Cond.arrayClass .int ∈ lw_tbl := List.mem_of_getElem? (i := 200) (by decide +kernel)
theorem tb_long : Cond.arrayClass .long ∈ lw_tbl := List.mem_of_getElem? (i := 252) (by decide +kernel)
theorem tb_bool : Cond.arrayClass .boolean ∈ lw_tbl := List.mem_of_getElem? (i := 1909) (by decide +kernel)
theorem tb_over : Cond.arrayOver (.object "TokenHall$Stand") ∈ lw_tbl := List.mem_of_getElem? (i := 224) (by decide +kernel)
def newb (n : Int32) (N b : Nat) : Bool := !(decide (n < 0)) && (decide (n.toNatClampNeg = N) && decide (N * b ≤ 536870912))
theorem newb_of {n : Int32} {N b : Nat} (h : newb n N b = true) : ¬ n < 0 ∧ n.toNatClampNeg = N ∧ N * b ≤ 536870912 := by
  simp only [newb, Bool.and_eq_true, Bool.not_eq_true', decide_eq_false_iff_not, decide_eq_true_eq] at h
  exact h
theorem r_newI (C : Cx l s0 a0 G p s m args meth c own cc nL nm A) (w : Wd s G A ws H locs) {n : Int32} {N cells2 slots2 : Nat} (hn : newb n N 4 = true) (hcs : cells + 1 = cells2 ∧ slots + N = slots2 ∧ cells2 ≤ R.cells ∧ slots2 ≤ R.slots) (hdg : decode cc pc = .ok (.newarray .int, 2))
    (kk : ∀ (q : Nat) (H : Heap), Wd s G A (ws ++ [(q, .inl (G.2.1, N, .inl (fun _ => 0)))]) H locs → W p l e R s m args below meth c H locs cells2 slots2 Q (F0 m (pc + 2) ls (.ref q :: rest))) : W p l e R s m args below meth c H locs cells slots Q (F0 m pc ls (.int n :: rest)) := by
  obtain ⟨h1, h2, h3⟩ := newb_of hn
  obtain ⟨rfl, rfl, h5, h6⟩ := hcs
  refine va_newa (atype := .int) (D := G.1) (cl := vwCl) (tys := tyz G) (ty := .int) (a0 := (N, .inl (fun _ => 0))) C.hx C.hb (C.word tb_int rfl) rfl C.hK w.1 w.2.1 w.2.2 C.hA (fun _ => rfl) h1 h2 h3 h5 h6 hdg (fun q cA H1 k1 k2 k3 k4 => ?_)
  have e1 := (k1.2 4 _ rfl).2
  have e2 := (C.hK.2 0 _ rfl).2
  cases Option.some.inj (Eq.trans (Eq.symm e1) e2)
  exact kk q H1 ⟨k2, k3, k4⟩
theorem r_newJ (C : Cx l s0 a0 G p s m args meth c own cc nL nm A) (w : Wd s G A ws H locs) {n : Int32} {N cells2 slots2 : Nat} (hn : newb n N 8 = true) (hcs : cells + 1 = cells2 ∧ slots + N = slots2 ∧ cells2 ≤ R.cells ∧ slots2 ≤ R.slots) (hdg : decode cc pc = .ok (.newarray .long, 2))
    (kk : ∀ (q : Nat) (H : Heap), Wd s G A (ws ++ [(q, .inl (G.2.2.1, N, .inr (.inl (fun _ => 0))))]) H locs → W p l e R s m args below meth c H locs cells2 slots2 Q (F0 m (pc + 2) ls (.ref q :: rest))) : W p l e R s m args below meth c H locs cells slots Q (F0 m pc ls (.int n :: rest)) := by
  obtain ⟨h1, h2, h3⟩ := newb_of hn
  obtain ⟨rfl, rfl, h5, h6⟩ := hcs
  refine va_newa (atype := .long) (D := G.1) (cl := vwCl) (tys := tyz G) (ty := .long) (a0 := (N, .inr (.inl (fun _ => 0)))) C.hx C.hb (C.word tb_long rfl) rfl C.hK w.1 w.2.1 w.2.2 C.hA (fun _ => rfl) h1 h2 h3 h5 h6 hdg (fun q cA H1 k1 k2 k3 k4 => ?_)
  have e1 := (k1.2 4 _ rfl).2
  have e2 := (C.hK.2 1 _ rfl).2
  cases Option.some.inj (Eq.trans (Eq.symm e1) e2)
  exact kk q H1 ⟨k2, k3, k4⟩
theorem r_newZ (C : Cx l s0 a0 G p s m args meth c own cc nL nm A) (w : Wd s G A ws H locs) {n : Int32} {N cells2 slots2 : Nat} (hn : newb n N 1 = true) (hcs : cells + 1 = cells2 ∧ slots + N = slots2 ∧ cells2 ≤ R.cells ∧ slots2 ≤ R.slots) (hdg : decode cc pc = .ok (.newarray .boolean, 2))
    (kk : ∀ (q : Nat) (H : Heap), Wd s G A (ws ++ [(q, .inl (G.2.2.2.1, N, .inl (fun _ => 0)))]) H locs → W p l e R s m args below meth c H locs cells2 slots2 Q (F0 m (pc + 2) ls (.ref q :: rest))) : W p l e R s m args below meth c H locs cells slots Q (F0 m pc ls (.int n :: rest)) := by
  obtain ⟨h1, h2, h3⟩ := newb_of hn
  obtain ⟨rfl, rfl, h5, h6⟩ := hcs
  refine va_newa (atype := .boolean) (D := G.1) (cl := vwCl) (tys := tyz G) (ty := .boolean) (a0 := (N, .inl (fun _ => 0))) C.hx C.hb (C.word tb_bool rfl) rfl C.hK w.1 w.2.1 w.2.2 C.hA (fun _ => rfl) h1 h2 h3 h5 h6 hdg (fun q cA H1 k1 k2 k3 k4 => ?_)
  have e1 := (k1.2 4 _ rfl).2
  have e2 := (C.hK.2 2 _ rfl).2
  cases Option.some.inj (Eq.trans (Eq.symm e1) e2)
  exact kk q H1 ⟨k2, k3, k4⟩
theorem r_newQ (C : Cx l s0 a0 G p s m args meth c own cc nL nm A) (w : Wd s G A ws H locs) {index : Nat} (hcl : Cond.classLink own index "TokenHall$Stand" ∈ lw_tbl) {n : Int32} {N cells2 slots2 : Nat} (hn : newb n N 4 = true) (hcs : cells + 1 = cells2 ∧ slots + N = slots2 ∧ cells2 ≤ R.cells ∧ slots2 ≤ R.slots) (hdg : decode cc pc = .ok (.anewarray index, 3))
    (kk : ∀ (q : Nat) (H : Heap), Wd s G A (ws ++ [(q, .inl (G.2.2.2.2, N, .inr (.inr (.inr (.inr (fun _ => none))))))]) H locs → W p l e R s m args below meth c H locs cells2 slots2 Q (F0 m (pc + 3) ls (.ref q :: rest))) : W p l e R s m args below meth c H locs cells slots Q (F0 m pc ls (.int n :: rest)) := by
  obtain ⟨h1, h2, h3⟩ := newb_of hn
  obtain ⟨rfl, rfl, h5, h6⟩ := hcs
  refine va_newq (D := G.1) (cl := vwCl) (tys := tyz G) C.hx C.hb C.hown (C.word hcl rfl) (C.over tb_over) C.hK w.1 w.2.1 w.2.2 C.hA h1 h2 h3 h5 h6 hdg (fun q cA H1 k1 k2 k3 k4 => ?_)
  obtain ⟨_, _, -, -, -, e1⟩ := (k1.2 4 _ rfl).2
  obtain ⟨_, _, -, -, -, e2⟩ := (C.hK.2 3 _ rfl).2
  cases Option.some.inj (Eq.trans (Eq.symm e1) e2)
  exact kk q H1 ⟨k2, k3, k4⟩
theorem r_new (C : Cx l s0 a0 G p s m args meth c own cc nL nm A) (w : Wd s G A ws H locs) {index ci n cells2 slots2 : Nat} {fs : List Value} (no : NO own index ci n fs) (hcs : cells + 1 = cells2 ∧ slots + n = slots2 ∧ cells2 ≤ R.cells ∧ slots2 ≤ R.slots) (hdg : decode cc pc = .ok (.new index, 3))
    (kk : ∀ (q : Nat) (H : Heap), Wd s G A (ws ++ [(q, .inr (ci, fs))]) H locs → W p l e R s m args below meth c H locs cells2 slots2 Q (F0 m (pc + 3) ls (.ref q :: rest))) : W p l e R s m args below meth c H locs cells slots Q (F0 m pc ls rest) := by
  obtain ⟨D, T, ty, ⟨hc, hin, hty, hnm⟩, h1, h2, h3, h4⟩ := no
  obtain ⟨rfl, rfl, h5, h6⟩ := hcs
  subst h4
  refine va_new (D := G.1) (tys := tyz G) (Ts := u_ws D T n) C.hx C.hb (C.lays hin) (fun _ h => h) ty hty C.hown (C.word h1 rfl) (C.word h2 rfl) (C.word h3 rfl) C.hK w.1 w.2.1 w.2.2 C.hA hc (fun j hj => ?_) h5 h6 hdg (fun q H1 k2 k3 k4 => kk q H1 ⟨k2, k3, k4⟩)
  simp [vp_V, hj]
end
