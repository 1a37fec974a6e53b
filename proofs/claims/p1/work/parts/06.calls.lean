/-! calls and ends, over Cx and Wd -/
def rmb (rm R : Room) (ny : Nat) : Bool := decide (rm.frames + 1 ≤ R.frames) && decide (8 + (ny + 11) + rm.locals ≤ R.locals)
theorem rmb_of {rm R : Room} {ny : Nat} (h : rmb rm R ny = true) : rm.frames + 1 ≤ R.frames ∧ 8 + (ny + 11) + rm.locals ≤ R.locals := by
  simp only [rmb, Bool.and_eq_true, decide_eq_true_eq] at h
  exact h
def csb (cells slots mc ms cells2 slots2 : Nat) (R : Room) : Bool := decide (cells + mc = cells2) && (decide (slots + ms = slots2) && (decide (cells2 ≤ R.cells) && decide (slots2 ≤ R.slots)))
theorem csb_of {cells slots mc ms cells2 slots2 : Nat} {R : Room} (h : csb cells slots mc ms cells2 slots2 R = true) : cells + mc = cells2 ∧ slots + ms = slots2 ∧ cells2 ≤ R.cells ∧ slots2 ≤ R.slots := by
  simp only [csb, Bool.and_eq_true, decide_eq_true_eq] at h
  exact h
def cutb (isC isR : List Nat) : Bool := va_nd isC && (va_nd isR && isR.all (fun i => !(isC.contains i)))
theorem cutb_of {isC isR : List Nat} (h : cutb isC isR = true) : va_nd isC = true ∧ va_nd isR = true ∧ ∀ i ∈ isR, i ∉ isC := by
  simp only [cutb, Bool.and_eq_true, List.all_eq_true, Bool.not_eq_true', List.contains_eq_mem, decide_eq_false_iff_not] at h
  exact h
section
variable {l : Launch} {s0 : State} {a0 : Array Value} {G : GT} {p : Program} {e : Env} {R : Room} {s : State} {m : MethodId} {args : Array Value} {below : List Frame} {meth : Method} {c : Code} {H : Heap} {locs : List Loc} {cells slots cells2 slots2 : Nat} {Q : State → Prop} {own : String} {cc : ByteArray} {nL : Nat} {nm : String} {A : Nat → Prop} {ws wc wr : va_W} {pc : Nat} {ls : Array Slot} {rest st0 : List Value} {a : Nat}
variable {y : MethodName} {cy : ByteArray} {ny index n : Nat} {ret : Option FieldType} {rm : Room} {av As : List Value} {b : Nat} {w1 : (Nat → Nat) → va_W} {D : String} {Qc : Array Value → State → Outcome → State → Prop} {free : Addr → Prop}
theorem code_all (C : Cx l s0 a0 G p s m args meth c own cc nL nm A) (h : Cond.code y cy ny ret ∈ lw_tbl) : ∀ w ∈ [Cond.code y cy ny ret], ∀ (a' : Array Value) (U : State), s.WarmedH U.vm → w.before a' U = true := fun w hw a' U hW => by
  rw [List.mem_singleton.mp hw]
  exact word_at hW (good_of_word rfl) (C.word h rfl)
theorem sig_len {n : Nat} (h : (parseMethodDescriptor y.desc).map (fun d => d.parameters.length) = some n) : ∀ sig, parseMethodDescriptor y.desc = some sig → n = sig.parameters.length := fun sig hs => by
  rw [hs] at h
  exact (Option.some.inj h).symm
theorem callB_C (C : Cx l s0 a0 G p s m args meth c own cc nL nm A) (h1 : Cond.methodLink own index y ∈ lw_tbl) (h2 : Cond.initialized y.cls ∈ lw_tbl) (h3 : Cond.code y cy ny ret ∈ lw_tbl) (h4 : y.cls ≠ "java/lang/invoke/MethodHandle" ∧ y.cls ≠ "java/lang/invoke/VarHandle") (h5 : (parseMethodDescriptor y.desc).map (fun d => d.parameters.length) = some n) (hR : rmb rm R ny = true) :
    CallB R s args own index y cy ny ret [.code y cy ny ret] rm rm.cells rm.slots n :=
  ⟨rfl, rfl, (rmb_of hR).1, (rmb_of hR).2, code_all C h3, List.mem_cons_self, C.word h3 rfl, C.word h2 rfl, h4, sig_len h5, C.word h1 rfl⟩
theorem pre_all (C : Cx l s0 a0 G p s m args meth c own cc nL nm A) (w : Wd s G A ws H locs) (isC : List Nat) (hC : isC.map (fun i => ws[i]?) = wc.map some) (hn : va_nd isC = true) : PreS s H (va_Pc av (Pre s0 G wc H.size)) av :=
  ⟨pre_blind, fun _ hU hW => ⟨rfl, C.pre w isC hC hn hU hW⟩⟩
theorem run_V (C : Cx l s0 a0 G p s m args meth c own cc nL nm A) (w : Wd s G A ws H locs) (mv : MV own index D y cy ny ret n) (hM : Met l y [.code y cy ny ret] rm (va_Pc (.ref b :: As) (Pre s0 G wc H.size)) Qc rm.cells rm.slots free) (isC : List Nat) (hC : isC.map (fun i => ws[i]?) = wc.map some) (hn : va_nd isC = true)
    (q0 : Nat) {ci : Nat} {fs : List Value} (he : ws[q0]? = some (b, .inr (ci, fs))) (hci : (vwCl[ci]?).map (fun z => z.1) = some D) (hR : rmb rm R ny = true) (hlen : As.length = n) (hls : ls.size = nL) (hst : st0 = As.reverse ++ .ref b :: rest) (hr : (rest.map fun v => v.category).sum ≤ 8) (hdg : decode cc pc = .ok (.invokevirtual index, 3)) (hcs : csb cells slots rm.cells rm.slots cells2 slots2 R = true) :
    va_Run p l e R s m args below meth c H locs cells slots rm.cells rm.slots (F0 m pc ls st0) rest (Qc (.ref b :: As).toArray) free := by
  obtain ⟨h1, h2, h3, h4, h5, h6, h7⟩ := mv
  obtain ⟨k1, k2, k3, k4⟩ := csb_of hcs
  cases hq : vwCl[ci]? with
  | none => rw [hq] at hci; cases hci
  | some z =>
    rw [hq] at hci
    have hz : z.1 = D := Option.some.inj hci
    have hrc := va_recv C.hK w.1 hq he
    rw [hz] at hrc
    exact va_runV C.S hM ⟨callB_C C h1 h4 h5 h6 h7 hR, C.word h2 rfl, C.word h3 rfl⟩ ⟨pre_blind, hrc, (pre_all C w isC hC hn).2⟩ rfl hlen hls hst (lv_room hr) hdg ⟨by omega, by omega⟩
theorem run_S (C : Cx l s0 a0 G p s m args meth c own cc nL nm A) (w : Wd s G A ws H locs) (mv : MS own index y cy ny ret n) (hM : Met l y [.code y cy ny ret] rm (va_Pc av (Pre s0 G wc H.size)) Qc rm.cells rm.slots free) (isC : List Nat) (hC : isC.map (fun i => ws[i]?) = wc.map some) (hn : va_nd isC = true)
    (hR : rmb rm R ny = true) (hlen : av.length = n) (hls : ls.size = nL) (hst : st0 = av.reverse ++ rest) (hr : (rest.map fun v => v.category).sum ≤ 8) (hdg : decode cc pc = .ok (.invokestatic index, 3)) (hcs : csb cells slots rm.cells rm.slots cells2 slots2 R = true) :
    va_Run p l e R s m args below meth c H locs cells slots rm.cells rm.slots (F0 m pc ls st0) rest (Qc av.toArray) free := by
  obtain ⟨h1, h2, h3, h4, h5, h6⟩ := mv
  obtain ⟨k1, k2, k3, k4⟩ := csb_of hcs
  exact va_runS C.S hM ⟨callB_C C h1 h3 h4 h5 h6 hR, C.word h2 rfl⟩ (pre_all C w isC hC hn) rfl hlen hls hst (lv_room hr) hdg ⟨by omega, by omega⟩
theorem run_I (C : Cx l s0 a0 G p s m args meth c own cc nL nm A) (w : Wd s G A ws H locs) (mv : MI own index y cy ny n) (hM : Met l y [.code y cy ny none] rm (va_Pc (.ref b :: As) (Pre s0 G wc H.size)) Qc rm.cells rm.slots free) (isC : List Nat) (hC : isC.map (fun i => ws[i]?) = wc.map some) (hn : va_nd isC = true)
    (hR : rmb rm R ny = true) (hlen : As.length = n) (hls : ls.size = nL) (hst : st0 = As.reverse ++ .ref b :: rest) (hr : (rest.map fun v => v.category).sum ≤ 8) (hdg : decode cc pc = .ok (.invokespecial index, 3)) (hcs : csb cells slots rm.cells rm.slots cells2 slots2 R = true) :
    va_Run p l e R s m args below meth c H locs cells slots rm.cells rm.slots (F0 m pc ls st0) rest (Qc (.ref b :: As).toArray) free := by
  obtain ⟨h1, h2, h3, h4, h5, h6, h7⟩ := mv
  obtain ⟨k1, k2, k3, k4⟩ := csb_of hcs
  exact va_runI C.S hM ⟨callB_C C h1 h3 h4 h5 h6 hR, h7, C.word h2 rfl⟩ (pre_all C w isC hC hn) rfl hlen hls hst (lv_room hr) hdg ⟨by omega, by omega⟩
theorem run_N (C : Cx l s0 a0 G p s m args meth c own cc nL nm A) (w : Wd s G A ws H locs) {host : String} (mv : MN own index y host cy ny n) (hM : Met l y [.code y cy ny none] rm (va_Pc (.ref b :: As) (Pre s0 G wc H.size)) Qc rm.cells rm.slots free) (isC : List Nat) (hC : isC.map (fun i => ws[i]?) = wc.map some) (hn : va_nd isC = true)
    (hR : rmb rm R ny = true) (hlen : As.length = n) (hls : ls.size = nL) (hst : st0 = As.reverse ++ .ref b :: rest) (hr : (rest.map fun v => v.category).sum ≤ 8) (hdg : decode cc pc = .ok (.invokespecial index, 3)) (hcs : csb cells slots rm.cells rm.slots cells2 slots2 R = true) :
    va_Run p l e R s m args below meth c H locs cells slots rm.cells rm.slots (F0 m pc ls st0) rest (Qc (.ref b :: As).toArray) free := by
  obtain ⟨h1, h2, h3, h4, h5, h6, h7⟩ := mv
  obtain ⟨k1, k2, k3, k4⟩ := csb_of hcs
  exact va_runIN C.S hM ⟨⟨⟨rfl, rfl, (rmb_of hR).1, (rmb_of hR).2, code_all C h4, List.mem_cons_self⟩, C.word h4 rfl, C.word h3 rfl, h5, sig_len h6, va_Nw.use rfl (C.nest h1)⟩, h7, C.word h2 rfl⟩ (pre_all C w isC hC hn) rfl hlen hls hst (lv_room hr) hdg ⟨by omega, by omega⟩
/-- a call of a method that throws -/
theorem run_Vx (C : Cx l s0 a0 G p s m args meth c own cc nL nm A) (w : Wd s G A ws H locs) (mv : MV own index D y cy ny ret n) {XC : String → State → State → Prop} (hM : vx_Met l y [.code y cy ny ret] rm (va_Pc (.ref b :: As) (Pre s0 G wc H.size)) Qc XC rm.cells rm.slots free) (isC : List Nat) (hC : isC.map (fun i => ws[i]?) = wc.map some) (hn : va_nd isC = true)
    (q0 : Nat) {ci : Nat} {fs : List Value} (he : ws[q0]? = some (b, .inr (ci, fs))) (hci : (vwCl[ci]?).map (fun z => z.1) = some D) (hR : rmb rm R ny = true) (hlen : As.length = n) (hls : ls.size = nL) (hst : st0 = As.reverse ++ .ref b :: rest) (hr : (rest.map fun v => v.category).sum ≤ 8) (hdg : decode cc pc = .ok (.invokevirtual index, 3)) (hcs : csb cells slots rm.cells rm.slots cells2 slots2 R = true) :
    vx_Run p l e R s m args below meth c H locs cells slots rm.cells rm.slots (F0 m pc ls st0) rest (Qc (.ref b :: As).toArray) XC free := by
  obtain ⟨h1, h2, h3, h4, h5, h6, h7⟩ := mv
  obtain ⟨k1, k2, k3, k4⟩ := csb_of hcs
  cases hq : vwCl[ci]? with
  | none => rw [hq] at hci; cases hci
  | some z =>
    rw [hq] at hci
    have hz : z.1 = D := Option.some.inj hci
    have hrc := va_recv C.hK w.1 hq he
    rw [hz] at hrc
    exact vx_runV C.S hM ⟨callB_C C h1 h4 h5 h6 h7 hR, C.word h2 rfl, C.word h3 rfl⟩ ⟨pre_blind, hrc, (pre_all C w isC hC hn).2⟩ rfl hlen hls hst (lv_room hr) hdg ⟨by omega, by omega⟩
theorem run_Sx (C : Cx l s0 a0 G p s m args meth c own cc nL nm A) (w : Wd s G A ws H locs) (mv : MS own index y cy ny ret n) {XC : String → State → State → Prop} (hM : vx_Met l y [.code y cy ny ret] rm (va_Pc av (Pre s0 G wc H.size)) Qc XC rm.cells rm.slots free) (isC : List Nat) (hC : isC.map (fun i => ws[i]?) = wc.map some) (hn : va_nd isC = true)
    (hR : rmb rm R ny = true) (hlen : av.length = n) (hls : ls.size = nL) (hst : st0 = av.reverse ++ rest) (hr : (rest.map fun v => v.category).sum ≤ 8) (hdg : decode cc pc = .ok (.invokestatic index, 3)) (hcs : csb cells slots rm.cells rm.slots cells2 slots2 R = true) :
    vx_Run p l e R s m args below meth c H locs cells slots rm.cells rm.slots (F0 m pc ls st0) rest (Qc av.toArray) XC free := by
  obtain ⟨h1, h2, h3, h4, h5, h6⟩ := mv
  obtain ⟨k1, k2, k3, k4⟩ := csb_of hcs
  exact vx_runS C.S hM ⟨callB_C C h1 h3 h4 h5 h6 hR, C.word h2 rfl⟩ (pre_all C w isC hC hn) rfl hlen hls hst (lv_room hr) hdg ⟨by omega, by omega⟩
/-- a call of a method with handlers, that returns -/
theorem run_H (C : Cx l s0 a0 G p s m args meth c own cc nL nm A) (w : Wd s G A ws H locs) {hh : List (Nat × Nat × Nat × Nat)} (mv : MH own index y cy ny ret hh n) (hM : vx_Met l y [.codeWith y cy ny ret hh] rm (va_Pc av (Pre s0 G wc H.size)) Qc (fun _ _ _ => False) rm.cells rm.slots free) (isC : List Nat) (hC : isC.map (fun i => ws[i]?) = wc.map some) (hn : va_nd isC = true)
    (hR : rmb rm R ny = true) (hlen : av.length = n) (hls : ls.size = nL) (hst : st0 = av.reverse ++ rest) (hr : (rest.map fun v => v.category).sum ≤ 8) (hdg : decode cc pc = .ok (.invokestatic index, 3)) (hcs : csb cells slots rm.cells rm.slots cells2 slots2 R = true) :
    va_Run p l e R s m args below meth c H locs cells slots rm.cells rm.slots (F0 m pc ls st0) rest (Qc av.toArray) free := by
  obtain ⟨h1, h2, h3, h4, h5, h6⟩ := mv
  obtain ⟨k1, k2, k3, k4⟩ := csb_of hcs
  have hr9 := vx_runSX (hh := hh) C.S hM ⟨⟨rfl, rfl, (rmb_of hR).1, (rmb_of hR).2, fun w hw a' U hW => by
      rw [List.mem_singleton.mp hw]
      exact word_at hW (good_of_word rfl) (C.word h4 rfl), List.mem_cons_self⟩, C.word h4 rfl, C.word h3 rfl, h5, sig_len h6, C.word h1 rfl, C.word h2 rfl⟩ (pre_all C w isC hC hn) (g := F0 m pc ls st0) (e := e) (below := below) (meth := meth) (locs := locs) (cells := cells) (slots := slots) (rest := rest) rfl hlen hls hst (lv_room hr) hdg ⟨by omega, by omega⟩
  intro T hT X
  rcases hr9 T hT X with h | ⟨q, st₀, t, T', L, E, ce, h0, X', hL, e1, e2, hf, -⟩
  · exact h
  · exact hf.elim
theorem wd_join (C : Cx l s0 a0 G p s m args meth c own cc nL nm A) (w : Wd s G A ws H locs) (isC isR : List Nat) (hC : isC.map (fun i => ws[i]?) = wc.map some) (hR : isR.map (fun i => ws[i]?) = wr.map some) (hn : cutb isC isR = true) {w2 : va_W} {t : State} {H1 : Heap} {locs1 : List Loc} (ht : t.heap = H1) (hB : Pst G wc H.size w2 t)
    (hk : ∀ q : Nat, q < H.size → ¬ va_A wc H.size q → H1[q]? = H[q]?) (hS : va_S A s.heap H1 locs1) : Wd s G A (wr ++ w2) H1 locs1 := by
  obtain ⟨n1, n2, n3⟩ := cutb_of hn
  have hF := va_free (wc := wc) w.2.1 w.2.2 C.hA isC hC
  obtain ⟨hP1, hD1⟩ := hB
  rw [ht] at hP1
  obtain ⟨k1, k2⟩ := va_join w.1 w.2.1 isC isR hC hR n2 n3 hk hF hP1 hD1
  exact ⟨k1, k2, hS⟩
theorem fm_ok {is : List Nat} {ws : va_W} (h : is.all (fun i => decide (i < ws.length)) = true) : is.map (fun i => ws[i]?) = (is.filterMap (fun i => ws[i]?)).map some := by
  induction is with
  | nil => rfl
  | cons i t ih =>
    simp only [List.all_cons, Bool.and_eq_true, decide_eq_true_eq] at h
    simp [h.1, ih (by simpa using h.2)]
theorem fin_i {r : Int32} (C : Cx l s0 a0 G p s m args meth c own cc nL nm A) (w : Wd s G A ws H locs) {a9 : Array Value}
    (hr : va_Run p l e R s m args below meth c H locs cells slots rm.cells rm.slots (F0 m pc ls st0) rest (va_Qi (fun r' (_ : Nat → Nat) => r' = r) (fun u t => Pst G wc H.size (w1 u) t) (va_A wc H.size) a9) (va_A wc H.size)) (isC isR : List Nat) (hC : isC.map (fun i => ws[i]?) = wc.map some) (hR : isR.all (fun i => decide (i < ws.length)) = true) (hn : cutb isC isR = true) (hcs : csb cells slots rm.cells rm.slots cells2 slots2 R = true)
    (kk : ∀ (u : Nat → Nat) (H : Heap) (locs : List Loc), Wd s G A (isR.filterMap (fun i => ws[i]?) ++ w1 u) H locs → W p l e R s m args below meth c H locs cells2 slots2 Q (F0 m (pc + 3) ls (.int r :: rest))) : W p l e R s m args below meth c H locs cells slots Q (F0 m pc ls st0) := by
  obtain ⟨k1, k2, k3, k4⟩ := csb_of hcs
  subst k1
  subst k2
  have hF := va_free (wc := wc) w.2.1 w.2.2 C.hA isC hC
  refine va_calli hr w.2.2 (fun q _ h => hF q h) hF (fun r9 u t H1 locs1 ht hvm hp hB hz hk hS => ?_)
  subst hp
  exact kk u H1 locs1 (wd_join C w isC isR hC (fm_ok hR) hn ht hB hk hS)
theorem fin_l {r : Int64} (C : Cx l s0 a0 G p s m args meth c own cc nL nm A) (w : Wd s G A ws H locs) {a9 : Array Value}
    (hr : va_Run p l e R s m args below meth c H locs cells slots rm.cells rm.slots (F0 m pc ls st0) rest (va_Ql (fun r' (_ : Nat → Nat) => r' = r) (fun u t => Pst G wc H.size (w1 u) t) (va_A wc H.size) a9) (va_A wc H.size)) (isC isR : List Nat) (hC : isC.map (fun i => ws[i]?) = wc.map some) (hR : isR.all (fun i => decide (i < ws.length)) = true) (hn : cutb isC isR = true) (hcs : csb cells slots rm.cells rm.slots cells2 slots2 R = true)
    (kk : ∀ (u : Nat → Nat) (H : Heap) (locs : List Loc), Wd s G A (isR.filterMap (fun i => ws[i]?) ++ w1 u) H locs → W p l e R s m args below meth c H locs cells2 slots2 Q (F0 m (pc + 3) ls (.long r :: rest))) : W p l e R s m args below meth c H locs cells slots Q (F0 m pc ls st0) := by
  obtain ⟨k1, k2, k3, k4⟩ := csb_of hcs
  subst k1
  subst k2
  have hF := va_free (wc := wc) w.2.1 w.2.2 C.hA isC hC
  refine va_calll hr w.2.2 (fun q _ h => hF q h) hF (fun r9 u t H1 locs1 ht hvm hp hB hz hk hS => ?_)
  subst hp
  exact kk u H1 locs1 (wd_join C w isC isR hC (fm_ok hR) hn ht hB hk hS)
theorem fin_v (C : Cx l s0 a0 G p s m args meth c own cc nL nm A) (w : Wd s G A ws H locs) {a9 : Array Value}
    (hr : va_Run p l e R s m args below meth c H locs cells slots rm.cells rm.slots (F0 m pc ls st0) rest (va_Qv (fun (_ : Nat → Nat) => True) (fun u t => Pst G wc H.size (w1 u) t) (va_A wc H.size) a9) (va_A wc H.size)) (isC isR : List Nat) (hC : isC.map (fun i => ws[i]?) = wc.map some) (hR : isR.all (fun i => decide (i < ws.length)) = true) (hn : cutb isC isR = true) (hcs : csb cells slots rm.cells rm.slots cells2 slots2 R = true)
    (kk : ∀ (u : Nat → Nat) (H : Heap) (locs : List Loc), Wd s G A (isR.filterMap (fun i => ws[i]?) ++ w1 u) H locs → W p l e R s m args below meth c H locs cells2 slots2 Q (F0 m (pc + 3) ls rest)) : W p l e R s m args below meth c H locs cells slots Q (F0 m pc ls st0) := by
  obtain ⟨k1, k2, k3, k4⟩ := csb_of hcs
  subst k1
  subst k2
  have hF := va_free (wc := wc) w.2.1 w.2.2 C.hA isC hC
  exact va_callv hr w.2.2 (fun q _ h => hF q h) hF (fun u t H1 locs1 ht hvm hp hB hz hk hS => kk u H1 locs1 (wd_join C w isC isR hC (fm_ok hR) hn ht hB hk hS))
theorem fin_r {ra : (Nat → Nat) → Nat} (C : Cx l s0 a0 G p s m args meth c own cc nL nm A) (w : Wd s G A ws H locs) {a9 : Array Value}
    (hr : va_Run p l e R s m args below meth c H locs cells slots rm.cells rm.slots (F0 m pc ls st0) rest (va_Qr (fun (_ : Nat → Nat) => True) (fun u a t => a = ra u ∧ Pst G wc H.size (w1 u) t) (va_A wc H.size) a9) (va_A wc H.size)) (isC isR : List Nat) (hC : isC.map (fun i => ws[i]?) = wc.map some) (hR : isR.all (fun i => decide (i < ws.length)) = true) (hn : cutb isC isR = true) (hcs : csb cells slots rm.cells rm.slots cells2 slots2 R = true)
    (kk : ∀ (u : Nat → Nat) (H : Heap) (locs : List Loc), Wd s G A (isR.filterMap (fun i => ws[i]?) ++ w1 u) H locs → W p l e R s m args below meth c H locs cells2 slots2 Q (F0 m (pc + 3) ls (.ref (ra u) :: rest))) : W p l e R s m args below meth c H locs cells slots Q (F0 m pc ls st0) := by
  obtain ⟨k1, k2, k3, k4⟩ := csb_of hcs
  subst k1
  subst k2
  have hF := va_free (wc := wc) w.2.1 w.2.2 C.hA isC hC
  refine va_callr hr w.2.2 (fun q _ h => hF q h) hF (fun u r9 t H1 locs1 ht hvm hp hB hz hk hS => ?_)
  obtain ⟨rfl, hB⟩ := hB
  exact kk u H1 locs1 (wd_join C w isC isR hC (fm_ok hR) hn ht hB hk hS)
/-- the callee has thrown E: its cells are as they were -/
theorem fin_x {E : String} (C : Cx l s0 a0 G p s m args meth c own cc nL nm A) (w : Wd s G A ws H locs)
    (hr : vx_Run p l e R s m args below meth c H locs cells slots rm.cells rm.slots (F0 m pc ls st0) rest (fun _ _ _ => False) (vx_X (fun _ : Unit => True) (fun E' _ t => E' = E ∧ Pst G wc H.size wc t) (va_A wc H.size)) (va_A wc H.size)) (isC isR : List Nat) (hC : isC.map (fun i => ws[i]?) = wc.map some) (hR : isR.all (fun i => decide (i < ws.length)) = true) (hn : cutb isC isR = true) (hcs : csb cells slots rm.cells rm.slots cells2 slots2 R = true)
    (kk : ∀ (q : Nat) (ce : Cell) (H : Heap) (locs : List Loc), Wd s G A (isR.filterMap (fun i => ws[i]?) ++ wc) H locs → H[q]? = some ce → ce.vm = .none → s.vm.findClass E = some ce.cls → vx_W p l e R s m args below meth c H locs cells2 slots2 Q (F0 m pc ls rest) q) : W p l e R s m args below meth c H locs cells slots Q (F0 m pc ls st0) := by
  obtain ⟨k1, k2, k3, k4⟩ := csb_of hcs
  subst k1
  subst k2
  have hF := va_free (wc := wc) w.2.1 w.2.2 C.hA isC hC
  intro T hT X
  rcases hr T hT X with ⟨v, st₀, t, T', L, h0, X', hL, e1, e2, hf, st⟩ | ⟨q, st₀, t, T', L, E9, ce, h0, X', hL, e1, e2, ⟨u, hp, ⟨rfl, hB⟩, hF9⟩, hce, hcv, hcl, st⟩
  · exact hf.elim
  · obtain ⟨j1, j2, j3⟩ := vx_keep h0 e1 w.2.2 (fun q _ h => hF q h) hF hL hF9
    obtain ⟨t2, a1, b1⟩ := kk q ce T'.heap (locs ++ L) (wd_join C w isC isR hC (fm_ok hR) hn e1.symm hB j2 j3) (by rw [e1]; exact hce) hcv hcl T' rfl X'
    exact ⟨t2, st.trans a1, b1⟩
/-- .. and this method lets it go on -/
theorem r_out {E : String} {q : Nat} {ce : Cell} {ws0 : va_W} {mc ms : Nat} (C : Cx l s0 a0 G p s m args meth c own cc nL nm A) (ht : ∀ (x : ExceptionTableEntry), x ∈ c.exceptionTable.toList → False) (w : Wd s G A ws H locs) (is : List Nat) (his : is.map (fun i => ws[i]?) = ws0.map some) (hnd : va_nd is = true) (hcell : H[q]? = some ce) (hv : ce.vm = .none) (hcl : s.vm.findClass E = some ce.cls) (hc : cells ≤ mc) (hs : slots ≤ ms) :
    vx_W p l e R s m args below meth c H locs cells slots (vx_MQ below (fun _ _ _ _ => False) (vx_X (fun _ : Unit => True) (fun E' _ t => E' = E ∧ Pso G A ws0 t) A) args s mc ms A) (F0 m pc ls rest) q := by
  refine vx_out (fun x hx => (ht x hx).elim) C.locks hcell hv hcl (fun t h9 _ => ⟨(), trivial, ⟨rfl, ?_, w.2.1.sub is hnd his⟩, w.2.2.F h9⟩) w.2.2.2.2 hc hs
  rw [h9]
  intro k z hk
  have h1 : (is.map (fun i => ws[i]?))[k]? = some (some z) := by rw [his, List.getElem?_map, hk]; rfl
  rw [List.getElem?_map] at h1
  cases hi : is[k]? with
  | none => rw [hi] at h1; cases h1
  | some i => rw [hi] at h1; exact w.1 i z (Option.some.inj h1)
theorem wd_sub {ws0 : va_W} (w : Wd s G A ws H locs) (is : List Nat) (his : is.map (fun i => ws[i]?) = ws0.map some) (hnd : va_nd is = true) : va_P G.1 vwCl ws0 H ∧ va_D A ws0 := by
  refine ⟨fun k z hk => ?_, w.2.1.sub is hnd his⟩
  have h1 : (is.map (fun i => ws[i]?))[k]? = some (some z) := by rw [his, List.getElem?_map, hk]; rfl
  rw [List.getElem?_map] at h1
  cases hi : is[k]? with
  | none => rw [hi] at h1; cases h1
  | some i => rw [hi] at h1; exact w.1 i z (Option.some.inj h1)
/-- fewer cells -/
theorem Wd.cut {ws0 : va_W} (w : Wd s G A ws H locs) (is : List Nat) (his : is.map (fun i => ws[i]?) = ws0.map some) (hnd : va_nd is = true) : Wd s G A ws0 H locs := ⟨(wd_sub w is his hnd).1, (wd_sub w is his hnd).2, w.2.2⟩
/-- ends -/
theorem e_i {r : Int32} {ws' : (Nat → Nat) → va_W} {mc ms : Nat} {ty : FieldType} (C : Cx l s0 a0 G p s m args meth c own cc nL nm A) (hr : meth.sig.returnType = some ty) (w : Wd s G A ws H locs) (u : Nat → Nat) (is : List Nat) (his : is.map (fun i => ws[i]?) = (ws' u).map some) (hnd : va_nd is = true) (hn : narrow ty (.int r) = .int r) (hdg : decode cc pc = .ok (.ireturn, 1)) (hc : cells ≤ mc) (hs : slots ≤ ms) :
    W p l e R s m args below meth c H locs cells slots (MQ below (va_Qi (fun r' (_ : Nat → Nat) => r' = r) (fun u t => Pso G A (ws' u) t) A) args s mc ms A) (F0 m pc ls [.int r]) := by
  refine W.widen hc hs ?_
  obtain ⟨h1, h2⟩ := wd_sub w is his hnd
  exact W.zret C.hx C.hb hr hn (fun t ht hW => ⟨⟨r, u, rfl, rfl, by rw [← ht] at h1; exact ⟨h1, h2⟩⟩, w.2.2.F ht⟩) w.2.2.2.2 hdg C.locks
theorem e_l {r : Int64} {ws' : (Nat → Nat) → va_W} {mc ms : Nat} (C : Cx l s0 a0 G p s m args meth c own cc nL nm A) (hr : meth.sig.returnType = some .long) (w : Wd s G A ws H locs) (u : Nat → Nat) (is : List Nat) (his : is.map (fun i => ws[i]?) = (ws' u).map some) (hnd : va_nd is = true) (hdg : decode cc pc = .ok (.lreturn, 1)) (hc : cells ≤ mc) (hs : slots ≤ ms) :
    W p l e R s m args below meth c H locs cells slots (MQ below (va_Ql (fun r' (_ : Nat → Nat) => r' = r) (fun u t => Pso G A (ws' u) t) A) args s mc ms A) (F0 m pc ls [.long r]) := by
  refine W.widen hc hs ?_
  obtain ⟨h1, h2⟩ := wd_sub w is his hnd
  exact W.lret C.hx C.hb hr (fun t ht hW => ⟨⟨r, u, rfl, rfl, by rw [← ht] at h1; exact ⟨h1, h2⟩⟩, w.2.2.F ht⟩) w.2.2.2.2 hdg C.locks
theorem e_v {ws' : (Nat → Nat) → va_W} {mc ms : Nat} (C : Cx l s0 a0 G p s m args meth c own cc nL nm A) (hr : meth.sig.returnType = none) (w : Wd s G A ws H locs) (u : Nat → Nat) (is : List Nat) (his : is.map (fun i => ws[i]?) = (ws' u).map some) (hnd : va_nd is = true) (hdg : decode cc pc = .ok (.return_, 1)) (hc : cells ≤ mc) (hs : slots ≤ ms) :
    W p l e R s m args below meth c H locs cells slots (MQ below (va_Qv (fun (_ : Nat → Nat) => True) (fun u t => Pso G A (ws' u) t) A) args s mc ms A) (F0 m pc ls []) := by
  refine W.widen hc hs ?_
  obtain ⟨h1, h2⟩ := wd_sub w is his hnd
  exact W.vret C.hx C.hb hr (fun t ht hW => ⟨⟨u, rfl, trivial, by rw [← ht] at h1; exact ⟨h1, h2⟩⟩, w.2.2.F ht⟩) w.2.2.2.2 hdg C.locks
theorem e_r {ra : (Nat → Nat) → Nat} {ws' : (Nat → Nat) → va_W} {mc ms : Nat} {D9 : String} (C : Cx l s0 a0 G p s m args meth c own cc nL nm A) (hr : meth.sig.returnType = some (.object D9)) (w : Wd s G A ws H locs) (u : Nat → Nat) (is : List Nat) (his : is.map (fun i => ws[i]?) = (ws' u).map some) (hnd : va_nd is = true) (hra : ra u = a) (hdg : decode cc pc = .ok (.areturn, 1)) (hc : cells ≤ mc) (hs : slots ≤ ms) :
    W p l e R s m args below meth c H locs cells slots (MQ below (va_Qr (fun (_ : Nat → Nat) => True) (fun u a t => a = ra u ∧ Pso G A (ws' u) t) A) args s mc ms A) (F0 m pc ls [.ref a]) := by
  refine W.widen hc hs ?_
  obtain ⟨h1, h2⟩ := wd_sub w is his hnd
  exact W.aret C.hx C.hb hr (Or.inl ⟨_, rfl⟩) (Or.inr ⟨_, rfl⟩) (fun t ht hW => ⟨⟨u, a, rfl, trivial, hra.symm, by rw [← ht] at h1; exact ⟨h1, h2⟩⟩, w.2.2.F ht⟩) w.2.2.2.2 hdg C.locks
end
