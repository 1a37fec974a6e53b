/-! throws, catches, copies -/
def okw : Cond → Bool
  | .castable _ _ => true
  | .declares _ => true
  | w => goodWord w
def thN : List String := ["java/lang/RuntimeException", "java/lang/Exception"]
def TH (own cls text : String) (ik is ic : Nat) : Prop :=
  Bundle.fit cls = true ∧ (∀ n ∈ thN, Bundle.fit n = true) ∧ Cond.classLink own ik cls ∈ lw_tbl ∧ Cond.initialized cls ∈ lw_tbl ∧ (∀ w ∈ vx_atS own ic cls thN, w ∈ lw_tbl) ∧ ((vx_atS own ic cls thN).all okw) = true ∧ ((Cond.classLink own ik cls :: Cond.initialized cls :: vx_atS own ic cls thN).all vx_ot) = true
section
variable {l : Launch} {s0 : State} {a0 : Array Value} {G : GT} {p : Program} {e : Env} {R : Room} {s : State} {m : MethodId} {args : Array Value} {below : List Frame} {meth : Method} {c : Code} {H : Heap} {locs : List Loc} {cells slots cells2 slots2 : Nat} {Q : State → Prop} {own : String} {cc : ByteArray} {nL : Nat} {nm : String} {A : Nat → Prop} {ws wc wr : va_W} {pc : Nat} {ls : Array Slot} {rest st0 : List Value} {a : Nat}
theorem Cx.decl (C : Cx l s0 a0 G p s m args meth c own cc nL nm A) {x : MethodName} (hm : Cond.declares x ∈ lw_tbl) : (Cond.declares x).before args s = true := va_Nw.use rfl (va_Nw.warmD C.warm (va_Nw.of rfl (C.b0.2.1 _ hm)))
theorem Cx.wordx (C : Cx l s0 a0 G p s m args meth c own cc nL nm A) {w : Cond} (h : w ∈ lw_tbl) (g : okw w = true) : w.before args s = true := by
  cases w <;> first | exact C.cast h | exact C.decl h | exact C.word h g
theorem xc_thrown {cls : String} {ws0 : va_W} (w : Wd s G A ws H locs) (is : List Nat) (his : is.map (fun i => ws[i]?) = ws0.map some) (hnd : va_nd is = true) (t : State) (h1 : H.size ≤ t.heap.size) (h2 : ∀ q : Nat, q < H.size → t.heap[q]? = H[q]?) :
    vx_X (fun _ : Unit => True) (fun E' _ t => E' = cls ∧ Pso G A ws0 t) A cls s t := by
  obtain ⟨k1, k2⟩ := wd_sub w is his hnd
  refine ⟨(), trivial, ⟨rfl, k1.kept (fun k q hk => h2 q.1 (k1 k q hk).lt), k2⟩, Nat.le_trans w.2.2.1 h1, fun q hq hA => ?_⟩
  rw [h2 q (Nat.lt_of_lt_of_le hq w.2.2.1)]
  exact w.2.2.2.1 q hq hA
theorem r_throwS {cls text : String} {ik is ic mc ms : Nat} {ws0 : va_W} (C : Cx l s0 a0 G p s m args meth c own cc nL nm A) (ht : ∀ (x : ExceptionTableEntry), x ∈ c.exceptionTable.toList → False) (w : Wd s G A ws H locs) (hl : ls.size = nL) (th : TH own cls text ik is ic) (hstr : ∃ a, vk_R own is text a s0)
    (d0 : decode cc pc = .ok (.new ik, 3)) (d3 : decode cc (pc + 3) = .ok (.dup, 1)) (d4 : decode cc (pc + 4) = .ok (.ldc is, 2)) (d6 : decode cc (pc + 6) = .ok (.invokespecial ic, 3)) (d9 : decode cc (pc + 9) = .ok (.athrow, 1))
    (hR : 5 < R.frames) (hR2 : (rest.map fun v => v.category).sum + 82 ≤ R.locals) (hc : cells + 1 ≤ mc) (hs : slots + 6 ≤ ms) (hc2 : mc ≤ R.cells) (hs2 : ms ≤ R.slots) (iz : List Nat) (his : iz.map (fun i => ws[i]?) = ws0.map some) (hnd : va_nd iz = true) :
    W p l e R s m args below meth c H locs cells slots (vx_MQ below (fun _ _ _ _ => False) (vx_X (fun _ : Unit => True) (fun E' _ t => E' = cls ∧ Pso G A ws0 t) A) args s mc ms A) (F0 m pc ls rest) := by
  obtain ⟨t1, t2, t3, t4, t5, t6, t7⟩ := th
  obtain ⟨sa, hsa⟩ := hstr
  refine vx_throwS (names := thN) C.hx C.hb C.b0.1 C.hown t1 t2 (C.word t3 rfl) (C.word t4 rfl) (vk_R.warm C.warm hsa) (fun w hw => C.wordx (t5 w hw) (List.all_eq_true.mp t6 w hw)) (List.all_eq_true.mp t7) C.zU C.zN w.2.2 (by rw [C.hml]; exact hl) d0 d3 d4 d6 d9 (fun x hx => (ht x hx).elim) hR hR2 (Nat.le_trans hc hc2) (Nat.le_trans hs hs2) C.locks
    (fun t _ h1 h2 => xc_thrown w iz his hnd t h1 h2) w.2.2.2.2 hc hs
theorem r_throwSW {cls text : String} {ik is ic mc ms : Nat} {ws0 : va_W} (C : Cx l s0 a0 G p s m args meth c own cc nL nm A) (ht : ∀ (x : ExceptionTableEntry), x ∈ c.exceptionTable.toList → False) (w : Wd s G A ws H locs) (hl : ls.size = nL) (th : TH own cls text ik is ic) (hstr : ∃ a, vk_R own is text a s0)
    (d0 : decode cc pc = .ok (.new ik, 3)) (d3 : decode cc (pc + 3) = .ok (.dup, 1)) (d4 : decode cc (pc + 4) = .ok (.ldc_w is, 3)) (d7 : decode cc (pc + 7) = .ok (.invokespecial ic, 3)) (d10 : decode cc (pc + 10) = .ok (.athrow, 1))
    (hR : 5 < R.frames) (hR2 : (rest.map fun v => v.category).sum + 82 ≤ R.locals) (hc : cells + 1 ≤ mc) (hs : slots + 6 ≤ ms) (hc2 : mc ≤ R.cells) (hs2 : ms ≤ R.slots) (iz : List Nat) (his : iz.map (fun i => ws[i]?) = ws0.map some) (hnd : va_nd iz = true) :
    W p l e R s m args below meth c H locs cells slots (vx_MQ below (fun _ _ _ _ => False) (vx_X (fun _ : Unit => True) (fun E' _ t => E' = cls ∧ Pso G A ws0 t) A) args s mc ms A) (F0 m pc ls rest) := by
  obtain ⟨t1, t2, t3, t4, t5, t6, t7⟩ := th
  obtain ⟨sa, hsa⟩ := hstr
  refine vx_throwSW (names := thN) C.hx C.hb C.b0.1 C.hown t1 t2 (C.word t3 rfl) (C.word t4 rfl) (vk_R.warm C.warm hsa) (fun w hw => C.wordx (t5 w hw) (List.all_eq_true.mp t6 w hw)) (List.all_eq_true.mp t7) C.zU C.zN w.2.2 (by rw [C.hml]; exact hl) d0 d3 d4 d7 d10 (fun x hx => (ht x hx).elim) hR hR2 (Nat.le_trans hc hc2) (Nat.le_trans hs hs2) C.locks
    (fun t _ h1 h2 => xc_thrown w iz his hnd t h1 h2) w.2.2.2.2 hc hs
theorem r_catch {E : String} {q : Nat} {ce : Cell} {st en hd ct : Nat} {hh : List (Nat × Nat × Nat × Nat)} (C : Cx l s0 a0 G p s m args meth c own cc nL nm A) (ht : c.exceptionTable.toList = tableOf ((st, en, hd, ct) :: hh)) (hx : (decide (st ≤ pc) && decide (pc < en)) = true) (h0 : ct ≠ 0) (hlink : Cond.classLink own ct E ∈ lw_tbl) (hcast : Cond.castable E E ∈ lw_tbl) (hcell : H[q]? = some ce) (hv : ce.vm = .none) (hcl : s.vm.findClass E = some ce.cls)
    (kk : W p l e R s m args below meth c H locs cells slots Q (F0 m hd ls [.ref q])) : vx_W p l e R s m args below meth c H locs cells slots Q (F0 m pc ls rest) q :=
  vx_catch C.hown [] _ (tableOf hh) ht (fun z hz => nomatch hz) hx h0 (C.word hlink rfl) (C.cast hcast) hcell hv hcl kk
def cpb (sp dp n : Int32) (sp' dp' n' n0 n1 : Nat) : Bool := !(decide (sp < 0)) && (!(decide (dp < 0)) && (!(decide (n < 0)) && (decide (sp.toNatClampNeg = sp') && (decide (dp.toNatClampNeg = dp') && (decide (n.toNatClampNeg = n') && (decide (sp' + n' ≤ n0) && decide (dp' + n' ≤ n1)))))))
theorem cpb_of {sp dp n : Int32} {sp' dp' n' n0 n1 : Nat} (h : cpb sp dp n sp' dp' n' n0 n1 = true) : ¬ sp < 0 ∧ ¬ dp < 0 ∧ ¬ n < 0 ∧ sp.toNatClampNeg = sp' ∧ dp.toNatClampNeg = dp' ∧ n.toNatClampNeg = n' ∧ sp' + n' ≤ n0 ∧ dp' + n' ≤ n1 := by
  simp only [cpb, Bool.and_eq_true, Bool.not_eq_true', decide_eq_false_iff_not, decide_eq_true_eq] at h
  exact h
theorem tb_nat : Cond.native arraycopyName ∈ lw_tbl := List.mem_of_getElem? (i := 456) (by decide +kernel)
def CP (own : String) (index : Nat) : Prop := Cond.methodLink own index arraycopyName ∈ lw_tbl ∧ Cond.static arraycopyName ∈ lw_tbl ∧ Cond.initialized "java/lang/System" ∈ lw_tbl
theorem r_copyI (C : Cx l s0 a0 G p s m args meth c own cc nL nm A) (w : Wd s G A ws H locs) (q0 q1 : Nat) {index a1 n0 n1 : Nat} {f g : Nat → Int32} (ha0 : ws[q0]? = some (a1, .inl (G.2.1, n0, .inl f))) (ha1 : ws[q1]? = some (a, .inl (G.2.1, n1, .inl g))) {sp dp n : Int32} {sp' dp' n' : Nat} (hcp : cpb sp dp n sp' dp' n' n0 n1 = true) (cp : CP own index) (hls : ls.size = nL) {g2 : Nat → Int32} (hg : va_cpy f g sp' dp' n' = g2)
    (hR : 1 ≤ R.frames) (hR2 : (rest.map fun v => v.category).sum + (nativeFrameWords "java/lang/System" "arraycopy" 5 + 11) ≤ R.locals) (hdg : decode cc pc = .ok (.invokestatic index, 3)) {ws2 : va_W} (hw : ws.set q1 (a, .inl (G.2.1, n1, .inl g2)) = ws2)
    (kk : ∀ (H : Heap) (locs : List Loc), Wd s G A ws2 H locs → W p l e R s m args below meth c H locs cells slots Q (F0 m (pc + 3) ls rest)) : W p l e R s m args below meth c H locs cells slots Q (F0 m pc ls (.int n :: .int dp :: .ref a :: .int sp :: .ref a1 :: rest)) := by
  obtain ⟨h1, h2, h3, e1, e2, e3, h4, h5⟩ := cpb_of hcp
  obtain ⟨c1, c2, c3⟩ := cp
  subst hw
  subst hg
  refine va_copyi (D := G.1) (cl := vwCl) (tys := tyz G) (ty := .int) C.hx C.hb (by rw [C.hml]; exact hls.symm) C.hown (C.word c1 rfl) (C.word tb_nat rfl) (C.word c2 rfl) (C.word c3 rfl) C.hK w.1 w.2.1 w.2.2 q0 q1 0 0 ha0 ha1 rfl rfl rfl h1 h2 h3 (by rw [e1, e3]; exact h4) (by rw [e2, e3]; exact h5) (fun _ _ => rfl) hR hR2 hdg (fun H1 locs1 k1 k2 k3 => kk H1 locs1 ?_)
  rw [e1, e2, e3] at k1 k2
  exact ⟨k1, k2, k3⟩
theorem tb_oi : Cond.instanceMethod Lib.objectInit ∈ lw_tbl := List.mem_of_getElem? (i := 157) (by decide +kernel)
theorem tb_oc : Cond.code Lib.objectInit ⟨#[0xb1]⟩ 1 none ∈ lw_tbl := List.mem_of_getElem? (i := 158) (by decide +kernel)
theorem r_obj (C : Cx l s0 a0 G p s m args meth c own cc nL nm A) {index : Nat} (hlk : Cond.methodLink own index Lib.objectInit ∈ lw_tbl) (hls : ls.size = nL) (hR : 1 ≤ R.frames) (hR2 : (rest.map fun v => v.category).sum + 12 ≤ R.locals) (hdg : decode cc pc = .ok (.invokespecial index, 3))
    (kk : W p l e R s m args below meth c H locs cells slots Q (F0 m (pc + 3) ls rest)) : W p l e R s m args below meth c H locs cells slots Q (F0 m pc ls (.ref a :: rest)) := by
  refine W.objInit C.hx C.hb C.hown (C.word hlk rfl) (C.word tb_oi rfl) (C.word tb_oc rfl) rfl (by rw [C.hml]; exact hls) rfl hdg hR ?_ kk
  show 2 * 0 + _ + 12 ≤ _
  omega
end
theorem upd_c (c : Int32) (k : Nat) : upd (fun _ => c) k c = fun _ => c := by
  funext j
  simp [upd]
theorem updL_c (c : Int64) (k : Nat) : vp_updL (fun _ => c) k c = fun _ => c := by
  funext j
  simp [vp_updL]
theorem cpy_c (c : Int32) (sp dp n : Nat) : va_cpy (fun _ => c) (fun _ => c) sp dp n = fun _ => c := by
  funext j
  simp [va_cpy]
theorem cpy_0 {α : Type} (f g : Nat → α) (sp dp : Nat) : va_cpy f g sp dp 0 = g := by
  funext j
  simp only [va_cpy]
  rw [if_neg (by omega)]
theorem lcmp_self (x : Int64) : lg_cmp x x = 0 := (lg_cmp_eq x x).mpr rfl
theorem cls0 : CLs 0 RX0 TX0 6 tyX0 := ⟨rfl, by decide +kernel, tyX0_ok, nmX0⟩
theorem cls1 : CLs 1 RX1 TX1 9 tyX1 := ⟨rfl, by decide +kernel, tyX1_ok, nmX1⟩
theorem cls2 : CLs 2 RX2 TX2 17 tyX2 := ⟨rfl, by decide +kernel, tyX2_ok, nmX2⟩
theorem cls3 : CLs 3 RX3 TX3 11 tyX3 := ⟨rfl, by decide +kernel, tyX3_ok, nmX3⟩
theorem cls4 : CLs 4 RX4 TX4 5 tyX4 := ⟨rfl, by decide +kernel, tyX4_ok, nmX4⟩
theorem cls5 : CLs 5 RX5 TX5 4 tyX5 := ⟨rfl, by decide +kernel, tyX5_ok, nmX5⟩
theorem cls6 : CLs 6 RX6 TX6 20 tyX6 := ⟨rfl, by decide +kernel, tyX6_ok, nmX6⟩
theorem cls7 : CLs 7 RX7 TX7 5 tyX7 := ⟨rfl, by decide +kernel, tyX7_ok, nmX7⟩
theorem cls8 : CLs 8 RX8 TX8 5 tyX8 := ⟨rfl, by decide +kernel, tyX8_ok, nmX8⟩
theorem cls9 : CLs 9 RX9 TX9 7 tyX9 := ⟨rfl, by decide +kernel, tyX9_ok, nmX9⟩
theorem cls10 : CLs 10 RX10 TX10 7 tyX10 := ⟨rfl, by decide +kernel, tyX10_ok, nmX10⟩
theorem cls11 : CLs 11 RX11 TX11 19 tyX11 := ⟨rfl, by decide +kernel, tyX11_ok, nmX11⟩
theorem cls12 : CLs 12 RX12 TX12 60 tyX12 := ⟨rfl, by decide +kernel, tyX12_ok, nmX12⟩
