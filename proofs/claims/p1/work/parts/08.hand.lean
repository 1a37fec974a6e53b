theorem dJ7_fill_d0a16_0 : decode cJ7_fill_d0a16 0 = .ok (.iconst 0, 1) := by decide +kernel
theorem dJ7_fill_d0a16_1 : decode cJ7_fill_d0a16 1 = .ok (.istore_n 3, 1) := by decide +kernel
theorem dJ7_fill_d0a16_2 : decode cJ7_fill_d0a16 2 = .ok (.aload_n 0, 1) := by decide +kernel
theorem dJ7_fill_d0a16_3 : decode cJ7_fill_d0a16 3 = .ok (.arraylength, 1) := by decide +kernel
theorem dJ7_fill_d0a16_4 : decode cJ7_fill_d0a16 4 = .ok (.istore 4, 2) := by decide +kernel
theorem dJ7_fill_d0a16_6 : decode cJ7_fill_d0a16 6 = .ok (.iload_n 3, 1) := by decide +kernel
theorem dJ7_fill_d0a16_7 : decode cJ7_fill_d0a16 7 = .ok (.iload 4, 2) := by decide +kernel
theorem dJ7_fill_d0a16_9 : decode cJ7_fill_d0a16 9 = .ok (.if_icmp .ge 13, 3) := by decide +kernel
theorem dJ7_fill_d0a16_12 : decode cJ7_fill_d0a16 12 = .ok (.aload_n 0, 1) := by decide +kernel
theorem dJ7_fill_d0a16_13 : decode cJ7_fill_d0a16 13 = .ok (.iload_n 3, 1) := by decide +kernel
theorem dJ7_fill_d0a16_14 : decode cJ7_fill_d0a16 14 = .ok (.lload_n 1, 1) := by decide +kernel
theorem dJ7_fill_d0a16_15 : decode cJ7_fill_d0a16 15 = .ok (.lastore, 1) := by decide +kernel
theorem dJ7_fill_d0a16_16 : decode cJ7_fill_d0a16 16 = .ok (.iinc 3 1, 3) := by decide +kernel
theorem dJ7_fill_d0a16_19 : decode cJ7_fill_d0a16 19 = .ok (.goto (-13), 3) := by decide +kernel
theorem dJ7_fill_d0a16_22 : decode cJ7_fill_d0a16 22 = .ok (.return_, 1) := by decide +kernel
theorem dJ7_fill_53178_0 : decode cJ7_fill_53178 0 = .ok (.iconst 0, 1) := by decide +kernel
theorem dJ7_fill_53178_1 : decode cJ7_fill_53178 1 = .ok (.istore_n 2, 1) := by decide +kernel
theorem dJ7_fill_53178_2 : decode cJ7_fill_53178 2 = .ok (.aload_n 0, 1) := by decide +kernel
theorem dJ7_fill_53178_3 : decode cJ7_fill_53178 3 = .ok (.arraylength, 1) := by decide +kernel
theorem dJ7_fill_53178_4 : decode cJ7_fill_53178 4 = .ok (.istore_n 3, 1) := by decide +kernel
theorem dJ7_fill_53178_5 : decode cJ7_fill_53178 5 = .ok (.iload_n 2, 1) := by decide +kernel
theorem dJ7_fill_53178_6 : decode cJ7_fill_53178 6 = .ok (.iload_n 3, 1) := by decide +kernel
theorem dJ7_fill_53178_7 : decode cJ7_fill_53178 7 = .ok (.if_icmp .ge 13, 3) := by decide +kernel
theorem dJ7_fill_53178_10 : decode cJ7_fill_53178 10 = .ok (.aload_n 0, 1) := by decide +kernel
theorem dJ7_fill_53178_11 : decode cJ7_fill_53178 11 = .ok (.iload_n 2, 1) := by decide +kernel
theorem dJ7_fill_53178_12 : decode cJ7_fill_53178 12 = .ok (.iload_n 1, 1) := by decide +kernel
theorem dJ7_fill_53178_13 : decode cJ7_fill_53178 13 = .ok (.iastore, 1) := by decide +kernel
theorem dJ7_fill_53178_14 : decode cJ7_fill_53178 14 = .ok (.iinc 2 1, 3) := by decide +kernel
theorem dJ7_fill_53178_17 : decode cJ7_fill_53178 17 = .ok (.goto (-12), 3) := by decide +kernel
theorem dJ7_fill_53178_20 : decode cJ7_fill_53178 20 = .ok (.return_, 1) := by decide +kernel
section
variable {l : Launch} {s0 : State} {a0 : Array Value} {G : GT} {p : Program} {e : Env} {R : Room} {s : State} {m : MethodId} {args : Array Value} {below : List Frame} {meth : Method} {c : Code} {cells slots : Nat} {Q : State → Prop} {own : String} {cc : ByteArray} {nL : Nat} {nm : String} {A : Nat → Prop}
/-- an array's content counts within its length alone -/
theorem at_congrI {q n : Nat} {f g : Nat → Int32} {cA : ClassId} {D : va_G} {cl : List vw_C} {H : Heap} (h : ∀ j, j < n → f j = g j) (hP : va_at D cl (q, .inl (cA, n, .inl f)) H) : va_at D cl (q, .inl (cA, n, .inl g)) H := by
  have e1 : vp_cell cA (n, .inl f) = vp_cell cA (n, .inl g) := by
    rw [vp_cell_i, vp_cell_i]
    unfold arrV
    congr 2
    funext j
    show Value.int (f j.val) = Value.int (g j.val)
    rw [h j.val j.isLt]
  show H[q]? = some (vp_cell cA (n, .inl g))
  rw [← e1]
  exact hP
theorem at_congrJ {q n : Nat} {f g : Nat → Int64} {cA : ClassId} {D : va_G} {cl : List vw_C} {H : Heap} (h : ∀ j, j < n → f j = g j) (hP : va_at D cl (q, .inl (cA, n, .inr (.inl f))) H) : va_at D cl (q, .inl (cA, n, .inr (.inl g))) H := by
  have e1 : vp_cell cA (n, .inr (.inl f)) = vp_cell cA (n, .inr (.inl g)) := by
    rw [vp_cell_l, vp_cell_l]
    unfold arrV
    congr 2
    funext j
    show Value.long (f j.val) = Value.long (g j.val)
    rw [h j.val j.isLt]
  show H[q]? = some (vp_cell cA (n, .inr (.inl g)))
  rw [← e1]
  exact hP
/-- one cell of the world in another form, at the same address -/
theorem Wd.turn {ws : va_W} {H : Heap} {locs : List Loc} {q0 a : Nat} {x y : va_E} (w : Wd s G A ws H locs) (ha : ws[q0]? = some (a, x)) (h : va_at G.1 vwCl (a, x) H → va_at G.1 vwCl (a, y) H) : Wd s G A (ws.set q0 (a, y)) H locs := by
  refine ⟨fun k z hk => ?_, w.2.1.set ha, w.2.2⟩
  by_cases hq : q0 = k
  · subst hq
    have hlt : q0 < ws.length := (List.getElem?_eq_some_iff.mp ha).1
    rw [List.getElem?_set_self hlt] at hk
    cases hk
    exact h (w.1 q0 _ ha)
  · rw [List.getElem?_set_ne hq] at hk
    exact w.1 k z hk
theorem lp_fillI {q0 n : Nat} {x0 : Int32} (hn : n < 2 ^ 31) (C : Cx l s0 a0 G p s m args meth c RJ7 cJ7_fill_53178 4 nm A)
    (hexit : ∀ (g : Nat → Int32) (H : Heap) (locs : List Loc) (ls : Array Slot), (∀ j, j < n → g j = x0) → Wd s G A [(q0, .inl (G.2.1, n, .inl g))] H locs → W p l e R s m args below meth c H locs cells slots Q (F0 m 20 ls [])) :
    ∀ (k i : Nat), i + k = n → ∀ (g : Nat → Int32) (H : Heap) (locs : List Loc) (ls : Array Slot), (∀ j, j < i → g j = x0) → Wd s G A [(q0, .inl (G.2.1, n, .inl g))] H locs → lv_has ls 4 [(2, .int (nI i)), (3, .int (nI n)), (0, .ref q0), (1, .int x0)] → W p l e R s m args below meth c H locs cells slots Q (F0 m 5 ls []) := by
  have hx := C.hx
  have hb := C.hb
  intro k
  induction k with
  | zero =>
    intro i hi g H locs ls hg w hl
    refine lv_iload_n hx hb dJ7_fill_53178_5 rfl (lv_at hl 0 rfl) ?_
    refine lv_iload_n hx hb dJ7_fill_53178_6 rfl (lv_at hl 1 rfl) ?_
    refine lv_icmp_ge (tgt := 20) hx hb dJ7_fill_53178_7 (by decide) (fun _ => ?_) (fun h => absurd (nI_le (by omega) (by omega)) h)
    exact hexit g H locs ls (fun j hj => hg j (by omega)) w
  | succ k ih =>
    intro i hi g H locs ls hg w hl
    refine lv_iload_n hx hb dJ7_fill_53178_5 rfl (lv_at hl 0 rfl) ?_
    refine lv_iload_n hx hb dJ7_fill_53178_6 rfl (lv_at hl 1 rfl) ?_
    refine lv_icmp_ge (tgt := 20) hx hb dJ7_fill_53178_7 (by decide) (fun h => absurd h (nI_ge (by omega) (by omega))) (fun _ => ?_)
    refine lv_aload_n hx hb dJ7_fill_53178_10 rfl (lv_at hl 2 rfl) ?_
    refine lv_iload_n hx hb dJ7_fill_53178_11 rfl (lv_at hl 0 rfl) ?_
    refine lv_iload_n hx hb dJ7_fill_53178_12 rfl (lv_at hl 3 rfl) ?_
    refine r_iast C w 0 rfl (IX.nat (k := i) (by omega) hn) rfl dJ7_fill_53178_13 (ws2 := [(q0, .inl (G.2.1, n, .inl (upd g i x0)))]) rfl (fun H locs w => ?_)
    refine lv_iinc (v := nI (i + 1)) (lv' := [(2, .int (nI (i + 1))), (3, .int (nI n)), (0, .ref q0), (1, .int x0)]) hx hb dJ7_fill_53178_14 hl (k := 0) rfl (nI_1 i) (by decide) rfl (fun ls hl => ?_)
    refine lv_goto (tgt := 5) hx hb dJ7_fill_53178_17 (by decide) ?_
    refine ih (i + 1) (by omega) (upd g i x0) H locs ls (fun j hj => ?_) w hl
    by_cases hj2 : j = i
    · subst hj2
      simp [upd]
    · simp [upd, hj2]
      exact hg j (by omega)
theorem k_fillI (b0 : B0 l s0 a0 G) (q0 n : Nat) (hn : n < 2 ^ 31) (f : Nat → Int32) (x0 : Int32) (sz : Nat) : Kv l s0 G yJ7_fill_53178 cJ7_fill_53178 4 none { frames := 0, cells := 0, slots := 0, locals := 0 } [.ref q0, .int x0] [(q0, .inl (G.2.1, n, .inl f))] sz (fun u => [(q0, .inl (G.2.1, n, .inl (fun _ => x0)))]) := by
  refine Kv.of b0 (own := RJ7) (nm := "fill") [(0, .ref q0), (1, .int x0)] rfl rfl (by decide +kernel) (Nat.le_of_ble_eq_true rfl) rfl ?_
  intro p e s m below meth c A C hr H locs w ls hl
  have hx := C.hx
  have hb := C.hb
  refine lv_iconst (v := 0) hx hb dJ7_fill_53178_0 (by decide) ?_
  refine lv_istore_n (lv' := [(2, .int 0), (0, .ref q0), (1, .int x0)]) hx hb dJ7_fill_53178_1 rfl hl (by decide) rfl (fun ls hl => ?_)
  refine lv_aload_n hx hb dJ7_fill_53178_2 rfl (lv_at hl 1 rfl) ?_
  refine r_alenI C w 0 rfl (v := nI n) rfl dJ7_fill_53178_3 ?_
  refine lv_istore_n (lv' := [(3, .int (nI n)), (2, .int 0), (0, .ref q0), (1, .int x0)]) hx hb dJ7_fill_53178_4 rfl hl (by decide) rfl (fun ls hl => ?_)
  refine lp_fillI hn C (fun g H locs ls hg w => ?_) n 0 (by omega) f H locs ls (fun j hj => absurd hj (Nat.not_lt_zero j)) w (lv_sub hl [1, 0, 2, 3] (by rw [nI_0]; rfl))
  have w2 := w.turn (q0 := 0) (y := .inl (G.2.1, n, .inl (fun _ => x0))) rfl (at_congrI hg)
  exact e_v C hr w2 (fun _ => 0) [0] rfl rfl dJ7_fill_53178_20 (Nat.le_refl _) (Nat.le_refl _)
theorem lp_fillJ {q0 n : Nat} {x0 : Int64} (hn : n < 2 ^ 31) (C : Cx l s0 a0 G p s m args meth c RJ7 cJ7_fill_d0a16 5 nm A)
    (hexit : ∀ (g : Nat → Int64) (H : Heap) (locs : List Loc) (ls : Array Slot), (∀ j, j < n → g j = x0) → Wd s G A [(q0, .inl (G.2.2.1, n, .inr (.inl g)))] H locs → W p l e R s m args below meth c H locs cells slots Q (F0 m 22 ls [])) :
    ∀ (k i : Nat), i + k = n → ∀ (g : Nat → Int64) (H : Heap) (locs : List Loc) (ls : Array Slot), (∀ j, j < i → g j = x0) → Wd s G A [(q0, .inl (G.2.2.1, n, .inr (.inl g)))] H locs → lv_has ls 5 [(3, .int (nI i)), (4, .int (nI n)), (0, .ref q0), (1, .long x0)] → W p l e R s m args below meth c H locs cells slots Q (F0 m 6 ls []) := by
  have hx := C.hx
  have hb := C.hb
  intro k
  induction k with
  | zero =>
    intro i hi g H locs ls hg w hl
    refine lv_iload_n hx hb dJ7_fill_d0a16_6 rfl (lv_at hl 0 rfl) ?_
    refine lv_iload hx hb dJ7_fill_d0a16_7 (lv_at hl 1 rfl) ?_
    refine lv_icmp_ge (tgt := 22) hx hb dJ7_fill_d0a16_9 (by decide) (fun _ => ?_) (fun h => absurd (nI_le (by omega) (by omega)) h)
    exact hexit g H locs ls (fun j hj => hg j (by omega)) w
  | succ k ih =>
    intro i hi g H locs ls hg w hl
    refine lv_iload_n hx hb dJ7_fill_d0a16_6 rfl (lv_at hl 0 rfl) ?_
    refine lv_iload hx hb dJ7_fill_d0a16_7 (lv_at hl 1 rfl) ?_
    refine lv_icmp_ge (tgt := 22) hx hb dJ7_fill_d0a16_9 (by decide) (fun h => absurd h (nI_ge (by omega) (by omega))) (fun _ => ?_)
    refine lv_aload_n hx hb dJ7_fill_d0a16_12 rfl (lv_at hl 2 rfl) ?_
    refine lv_iload_n hx hb dJ7_fill_d0a16_13 rfl (lv_at hl 0 rfl) ?_
    refine lv_lload_n hx hb dJ7_fill_d0a16_14 rfl (lv_at hl 3 rfl) ?_
    refine r_last C w 0 rfl (IX.nat (k := i) (by omega) hn) rfl dJ7_fill_d0a16_15 (ws2 := [(q0, .inl (G.2.2.1, n, .inr (.inl (vp_updL g i x0))))]) rfl (fun H locs w => ?_)
    refine lv_iinc (v := nI (i + 1)) (lv' := [(3, .int (nI (i + 1))), (4, .int (nI n)), (0, .ref q0), (1, .long x0)]) hx hb dJ7_fill_d0a16_16 hl (k := 0) rfl (nI_1 i) (by decide) rfl (fun ls hl => ?_)
    refine lv_goto (tgt := 6) hx hb dJ7_fill_d0a16_19 (by decide) ?_
    refine ih (i + 1) (by omega) (vp_updL g i x0) H locs ls (fun j hj => ?_) w hl
    by_cases hj2 : j = i
    · subst hj2
      simp [vp_updL]
    · simp [vp_updL, hj2]
      exact hg j (by omega)
theorem k_fillJ (b0 : B0 l s0 a0 G) (q0 n : Nat) (hn : n < 2 ^ 31) (f : Nat → Int64) (x0 : Int64) (sz : Nat) : Kv l s0 G yJ7_fill_d0a16 cJ7_fill_d0a16 5 none { frames := 0, cells := 0, slots := 0, locals := 0 } [.ref q0, .long x0] [(q0, .inl (G.2.2.1, n, .inr (.inl f)))] sz (fun u => [(q0, .inl (G.2.2.1, n, .inr (.inl (fun _ => x0))))]) := by
  refine Kv.of b0 (own := RJ7) (nm := "fill") [(0, .ref q0), (1, .long x0)] rfl rfl (by decide +kernel) (Nat.le_of_ble_eq_true rfl) rfl ?_
  intro p e s m below meth c A C hr H locs w ls hl
  have hx := C.hx
  have hb := C.hb
  refine lv_iconst (v := 0) hx hb dJ7_fill_d0a16_0 (by decide) ?_
  refine lv_istore_n (lv' := [(3, .int 0), (0, .ref q0), (1, .long x0)]) hx hb dJ7_fill_d0a16_1 rfl hl (by decide) rfl (fun ls hl => ?_)
  refine lv_aload_n hx hb dJ7_fill_d0a16_2 rfl (lv_at hl 1 rfl) ?_
  refine r_alenJ C w 0 rfl (v := nI n) rfl dJ7_fill_d0a16_3 ?_
  refine lv_istore (lv' := [(4, .int (nI n)), (3, .int 0), (0, .ref q0), (1, .long x0)]) hx hb dJ7_fill_d0a16_4 hl (by decide) rfl (fun ls hl => ?_)
  refine lp_fillJ hn C (fun g H locs ls hg w => ?_) n 0 (by omega) f H locs ls (fun j hj => absurd hj (Nat.not_lt_zero j)) w (lv_sub hl [1, 0, 2, 3] (by rw [nI_0]; rfl))
  have w2 := w.turn (q0 := 0) (y := .inl (G.2.2.1, n, .inr (.inl (fun _ => x0)))) rfl (at_congrJ hg)
  exact e_v C hr w2 (fun _ => 0) [0] rfl rfl dJ7_fill_d0a16_22 (Nat.le_refl _) (Nat.le_refl _)
/-- 'for (k = 0; k < N; k++) a[k] = c' with k in local 2 and a a field of the object in local 0 -/
theorem lp_fill {h idx N ci k qo qa o a : Nat} {nn cn : Int} {Nv cv : Int32} {fs : List Value} {f0 : Nat → Int32} {ws : va_W} {lvr : List (Nat × Value)} {H : Heap} {locs : List Loc} {ls : Array Slot} (C : Cx l s0 a0 G p s m args meth c own cc nL nm A) (w : Wd s G A ws H locs) (hl : lv_has ls nL ((2, .int 0) :: lvr)) (hN : N < 2 ^ 31) (hNv : Nv = nI N) (hnn : (Int16.ofInt nn).toInt32 = Nv) (hcv : Int32.ofInt cn = cv)
    (d0 : decode cc h = .ok (.iload_n 2, 1)) (d1 : decode cc (h + 1) = .ok (.sipush nn, 3)) (d4 : decode cc (h + 4) = .ok (.if_icmp .ge 16, 3)) (d7 : decode cc (h + 7) = .ok (.aload_n 0, 1)) (d8 : decode cc (h + 8) = .ok (.getfield idx, 3)) (d11 : decode cc (h + 11) = .ok (.iload_n 2, 1)) (d12 : decode cc (h + 12) = .ok (.iconst cn, 1)) (d13 : decode cc (h + 13) = .ok (.iastore, 1)) (d14 : decode cc (h + 14) = .ok (.iinc 2 1, 3)) (d17 : decode cc (h + 17) = .ok (.goto (-17), 3))
    (fl : FR own idx ci k) (he : ws[qo]? = some (o, .inr (ci, fs))) (hv : fs[k]? = some (.ref a)) (ha : ws[qa]? = some (a, .inl (G.2.1, N, .inl f0))) (hne : qa ≠ qo) (h0 : lvr[0]? = some (0, .ref o)) (hf : lvr.filter (fun q => !(q.1 == 2) && !(q.1 + 1 == 2 && q.2.category == 2)) = lvr) (h2 : 2 < nL)
    (kk : ∀ (H : Heap) (locs : List Loc) (ls : Array Slot), Wd s G A (ws.set qa (a, .inl (G.2.1, N, .inl (fun _ => cv)))) H locs → lv_has ls nL ((2, .int Nv) :: lvr) → W p l e R s m args below meth c H locs cells slots Q (F0 m (h + 20) ls [])) : W p l e R s m args below meth c H locs cells slots Q (F0 m h ls []) := by
  have hx := C.hx
  have hb := C.hb
  have hqa : qa < ws.length := (List.getElem?_eq_some_iff.mp ha).1
  have main : ∀ (j i : Nat), i + j = N → ∀ (g : Nat → Int32) (H : Heap) (locs : List Loc) (ls : Array Slot), (∀ z, z < i → g z = cv) → Wd s G A (ws.set qa (a, .inl (G.2.1, N, .inl g))) H locs → lv_has ls nL ((2, .int (nI i)) :: lvr) → W p l e R s m args below meth c H locs cells slots Q (F0 m h ls []) := by
    intro j
    induction j with
    | zero =>
      intro i hi g H locs ls hg w hl
      refine lv_iload_n hx hb d0 rfl (lv_at hl 0 rfl) ?_
      refine lv_sipush (v := Nv) hx hb d1 hnn ?_
      refine lv_icmp_ge (tgt := h + 20) hx hb d4 (by omega) (fun _ => ?_) (fun h9 => absurd (by rw [hNv]; exact nI_le (by omega) (by omega)) h9)
      have w2 := w.turn (q0 := qa) (y := .inl (G.2.1, N, .inl (fun _ => cv))) (List.getElem?_set_self hqa) (at_congrI (fun z hz => hg z (by omega)))
      rw [List.set_set] at w2
      refine kk H locs ls w2 ?_
      have e9 : i = N := by omega
      rw [hNv, ← e9]
      exact hl
    | succ j ih =>
      intro i hi g H locs ls hg w hl
      refine lv_iload_n hx hb d0 rfl (lv_at hl 0 rfl) ?_
      refine lv_sipush (v := Nv) hx hb d1 hnn ?_
      refine lv_icmp_ge (tgt := h + 20) hx hb d4 (by omega) (fun h9 => absurd (by rw [hNv] at h9; exact h9) (nI_ge (by omega) (by omega))) (fun _ => ?_)
      refine lv_aload_n hx hb d7 rfl (lv_at hl 1 (by simpa using h0)) ?_
      refine r_get C w qo (by rw [List.getElem?_set_ne hne]; exact he) fl hv d8 ?_
      refine lv_iload_n hx hb d11 rfl (lv_at hl 0 rfl) ?_
      refine lv_iconst (v := cv) hx hb d12 hcv ?_
      refine r_iast C w qa (List.getElem?_set_self hqa) (IX.nat (k := i) (by omega) hN) rfl d13 rfl (fun H locs w => ?_)
      rw [List.set_set] at w
      refine lv_iinc (v := nI (i + 1)) (lv' := (2, .int (nI (i + 1))) :: lvr) hx hb d14 hl (k := 0) rfl (nI_1 i) h2 (by simp; simpa using hf) (fun ls hl => ?_)
      refine lv_goto (tgt := h) hx hb d17 (by omega) ?_
      refine ih (i + 1) (by omega) (upd g i cv) H locs ls (fun z hz => ?_) w hl
      by_cases hz2 : z = i
      · subst hz2
        simp [upd]
      · simp [upd, hz2]
        exact hg z (by omega)
  refine main N 0 (by omega) f0 H locs ls (fun z hz => absurd hz (Nat.not_lt_zero z)) ?_ (by rw [nI_0]; exact hl)
  have w2 := w.turn (q0 := qa) (y := .inl (G.2.1, N, .inl f0)) ha (fun h9 => h9)
  exact w2
end
