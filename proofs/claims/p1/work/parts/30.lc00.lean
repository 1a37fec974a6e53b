set_option maxRecDepth 100000 in
set_option maxHeartbeats 4000000 in
theorem lc_0_0 {l : Launch} {G : GT} {p : Program} {e : Env} {s : State} {m : MethodId} {below : List Frame} {meth : Method} {c : Code} {A : Nat → Prop} {b : Nat} {xs : Nat → Int32} (C : Cx l s #[Value.ref b] G p s m #[Value.ref b] meth c RL cL_law 8 "law" A) (hr : meth.sig.returnType = some .boolean) (hX : va_X b 6 xs s s.heap) (hbl : b < s.heap.size) (hbA : ¬ A b) (n0 n1 n2 n3 n7 n8 n12 n16 n21 n22 n37 n64 n65 n66 n67 n68 n69 n70 n71 n72 n73 n74 n75 n76 n77 n78 n79 n80 n81 n82 n83 n84 n85 n86 n87 n88 n89 n90 n91 n92 n93 n94 n95 n96 n97 n98 n99 n100 n101 n102 n103 n104 n105 n106 n107 : Nat) {H : Heap} {locs : List Loc} {ls : Array Slot} (w : Wd s G A [(n0, .inr (11, [.ref n1, .ref n2, .ref n3, .ref n7, .ref n8, .ref n12, .ref n16, .ref n21, .ref n22, .ref n37, .int 0, .int (-1), .int 0, .int 0, .null, .null, .null, .null, .null])), (n1, .inl (G.2.1, 600, .inl (fun _ => 0))), (n64, .inr (12, [.int 0, .int 0, .int 0, .int 0, .int 0, .int 0, .int 0, .int (-1), .ref n65, .ref n66, .ref n67, .int 0, .ref n68, .ref n69, .ref n70, .ref n71, .ref n72, .ref n73, .ref n74, .int 0, .ref n75, .ref n76, .ref n77, .ref n78, .ref n79, .ref n80, .ref n81, .int 0, .int (-1), .int 0, .ref n82, .ref n83, .ref n84, .ref n85, .ref n86, .ref n87, .ref n88, .ref n89, .int 0, .ref n90, .ref n91, .ref n92, .ref n93, .ref n94, .int 0, .ref n95, .ref n96, .ref n97, .ref n98, .int 0, .ref n99, .ref n100, .ref n101, .ref n102, .int 0, .int 0, .ref n103, .ref n104, .ref n105, .ref n106])), (n65, .inl (G.2.1, 600, .inl (fun _ => 0)))] H locs) (hl : lv_has ls 8 [(4, .int 0), (3, .ref n107), (2, .ref n64), (1, .ref n0), (0, .ref b)]) : W p l e room_1 s m #[Value.ref b] below meth c H locs 108 210172 (lw_Z below #[Value.ref b] s) (F0 m 252 ls []) := by
  have hx := C.hx
  have hb := C.hb
  refine lv_aload_n hx hb dL_law_252 rfl (lv_at hl 3 rfl) ?_
  refine lv_aload_n hx hb dL_law_253 rfl (lv_at hl 4 rfl) ?_
  refine lv_iload hx hb dL_law_254 (lv_at hl 0 rfl) ?_
  refine lv_iconst (v := 1) hx hb dL_law_256 (by decide) ?_
  refine lv_iadd hx hb dL_law_257 ?_
  refine z_i (v := 1) (by decide +kernel) ?_
  refine va_sld hx hb hX hbl hbA w.2.2 (i := 1) (by decide) dL_law_258 ?_
  refine z_i (v := (xs 1)) rfl ?_
  refine lv_aload_n hx hb dL_law_259 rfl (lv_at hl 4 rfl) ?_
  refine lv_iload hx hb dL_law_260 (lv_at hl 0 rfl) ?_
  refine lv_iconst (v := 2) hx hb dL_law_262 (by decide) ?_
  refine lv_iadd hx hb dL_law_263 ?_
  refine z_i (v := 2) (by decide +kernel) ?_
  refine va_sld hx hb hX hbl hbA w.2.2 (i := 2) (by decide) dL_law_264 ?_
  refine z_i (v := (xs 2)) rfl ?_
  refine lv_aload_n hx hb dL_law_265 rfl (lv_at hl 4 rfl) ?_
  refine lv_iload hx hb dL_law_266 (lv_at hl 0 rfl) ?_
  refine lv_iconst (v := 3) hx hb dL_law_268 (by decide) ?_
  refine lv_iadd hx hb dL_law_269 ?_
  refine z_i (v := 3) (by decide +kernel) ?_
  refine va_sld hx hb hX hbl hbA w.2.2 (i := 3) (by decide) dL_law_270 ?_
  refine z_i (v := (xs 3)) rfl ?_
  refine lv_aload_n hx hb dL_law_271 rfl (lv_at hl 4 rfl) ?_
  refine lv_iload hx hb dL_law_272 (lv_at hl 0 rfl) ?_
  refine lv_iconst (v := 4) hx hb dL_law_274 (by decide) ?_
  refine lv_iadd hx hb dL_law_275 ?_
  refine z_i (v := 4) (by decide +kernel) ?_
  refine va_sld hx hb hX hbl hbA w.2.2 (i := 4) (by decide) dL_law_276 ?_
  refine z_i (v := (xs 4)) rfl ?_
  refine lv_aload_n hx hb dL_law_277 rfl (lv_at hl 4 rfl) ?_
  refine lv_iload hx hb dL_law_278 (lv_at hl 0 rfl) ?_
  refine lv_iconst (v := 5) hx hb dL_law_280 (by decide) ?_
  refine lv_iadd hx hb dL_law_281 ?_
  refine z_i (v := 5) (by decide +kernel) ?_
  refine va_sld hx hb hX hbl hbA w.2.2 (i := 5) (by decide) dL_law_282 ?_
  refine z_i (v := (xs 5)) rfl ?_
  refine fin_i C w (run_V C w mv_L_139 (k13_feed C.b0 n0 n1 n2 n3 n7 n8 n12 n16 n21 n22 n37 ((xs 1)) ((xs 2)) ((xs 3)) ((xs 4)) ((xs 5)) H.size) [0, 1] rfl rfl 0 rfl rfl (by decide) rfl hl.1 rfl (Nat.le_of_ble_eq_true rfl) dL_law_283 (cells2 := 108) (slots2 := 210172) (by decide)) [0, 1] [2, 3] rfl rfl (by decide) (cells2 := 108) (slots2 := 210172) (by decide) (fun u1 H locs w => ?_)
  have w : Wd s G A [(n64, .inr (12, [.int 0, .int 0, .int 0, .int 0, .int 0, .int 0, .int 0, .int (-1), .ref n65, .ref n66, .ref n67, .int 0, .ref n68, .ref n69, .ref n70, .ref n71, .ref n72, .ref n73, .ref n74, .int 0, .ref n75, .ref n76, .ref n77, .ref n78, .ref n79, .ref n80, .ref n81, .int 0, .int (-1), .int 0, .ref n82, .ref n83, .ref n84, .ref n85, .ref n86, .ref n87, .ref n88, .ref n89, .int 0, .ref n90, .ref n91, .ref n92, .ref n93, .ref n94, .int 0, .ref n95, .ref n96, .ref n97, .ref n98, .int 0, .ref n99, .ref n100, .ref n101, .ref n102, .int 0, .int 0, .ref n103, .ref n104, .ref n105, .ref n106])), (n65, .inl (G.2.1, 600, .inl (fun _ => 0))), (n0, .inr (11, [.ref n1, .ref n2, .ref n3, .ref n7, .ref n8, .ref n12, .ref n16, .ref n21, .ref n22, .ref n37, .int 20, .int (-1), .int 0, .int 0, .null, .null, .null, .null, .null])), (n1, .inl (G.2.1, 600, .inl (upd (upd (upd (upd (upd (upd (upd (upd (upd (upd (upd (upd (upd (upd (upd (upd (upd (upd (upd (upd (fun _ => 0) 0 (((xs 1).toUInt32 >>> (Int32.toUInt32 24 &&& Int32.toUInt32 31)).toInt32 &&& 255)) 1 (((xs 1).toUInt32 >>> (Int32.toUInt32 16 &&& Int32.toUInt32 31)).toInt32 &&& 255)) 2 (((xs 1).toUInt32 >>> (Int32.toUInt32 8 &&& Int32.toUInt32 31)).toInt32 &&& 255)) 3 (((xs 1).toUInt32 >>> (Int32.toUInt32 0 &&& Int32.toUInt32 31)).toInt32 &&& 255)) 4 (((xs 2).toUInt32 >>> (Int32.toUInt32 24 &&& Int32.toUInt32 31)).toInt32 &&& 255)) 5 (((xs 2).toUInt32 >>> (Int32.toUInt32 16 &&& Int32.toUInt32 31)).toInt32 &&& 255)) 6 (((xs 2).toUInt32 >>> (Int32.toUInt32 8 &&& Int32.toUInt32 31)).toInt32 &&& 255)) 7 (((xs 2).toUInt32 >>> (Int32.toUInt32 0 &&& Int32.toUInt32 31)).toInt32 &&& 255)) 8 (((xs 3).toUInt32 >>> (Int32.toUInt32 24 &&& Int32.toUInt32 31)).toInt32 &&& 255)) 9 (((xs 3).toUInt32 >>> (Int32.toUInt32 16 &&& Int32.toUInt32 31)).toInt32 &&& 255)) 10 (((xs 3).toUInt32 >>> (Int32.toUInt32 8 &&& Int32.toUInt32 31)).toInt32 &&& 255)) 11 (((xs 3).toUInt32 >>> (Int32.toUInt32 0 &&& Int32.toUInt32 31)).toInt32 &&& 255)) 12 (((xs 4).toUInt32 >>> (Int32.toUInt32 24 &&& Int32.toUInt32 31)).toInt32 &&& 255)) 13 (((xs 4).toUInt32 >>> (Int32.toUInt32 16 &&& Int32.toUInt32 31)).toInt32 &&& 255)) 14 (((xs 4).toUInt32 >>> (Int32.toUInt32 8 &&& Int32.toUInt32 31)).toInt32 &&& 255)) 15 (((xs 4).toUInt32 >>> (Int32.toUInt32 0 &&& Int32.toUInt32 31)).toInt32 &&& 255)) 16 (((xs 5).toUInt32 >>> (Int32.toUInt32 24 &&& Int32.toUInt32 31)).toInt32 &&& 255)) 17 (((xs 5).toUInt32 >>> (Int32.toUInt32 16 &&& Int32.toUInt32 31)).toInt32 &&& 255)) 18 (((xs 5).toUInt32 >>> (Int32.toUInt32 8 &&& Int32.toUInt32 31)).toInt32 &&& 255)) 19 (((xs 5).toUInt32 >>> (Int32.toUInt32 0 &&& Int32.toUInt32 31)).toInt32 &&& 255))))] H locs := w
  refine lv_aload_n hx hb dL_law_286 rfl (lv_at hl 2 rfl) ?_
  refine lv_aload_n hx hb dL_law_287 rfl (lv_at hl 4 rfl) ?_
  refine lv_iload hx hb dL_law_288 (lv_at hl 0 rfl) ?_
  refine lv_iconst (v := 1) hx hb dL_law_290 (by decide) ?_
  refine lv_iadd hx hb dL_law_291 ?_
  refine z_i (v := 1) (by decide +kernel) ?_
  refine va_sld hx hb hX hbl hbA w.2.2 (i := 1) (by decide) dL_law_292 ?_
  refine z_i (v := (xs 1)) rfl ?_
  refine lv_aload_n hx hb dL_law_293 rfl (lv_at hl 4 rfl) ?_
  refine lv_iload hx hb dL_law_294 (lv_at hl 0 rfl) ?_
  refine lv_iconst (v := 2) hx hb dL_law_296 (by decide) ?_
  refine lv_iadd hx hb dL_law_297 ?_
  refine z_i (v := 2) (by decide +kernel) ?_
  refine va_sld hx hb hX hbl hbA w.2.2 (i := 2) (by decide) dL_law_298 ?_
  refine z_i (v := (xs 2)) rfl ?_
  refine lv_aload_n hx hb dL_law_299 rfl (lv_at hl 4 rfl) ?_
  refine lv_iload hx hb dL_law_300 (lv_at hl 0 rfl) ?_
  refine lv_iconst (v := 3) hx hb dL_law_302 (by decide) ?_
  refine lv_iadd hx hb dL_law_303 ?_
  refine z_i (v := 3) (by decide +kernel) ?_
  refine va_sld hx hb hX hbl hbA w.2.2 (i := 3) (by decide) dL_law_304 ?_
  refine z_i (v := (xs 3)) rfl ?_
  refine lv_aload_n hx hb dL_law_305 rfl (lv_at hl 4 rfl) ?_
  refine lv_iload hx hb dL_law_306 (lv_at hl 0 rfl) ?_
  refine lv_iconst (v := 4) hx hb dL_law_308 (by decide) ?_
  refine lv_iadd hx hb dL_law_309 ?_
  refine z_i (v := 4) (by decide +kernel) ?_
  refine va_sld hx hb hX hbl hbA w.2.2 (i := 4) (by decide) dL_law_310 ?_
  refine z_i (v := (xs 4)) rfl ?_
  refine lv_aload_n hx hb dL_law_311 rfl (lv_at hl 4 rfl) ?_
  refine lv_iload hx hb dL_law_312 (lv_at hl 0 rfl) ?_
  refine lv_iconst (v := 5) hx hb dL_law_314 (by decide) ?_
  refine lv_iadd hx hb dL_law_315 ?_
  refine z_i (v := 5) (by decide +kernel) ?_
  refine va_sld hx hb hX hbl hbA w.2.2 (i := 5) (by decide) dL_law_316 ?_
  refine z_i (v := (xs 5)) rfl ?_
  refine fin_i C w (run_V C w mv_L_143 (k14_feed C.b0 n64 n65 n66 n67 n68 n69 n70 n71 n72 n73 n74 n75 n76 n77 n78 n79 n80 n81 n82 n83 n84 n85 n86 n87 n88 n89 n90 n91 n92 n93 n94 n95 n96 n97 n98 n99 n100 n101 n102 n103 n104 n105 n106 ((xs 1)) ((xs 2)) ((xs 3)) ((xs 4)) ((xs 5)) H.size) [0, 1] rfl rfl 0 rfl rfl (by decide) rfl hl.1 rfl (Nat.le_of_ble_eq_true rfl) dL_law_317 (cells2 := 108) (slots2 := 210172) (by decide)) [0, 1] [2, 3] rfl rfl (by decide) (cells2 := 108) (slots2 := 210172) (by decide) (fun u2 H locs w => ?_)
  have w : Wd s G A [(n0, .inr (11, [.ref n1, .ref n2, .ref n3, .ref n7, .ref n8, .ref n12, .ref n16, .ref n21, .ref n22, .ref n37, .int 20, .int (-1), .int 0, .int 0, .null, .null, .null, .null, .null])), (n1, .inl (G.2.1, 600, .inl (upd (upd (upd (upd (upd (upd (upd (upd (upd (upd (upd (upd (upd (upd (upd (upd (upd (upd (upd (upd (fun _ => 0) 0 (((xs 1).toUInt32 >>> (Int32.toUInt32 24 &&& Int32.toUInt32 31)).toInt32 &&& 255)) 1 (((xs 1).toUInt32 >>> (Int32.toUInt32 16 &&& Int32.toUInt32 31)).toInt32 &&& 255)) 2 (((xs 1).toUInt32 >>> (Int32.toUInt32 8 &&& Int32.toUInt32 31)).toInt32 &&& 255)) 3 (((xs 1).toUInt32 >>> (Int32.toUInt32 0 &&& Int32.toUInt32 31)).toInt32 &&& 255)) 4 (((xs 2).toUInt32 >>> (Int32.toUInt32 24 &&& Int32.toUInt32 31)).toInt32 &&& 255)) 5 (((xs 2).toUInt32 >>> (Int32.toUInt32 16 &&& Int32.toUInt32 31)).toInt32 &&& 255)) 6 (((xs 2).toUInt32 >>> (Int32.toUInt32 8 &&& Int32.toUInt32 31)).toInt32 &&& 255)) 7 (((xs 2).toUInt32 >>> (Int32.toUInt32 0 &&& Int32.toUInt32 31)).toInt32 &&& 255)) 8 (((xs 3).toUInt32 >>> (Int32.toUInt32 24 &&& Int32.toUInt32 31)).toInt32 &&& 255)) 9 (((xs 3).toUInt32 >>> (Int32.toUInt32 16 &&& Int32.toUInt32 31)).toInt32 &&& 255)) 10 (((xs 3).toUInt32 >>> (Int32.toUInt32 8 &&& Int32.toUInt32 31)).toInt32 &&& 255)) 11 (((xs 3).toUInt32 >>> (Int32.toUInt32 0 &&& Int32.toUInt32 31)).toInt32 &&& 255)) 12 (((xs 4).toUInt32 >>> (Int32.toUInt32 24 &&& Int32.toUInt32 31)).toInt32 &&& 255)) 13 (((xs 4).toUInt32 >>> (Int32.toUInt32 16 &&& Int32.toUInt32 31)).toInt32 &&& 255)) 14 (((xs 4).toUInt32 >>> (Int32.toUInt32 8 &&& Int32.toUInt32 31)).toInt32 &&& 255)) 15 (((xs 4).toUInt32 >>> (Int32.toUInt32 0 &&& Int32.toUInt32 31)).toInt32 &&& 255)) 16 (((xs 5).toUInt32 >>> (Int32.toUInt32 24 &&& Int32.toUInt32 31)).toInt32 &&& 255)) 17 (((xs 5).toUInt32 >>> (Int32.toUInt32 16 &&& Int32.toUInt32 31)).toInt32 &&& 255)) 18 (((xs 5).toUInt32 >>> (Int32.toUInt32 8 &&& Int32.toUInt32 31)).toInt32 &&& 255)) 19 (((xs 5).toUInt32 >>> (Int32.toUInt32 0 &&& Int32.toUInt32 31)).toInt32 &&& 255)))), (n64, .inr (12, [.int 0, .int 20, .int 0, .int 0, .int 0, .int 0, .int 0, .int (-1), .ref n65, .ref n66, .ref n67, .int 0, .ref n68, .ref n69, .ref n70, .ref n71, .ref n72, .ref n73, .ref n74, .int 0, .ref n75, .ref n76, .ref n77, .ref n78, .ref n79, .ref n80, .ref n81, .int 0, .int (-1), .int 0, .ref n82, .ref n83, .ref n84, .ref n85, .ref n86, .ref n87, .ref n88, .ref n89, .int 0, .ref n90, .ref n91, .ref n92, .ref n93, .ref n94, .int 0, .ref n95, .ref n96, .ref n97, .ref n98, .int 0, .ref n99, .ref n100, .ref n101, .ref n102, .int 0, .int 0, .ref n103, .ref n104, .ref n105, .ref n106])), (n65, .inl (G.2.1, 600, .inl (upd (upd (upd (upd (upd (upd (upd (upd (upd (upd (upd (upd (upd (upd (upd (upd (upd (upd (upd (upd (fun _ => 0) 0 (((xs 1) >>> (24 &&& 31)) &&& 255)) 1 (((xs 1) >>> (16 &&& 31)) &&& 255)) 2 (((xs 1) >>> (8 &&& 31)) &&& 255)) 3 (((xs 1) >>> (0 &&& 31)) &&& 255)) 4 (((xs 2) >>> (24 &&& 31)) &&& 255)) 5 (((xs 2) >>> (16 &&& 31)) &&& 255)) 6 (((xs 2) >>> (8 &&& 31)) &&& 255)) 7 (((xs 2) >>> (0 &&& 31)) &&& 255)) 8 (((xs 3) >>> (24 &&& 31)) &&& 255)) 9 (((xs 3) >>> (16 &&& 31)) &&& 255)) 10 (((xs 3) >>> (8 &&& 31)) &&& 255)) 11 (((xs 3) >>> (0 &&& 31)) &&& 255)) 12 (((xs 4) >>> (24 &&& 31)) &&& 255)) 13 (((xs 4) >>> (16 &&& 31)) &&& 255)) 14 (((xs 4) >>> (8 &&& 31)) &&& 255)) 15 (((xs 4) >>> (0 &&& 31)) &&& 255)) 16 (((xs 5) >>> (24 &&& 31)) &&& 255)) 17 (((xs 5) >>> (16 &&& 31)) &&& 255)) 18 (((xs 5) >>> (8 &&& 31)) &&& 255)) 19 (((xs 5) >>> (0 &&& 31)) &&& 255))))] H locs := w
  refine lv_icmp_eq (tgt := 3027) hx hb dL_law_320 (by decide) (fun _ => ?_) (fun h => absurd (by decide) h)
  exact lc_end C hr hX hbl hbA w (lv_sub hl [0, 4] rfl) (by decide) (by decide)
set_option maxRecDepth 100000 in
set_option maxHeartbeats 4000000 in
theorem lc_1_0 {l : Launch} {G : GT} {p : Program} {e : Env} {s : State} {m : MethodId} {below : List Frame} {meth : Method} {c : Code} {A : Nat → Prop} {b : Nat} {xs : Nat → Int32} (C : Cx l s #[Value.ref b] G p s m #[Value.ref b] meth c RL cL_law 8 "law" A) (hr : meth.sig.returnType = some .boolean) (hX : va_X b 6 xs s s.heap) (hbl : b < s.heap.size) (hbA : ¬ A b) (n0 n1 n2 n3 n7 n8 n12 n16 n21 n22 n37 n64 n65 n66 n67 n68 n69 n70 n71 n72 n73 n74 n75 n76 n77 n78 n79 n80 n81 n82 n83 n84 n85 n86 n87 n88 n89 n90 n91 n92 n93 n94 n95 n96 n97 n98 n99 n100 n101 n102 n103 n104 n105 n106 n107 : Nat) (g0 : (xs 1) < 0) {H : Heap} {locs : List Loc} {ls : Array Slot} (w : Wd s G A [(n0, .inr (11, [.ref n1, .ref n2, .ref n3, .ref n7, .ref n8, .ref n12, .ref n16, .ref n21, .ref n22, .ref n37, .int 0, .int (-1), .int 0, .int 0, .null, .null, .null, .null, .null])), (n64, .inr (12, [.int 0, .int 0, .int 0, .int 0, .int 0, .int 0, .int 0, .int (-1), .ref n65, .ref n66, .ref n67, .int 0, .ref n68, .ref n69, .ref n70, .ref n71, .ref n72, .ref n73, .ref n74, .int 0, .ref n75, .ref n76, .ref n77, .ref n78, .ref n79, .ref n80, .ref n81, .int 0, .int (-1), .int 0, .ref n82, .ref n83, .ref n84, .ref n85, .ref n86, .ref n87, .ref n88, .ref n89, .int 0, .ref n90, .ref n91, .ref n92, .ref n93, .ref n94, .int 0, .ref n95, .ref n96, .ref n97, .ref n98, .int 0, .ref n99, .ref n100, .ref n101, .ref n102, .int 0, .int 0, .ref n103, .ref n104, .ref n105, .ref n106]))] H locs) (hl : lv_has ls 8 [(4, .int 0), (3, .ref n107), (2, .ref n64), (1, .ref n0), (0, .ref b)]) : W p l e room_1 s m #[Value.ref b] below meth c H locs 108 210172 (lw_Z below #[Value.ref b] s) (F0 m 325 ls []) := by
  have hx := C.hx
  have hb := C.hb
  refine lv_aload_n hx hb dL_law_325 rfl (lv_at hl 3 rfl) ?_
  refine lv_aload_n hx hb dL_law_326 rfl (lv_at hl 4 rfl) ?_
  refine lv_iload hx hb dL_law_327 (lv_at hl 0 rfl) ?_
  refine lv_iconst (v := 1) hx hb dL_law_329 (by decide) ?_
  refine lv_iadd hx hb dL_law_330 ?_
  refine z_i (v := 1) (by decide +kernel) ?_
  refine va_sld hx hb hX hbl hbA w.2.2 (i := 1) (by decide) dL_law_331 ?_
  refine z_i (v := (xs 1)) rfl ?_
  refine lv_aload_n hx hb dL_law_332 rfl (lv_at hl 1 rfl) ?_
  refine fin_i C w (run_H C w mh_L_144 (k17_net C.b0 n0 n107 n1 n2 n3 n7 n8 n12 n16 n21 n22 n37 ((xs 1)) g0 H.size) [0] rfl rfl (by decide) rfl hl.1 rfl (Nat.le_of_ble_eq_true rfl) dL_law_333 (cells2 := 109) (slots2 := 210178) (by decide)) [0] [1] rfl rfl (by decide) (cells2 := 109) (slots2 := 210178) (by decide) (fun u1 H locs w => ?_)
  have w : Wd s G A [(n64, .inr (12, [.int 0, .int 0, .int 0, .int 0, .int 0, .int 0, .int 0, .int (-1), .ref n65, .ref n66, .ref n67, .int 0, .ref n68, .ref n69, .ref n70, .ref n71, .ref n72, .ref n73, .ref n74, .int 0, .ref n75, .ref n76, .ref n77, .ref n78, .ref n79, .ref n80, .ref n81, .int 0, .int (-1), .int 0, .ref n82, .ref n83, .ref n84, .ref n85, .ref n86, .ref n87, .ref n88, .ref n89, .int 0, .ref n90, .ref n91, .ref n92, .ref n93, .ref n94, .int 0, .ref n95, .ref n96, .ref n97, .ref n98, .int 0, .ref n99, .ref n100, .ref n101, .ref n102, .int 0, .int 0, .ref n103, .ref n104, .ref n105, .ref n106])), (n0, .inr (11, [.ref n1, .ref n2, .ref n3, .ref n7, .ref n8, .ref n12, .ref n16, .ref n21, .ref n22, .ref n37, .int 0, .int (-1), .int 0, .int 0, .null, .null, .null, .null, .null]))] H locs := w
  refine lv_istore (lv' := [(5, .int 1), (4, .int 0), (3, .ref n107), (2, .ref n64), (1, .ref n0), (0, .ref b)]) hx hb dL_law_336 hl (by decide) rfl (fun ls hl => ?_)
  refine lv_aload_n hx hb dL_law_338 rfl (lv_at hl 3 rfl) ?_
  refine lv_aload_n hx hb dL_law_339 rfl (lv_at hl 5 rfl) ?_
  refine lv_iload hx hb dL_law_340 (lv_at hl 1 rfl) ?_
  refine lv_iconst (v := 1) hx hb dL_law_342 (by decide) ?_
  refine lv_iadd hx hb dL_law_343 ?_
  refine z_i (v := 1) (by decide +kernel) ?_
  refine va_sld hx hb hX hbl hbA w.2.2 (i := 1) (by decide) dL_law_344 ?_
  refine z_i (v := (xs 1)) rfl ?_
  refine fin_i C w (run_V C w mv_L_149 (k19_net C.b0 n64 n65 n66 n67 n68 n69 n70 n71 n72 n73 n74 n75 n76 n77 n78 n79 n80 n81 n82 n83 n84 n85 n86 n87 n88 n89 n90 n91 n92 n93 n94 n95 n96 n97 n98 n99 n100 n101 n102 n103 n104 n105 n106 ((xs 1)) g0 H.size) [0] rfl rfl 0 rfl rfl (by decide) rfl hl.1 rfl (Nat.le_of_ble_eq_true rfl) dL_law_345 (cells2 := 109) (slots2 := 210178) (by decide)) [0] [1] rfl rfl (by decide) (cells2 := 109) (slots2 := 210178) (by decide) (fun u2 H locs w => ?_)
  have w : Wd s G A [(n0, .inr (11, [.ref n1, .ref n2, .ref n3, .ref n7, .ref n8, .ref n12, .ref n16, .ref n21, .ref n22, .ref n37, .int 0, .int (-1), .int 0, .int 0, .null, .null, .null, .null, .null])), (n64, .inr (12, [.int 1, .int 0, .int 0, .int 0, .int 0, .int 0, .int 0, .int (-1), .ref n65, .ref n66, .ref n67, .int 0, .ref n68, .ref n69, .ref n70, .ref n71, .ref n72, .ref n73, .ref n74, .int 0, .ref n75, .ref n76, .ref n77, .ref n78, .ref n79, .ref n80, .ref n81, .int 0, .int (-1), .int 0, .ref n82, .ref n83, .ref n84, .ref n85, .ref n86, .ref n87, .ref n88, .ref n89, .int 0, .ref n90, .ref n91, .ref n92, .ref n93, .ref n94, .int 0, .ref n95, .ref n96, .ref n97, .ref n98, .int 0, .ref n99, .ref n100, .ref n101, .ref n102, .int 0, .int 0, .ref n103, .ref n104, .ref n105, .ref n106]))] H locs := w
  refine lv_istore (lv' := [(6, .int 0), (5, .int 1), (4, .int 0), (3, .ref n107), (2, .ref n64), (1, .ref n0), (0, .ref b)]) hx hb dL_law_348 hl (by decide) rfl (fun ls hl => ?_)
  refine lv_aload_n hx hb dL_law_350 rfl (lv_at hl 4 rfl) ?_
  refine fin_i C w (run_V C w mv_L_150 (k20_thrown C.b0 n64 n65 n66 n67 n68 n69 n70 n71 n72 n73 n74 n75 n76 n77 n78 n79 n80 n81 n82 n83 n84 n85 n86 n87 n88 n89 n90 n91 n92 n93 n94 n95 n96 n97 n98 n99 n100 n101 n102 n103 n104 n105 n106 H.size) [1] rfl rfl 1 rfl rfl (by decide) rfl hl.1 rfl (Nat.le_of_ble_eq_true rfl) dL_law_351 (cells2 := 109) (slots2 := 210178) (by decide)) [1] [0] rfl rfl (by decide) (cells2 := 109) (slots2 := 210178) (by decide) (fun u3 H locs w => ?_)
  have w : Wd s G A [(n0, .inr (11, [.ref n1, .ref n2, .ref n3, .ref n7, .ref n8, .ref n12, .ref n16, .ref n21, .ref n22, .ref n37, .int 0, .int (-1), .int 0, .int 0, .null, .null, .null, .null, .null])), (n64, .inr (12, [.int 1, .int 0, .int 0, .int 0, .int 0, .int 0, .int 0, .int (-1), .ref n65, .ref n66, .ref n67, .int 0, .ref n68, .ref n69, .ref n70, .ref n71, .ref n72, .ref n73, .ref n74, .int 0, .ref n75, .ref n76, .ref n77, .ref n78, .ref n79, .ref n80, .ref n81, .int 0, .int (-1), .int 0, .ref n82, .ref n83, .ref n84, .ref n85, .ref n86, .ref n87, .ref n88, .ref n89, .int 0, .ref n90, .ref n91, .ref n92, .ref n93, .ref n94, .int 0, .ref n95, .ref n96, .ref n97, .ref n98, .int 0, .ref n99, .ref n100, .ref n101, .ref n102, .int 0, .int 0, .ref n103, .ref n104, .ref n105, .ref n106]))] H locs := w
  refine lv_iload hx hb dL_law_354 (lv_at hl 1 rfl) ?_
  refine lv_icmp_eq (tgt := 361) hx hb dL_law_356 (by decide) (fun _ => ?_) (fun h => absurd (by decide) h)
  refine lv_iload hx hb dL_law_361 (lv_at hl 1 rfl) ?_
  refine lv_if_ne (tgt := 378) hx hb dL_law_363 (by decide) (fun _ => ?_) (fun h => h.elim (by decide))
  refine lv_goto (tgt := 3027) hx hb dL_law_378 (by decide) ?_
  exact lc_end C hr hX hbl hbA w (lv_sub hl [2, 6] rfl) (by decide) (by decide)
set_option maxRecDepth 100000 in
set_option maxHeartbeats 4000000 in
theorem lc_1_1 {l : Launch} {G : GT} {p : Program} {e : Env} {s : State} {m : MethodId} {below : List Frame} {meth : Method} {c : Code} {A : Nat → Prop} {b : Nat} {xs : Nat → Int32} (C : Cx l s #[Value.ref b] G p s m #[Value.ref b] meth c RL cL_law 8 "law" A) (hr : meth.sig.returnType = some .boolean) (hX : va_X b 6 xs s s.heap) (hbl : b < s.heap.size) (hbA : ¬ A b) (n0 n1 n2 n3 n7 n8 n12 n16 n21 n22 n37 n64 n65 n66 n67 n68 n69 n70 n71 n72 n73 n74 n75 n76 n77 n78 n79 n80 n81 n82 n83 n84 n85 n86 n87 n88 n89 n90 n91 n92 n93 n94 n95 n96 n97 n98 n99 n100 n101 n102 n103 n104 n105 n106 n107 : Nat) (g0 : ¬ (xs 1) < 0) (g1 : 0 < (xs 1)) {H : Heap} {locs : List Loc} {ls : Array Slot} (w : Wd s G A [(n0, .inr (11, [.ref n1, .ref n2, .ref n3, .ref n7, .ref n8, .ref n12, .ref n16, .ref n21, .ref n22, .ref n37, .int 0, .int (-1), .int 0, .int 0, .null, .null, .null, .null, .null])), (n64, .inr (12, [.int 0, .int 0, .int 0, .int 0, .int 0, .int 0, .int 0, .int (-1), .ref n65, .ref n66, .ref n67, .int 0, .ref n68, .ref n69, .ref n70, .ref n71, .ref n72, .ref n73, .ref n74, .int 0, .ref n75, .ref n76, .ref n77, .ref n78, .ref n79, .ref n80, .ref n81, .int 0, .int (-1), .int 0, .ref n82, .ref n83, .ref n84, .ref n85, .ref n86, .ref n87, .ref n88, .ref n89, .int 0, .ref n90, .ref n91, .ref n92, .ref n93, .ref n94, .int 0, .ref n95, .ref n96, .ref n97, .ref n98, .int 0, .ref n99, .ref n100, .ref n101, .ref n102, .int 0, .int 0, .ref n103, .ref n104, .ref n105, .ref n106]))] H locs) (hl : lv_has ls 8 [(4, .int 0), (3, .ref n107), (2, .ref n64), (1, .ref n0), (0, .ref b)]) : W p l e room_1 s m #[Value.ref b] below meth c H locs 108 210172 (lw_Z below #[Value.ref b] s) (F0 m 325 ls []) := by
  have hx := C.hx
  have hb := C.hb
  refine lv_aload_n hx hb dL_law_325 rfl (lv_at hl 3 rfl) ?_
  refine lv_aload_n hx hb dL_law_326 rfl (lv_at hl 4 rfl) ?_
  refine lv_iload hx hb dL_law_327 (lv_at hl 0 rfl) ?_
  refine lv_iconst (v := 1) hx hb dL_law_329 (by decide) ?_
  refine lv_iadd hx hb dL_law_330 ?_
  refine z_i (v := 1) (by decide +kernel) ?_
  refine va_sld hx hb hX hbl hbA w.2.2 (i := 1) (by decide) dL_law_331 ?_
  refine z_i (v := (xs 1)) rfl ?_
  refine lv_aload_n hx hb dL_law_332 rfl (lv_at hl 1 rfl) ?_
  refine fin_i C w (run_H C w mh_L_144 (k23_net C.b0 n0 n107 n1 n2 n3 n7 n8 n12 n16 n21 n22 n37 ((xs 1)) g1 g0 H.size) [0] rfl rfl (by decide) rfl hl.1 rfl (Nat.le_of_ble_eq_true rfl) dL_law_333 (cells2 := 109) (slots2 := 210178) (by decide)) [0] [1] rfl rfl (by decide) (cells2 := 109) (slots2 := 210178) (by decide) (fun u1 H locs w => ?_)
  have w : Wd s G A [(n64, .inr (12, [.int 0, .int 0, .int 0, .int 0, .int 0, .int 0, .int 0, .int (-1), .ref n65, .ref n66, .ref n67, .int 0, .ref n68, .ref n69, .ref n70, .ref n71, .ref n72, .ref n73, .ref n74, .int 0, .ref n75, .ref n76, .ref n77, .ref n78, .ref n79, .ref n80, .ref n81, .int 0, .int (-1), .int 0, .ref n82, .ref n83, .ref n84, .ref n85, .ref n86, .ref n87, .ref n88, .ref n89, .int 0, .ref n90, .ref n91, .ref n92, .ref n93, .ref n94, .int 0, .ref n95, .ref n96, .ref n97, .ref n98, .int 0, .ref n99, .ref n100, .ref n101, .ref n102, .int 0, .int 0, .ref n103, .ref n104, .ref n105, .ref n106])), (n0, .inr (11, [.ref n1, .ref n2, .ref n3, .ref n7, .ref n8, .ref n12, .ref n16, .ref n21, .ref n22, .ref n37, .int 0, .int (-1), .int 0, .int 0, .null, .null, .null, .null, .null]))] H locs := w
  refine lv_istore (lv' := [(5, .int 1), (4, .int 0), (3, .ref n107), (2, .ref n64), (1, .ref n0), (0, .ref b)]) hx hb dL_law_336 hl (by decide) rfl (fun ls hl => ?_)
  refine lv_aload_n hx hb dL_law_338 rfl (lv_at hl 3 rfl) ?_
  refine lv_aload_n hx hb dL_law_339 rfl (lv_at hl 5 rfl) ?_
  refine lv_iload hx hb dL_law_340 (lv_at hl 1 rfl) ?_
  refine lv_iconst (v := 1) hx hb dL_law_342 (by decide) ?_
  refine lv_iadd hx hb dL_law_343 ?_
  refine z_i (v := 1) (by decide +kernel) ?_
  refine va_sld hx hb hX hbl hbA w.2.2 (i := 1) (by decide) dL_law_344 ?_
  refine z_i (v := (xs 1)) rfl ?_
  refine fin_i C w (run_V C w mv_L_149 (k24_net C.b0 n64 n65 n66 n67 n68 n69 n70 n71 n72 n73 n74 n75 n76 n77 n78 n79 n80 n81 n82 n83 n84 n85 n86 n87 n88 n89 n90 n91 n92 n93 n94 n95 n96 n97 n98 n99 n100 n101 n102 n103 n104 n105 n106 ((xs 1)) g1 g0 H.size) [0] rfl rfl 0 rfl rfl (by decide) rfl hl.1 rfl (Nat.le_of_ble_eq_true rfl) dL_law_345 (cells2 := 109) (slots2 := 210178) (by decide)) [0] [1] rfl rfl (by decide) (cells2 := 109) (slots2 := 210178) (by decide) (fun u2 H locs w => ?_)
  have w : Wd s G A [(n0, .inr (11, [.ref n1, .ref n2, .ref n3, .ref n7, .ref n8, .ref n12, .ref n16, .ref n21, .ref n22, .ref n37, .int 0, .int (-1), .int 0, .int 0, .null, .null, .null, .null, .null])), (n64, .inr (12, [.int 1, .int 0, .int 0, .int 0, .int 0, .int 0, .int 0, .int (-1), .ref n65, .ref n66, .ref n67, .int 0, .ref n68, .ref n69, .ref n70, .ref n71, .ref n72, .ref n73, .ref n74, .int 0, .ref n75, .ref n76, .ref n77, .ref n78, .ref n79, .ref n80, .ref n81, .int 0, .int (-1), .int 0, .ref n82, .ref n83, .ref n84, .ref n85, .ref n86, .ref n87, .ref n88, .ref n89, .int 0, .ref n90, .ref n91, .ref n92, .ref n93, .ref n94, .int 0, .ref n95, .ref n96, .ref n97, .ref n98, .int 0, .ref n99, .ref n100, .ref n101, .ref n102, .int 0, .int 0, .ref n103, .ref n104, .ref n105, .ref n106]))] H locs := w
  refine lv_istore (lv' := [(6, .int 0), (5, .int 1), (4, .int 0), (3, .ref n107), (2, .ref n64), (1, .ref n0), (0, .ref b)]) hx hb dL_law_348 hl (by decide) rfl (fun ls hl => ?_)
  refine lv_aload_n hx hb dL_law_350 rfl (lv_at hl 4 rfl) ?_
  refine fin_i C w (run_V C w mv_L_150 (k20_thrown C.b0 n64 n65 n66 n67 n68 n69 n70 n71 n72 n73 n74 n75 n76 n77 n78 n79 n80 n81 n82 n83 n84 n85 n86 n87 n88 n89 n90 n91 n92 n93 n94 n95 n96 n97 n98 n99 n100 n101 n102 n103 n104 n105 n106 H.size) [1] rfl rfl 1 rfl rfl (by decide) rfl hl.1 rfl (Nat.le_of_ble_eq_true rfl) dL_law_351 (cells2 := 109) (slots2 := 210178) (by decide)) [1] [0] rfl rfl (by decide) (cells2 := 109) (slots2 := 210178) (by decide) (fun u3 H locs w => ?_)
  have w : Wd s G A [(n0, .inr (11, [.ref n1, .ref n2, .ref n3, .ref n7, .ref n8, .ref n12, .ref n16, .ref n21, .ref n22, .ref n37, .int 0, .int (-1), .int 0, .int 0, .null, .null, .null, .null, .null])), (n64, .inr (12, [.int 1, .int 0, .int 0, .int 0, .int 0, .int 0, .int 0, .int (-1), .ref n65, .ref n66, .ref n67, .int 0, .ref n68, .ref n69, .ref n70, .ref n71, .ref n72, .ref n73, .ref n74, .int 0, .ref n75, .ref n76, .ref n77, .ref n78, .ref n79, .ref n80, .ref n81, .int 0, .int (-1), .int 0, .ref n82, .ref n83, .ref n84, .ref n85, .ref n86, .ref n87, .ref n88, .ref n89, .int 0, .ref n90, .ref n91, .ref n92, .ref n93, .ref n94, .int 0, .ref n95, .ref n96, .ref n97, .ref n98, .int 0, .ref n99, .ref n100, .ref n101, .ref n102, .int 0, .int 0, .ref n103, .ref n104, .ref n105, .ref n106]))] H locs := w
  refine lv_iload hx hb dL_law_354 (lv_at hl 1 rfl) ?_
  refine lv_icmp_eq (tgt := 361) hx hb dL_law_356 (by decide) (fun _ => ?_) (fun h => absurd (by decide) h)
  refine lv_iload hx hb dL_law_361 (lv_at hl 1 rfl) ?_
  refine lv_if_ne (tgt := 378) hx hb dL_law_363 (by decide) (fun _ => ?_) (fun h => h.elim (by decide))
  refine lv_goto (tgt := 3027) hx hb dL_law_378 (by decide) ?_
  exact lc_end C hr hX hbl hbA w (lv_sub hl [2, 6] rfl) (by decide) (by decide)
set_option maxRecDepth 100000 in
set_option maxHeartbeats 4000000 in
theorem lc_1_2 {l : Launch} {G : GT} {p : Program} {e : Env} {s : State} {m : MethodId} {below : List Frame} {meth : Method} {c : Code} {A : Nat → Prop} {b : Nat} {xs : Nat → Int32} (C : Cx l s #[Value.ref b] G p s m #[Value.ref b] meth c RL cL_law 8 "law" A) (hr : meth.sig.returnType = some .boolean) (hX : va_X b 6 xs s s.heap) (hbl : b < s.heap.size) (hbA : ¬ A b) (n0 n1 n2 n3 n7 n8 n12 n16 n21 n22 n37 n38 n39 n40 n41 n42 n43 n44 n45 n46 n47 n48 n49 n50 n51 n64 n65 n66 n67 n68 n69 n70 n71 n72 n73 n74 n75 n76 n77 n78 n79 n80 n81 n82 n83 n84 n85 n86 n87 n88 n89 n90 n91 n92 n93 n94 n95 n96 n97 n98 n99 n100 n101 n102 n103 n104 n105 n106 n107 : Nat) (g0 : ¬ (xs 1) < 0) (g1 : ¬ 0 < (xs 1)) {H : Heap} {locs : List Loc} {ls : Array Slot} (w : Wd s G A [(n0, .inr (11, [.ref n1, .ref n2, .ref n3, .ref n7, .ref n8, .ref n12, .ref n16, .ref n21, .ref n22, .ref n37, .int 0, .int (-1), .int 0, .int 0, .null, .null, .null, .null, .null])), (n2, .inr (3, [.int (-1), .int 0, .null, .int 0, .int 0, .int 0, .int 0, .int 0, .int 0, .int 0, .null])), (n37, .inr (2, [.int 0, .int 0, .ref n38, .ref n39, .ref n40, .ref n41, .ref n42, .ref n43, .ref n44, .ref n45, .ref n46, .ref n47, .ref n48, .ref n49, .ref n50, .ref n51, .int 0])), (n42, .inl (G.2.1, 64, .inl (fun _ => 0))), (n43, .inl (G.2.1, 64, .inl (fun _ => 0))), (n44, .inl (G.2.1, 64, .inl (fun _ => 0))), (n64, .inr (12, [.int 0, .int 0, .int 0, .int 0, .int 0, .int 0, .int 0, .int (-1), .ref n65, .ref n66, .ref n67, .int 0, .ref n68, .ref n69, .ref n70, .ref n71, .ref n72, .ref n73, .ref n74, .int 0, .ref n75, .ref n76, .ref n77, .ref n78, .ref n79, .ref n80, .ref n81, .int 0, .int (-1), .int 0, .ref n82, .ref n83, .ref n84, .ref n85, .ref n86, .ref n87, .ref n88, .ref n89, .int 0, .ref n90, .ref n91, .ref n92, .ref n93, .ref n94, .int 0, .ref n95, .ref n96, .ref n97, .ref n98, .int 0, .ref n99, .ref n100, .ref n101, .ref n102, .int 0, .int 0, .ref n103, .ref n104, .ref n105, .ref n106])), (n67, .inl (G.2.1, 242, .inl (fun _ => 0))), (n107, .inl (G.2.2.1, 1, .inr (.inl (fun _ => 0))))] H locs) (hl : lv_has ls 8 [(4, .int 0), (3, .ref n107), (2, .ref n64), (1, .ref n0), (0, .ref b)]) : W p l e room_1 s m #[Value.ref b] below meth c H locs 108 210172 (lw_Z below #[Value.ref b] s) (F0 m 325 ls []) := by
  have hx := C.hx
  have hb := C.hb
  refine lv_aload_n hx hb dL_law_325 rfl (lv_at hl 3 rfl) ?_
  refine lv_aload_n hx hb dL_law_326 rfl (lv_at hl 4 rfl) ?_
  refine lv_iload hx hb dL_law_327 (lv_at hl 0 rfl) ?_
  refine lv_iconst (v := 1) hx hb dL_law_329 (by decide) ?_
  refine lv_iadd hx hb dL_law_330 ?_
  refine z_i (v := 1) (by decide +kernel) ?_
  refine va_sld hx hb hX hbl hbA w.2.2 (i := 1) (by decide) dL_law_331 ?_
  refine z_i (v := (xs 1)) rfl ?_
  refine lv_aload_n hx hb dL_law_332 rfl (lv_at hl 1 rfl) ?_
  refine fin_i C w (run_H C w mh_L_144 (k31_net C.b0 n0 n2 n37 n42 n43 n44 n107 n1 n3 n7 n8 n12 n16 n21 n22 n38 n39 n40 n41 n45 n46 n47 n48 n49 n50 n51 ((xs 1)) g1 g0 H.size) [0, 1, 2, 3, 4, 5, 8] rfl rfl (by decide) rfl hl.1 rfl (Nat.le_of_ble_eq_true rfl) dL_law_333 (cells2 := 108) (slots2 := 210172) (by decide)) [0, 1, 2, 3, 4, 5, 8] [6, 7] rfl rfl (by decide) (cells2 := 108) (slots2 := 210172) (by decide) (fun u1 H locs w => ?_)
  have w : Wd s G A [(n64, .inr (12, [.int 0, .int 0, .int 0, .int 0, .int 0, .int 0, .int 0, .int (-1), .ref n65, .ref n66, .ref n67, .int 0, .ref n68, .ref n69, .ref n70, .ref n71, .ref n72, .ref n73, .ref n74, .int 0, .ref n75, .ref n76, .ref n77, .ref n78, .ref n79, .ref n80, .ref n81, .int 0, .int (-1), .int 0, .ref n82, .ref n83, .ref n84, .ref n85, .ref n86, .ref n87, .ref n88, .ref n89, .int 0, .ref n90, .ref n91, .ref n92, .ref n93, .ref n94, .int 0, .ref n95, .ref n96, .ref n97, .ref n98, .int 0, .ref n99, .ref n100, .ref n101, .ref n102, .int 0, .int 0, .ref n103, .ref n104, .ref n105, .ref n106])), (n67, .inl (G.2.1, 242, .inl (fun _ => 0))), (n0, .inr (11, [.ref n1, .ref n2, .ref n3, .ref n7, .ref n8, .ref n12, .ref n16, .ref n21, .ref n22, .ref n37, .int 0, .int (xs 1), .int 0, .int 0, .null, .null, .null, .null, .null])), (n2, .inr (3, [.int (xs 1), .int 4, .ref n1, .int (xs 1), .int 0, .int 0, .int 0, .int 0, .int 0, .int 0, .ref n37])), (n37, .inr (2, [.int 0, .int 0, .ref n38, .ref n39, .ref n40, .ref n41, .ref n42, .ref n43, .ref n44, .ref n45, .ref n46, .ref n47, .ref n48, .ref n49, .ref n50, .ref n51, .int 0])), (n42, .inl (G.2.1, 64, .inl (fun _ => 0))), (n43, .inl (G.2.1, 64, .inl (fun _ => 0))), (n44, .inl (G.2.1, 64, .inl (fun _ => 0))), (n107, .inl (G.2.2.1, 1, .inr (.inl (vp_updL (fun _ => 0) 0 (-6)))))] H locs := w
  refine lv_istore (lv' := [(5, .int 0), (4, .int 0), (3, .ref n107), (2, .ref n64), (1, .ref n0), (0, .ref b)]) hx hb dL_law_336 hl (by decide) rfl (fun ls hl => ?_)
  refine lv_aload_n hx hb dL_law_338 rfl (lv_at hl 3 rfl) ?_
  refine lv_aload_n hx hb dL_law_339 rfl (lv_at hl 5 rfl) ?_
  refine lv_iload hx hb dL_law_340 (lv_at hl 1 rfl) ?_
  refine lv_iconst (v := 1) hx hb dL_law_342 (by decide) ?_
  refine lv_iadd hx hb dL_law_343 ?_
  refine z_i (v := 1) (by decide +kernel) ?_
  refine va_sld hx hb hX hbl hbA w.2.2 (i := 1) (by decide) dL_law_344 ?_
  refine z_i (v := (xs 1)) rfl ?_
  refine fin_i C w (run_V C w mv_L_149 (k38_net C.b0 n64 n67 n65 n66 n68 n69 n70 n71 n72 n73 n74 n75 n76 n77 n78 n79 n80 n81 n82 n83 n84 n85 n86 n87 n88 n89 n90 n91 n92 n93 n94 n95 n96 n97 n98 n99 n100 n101 n102 n103 n104 n105 n106 ((xs 1)) g1 g0 H.size) [0, 1] rfl rfl 0 rfl rfl (by decide) rfl hl.1 rfl (Nat.le_of_ble_eq_true rfl) dL_law_345 (cells2 := 108) (slots2 := 210172) (by decide)) [0, 1] [2, 3, 4, 5, 6, 7, 8] rfl rfl (by decide) (cells2 := 108) (slots2 := 210172) (by decide) (fun u2 H locs w => ?_)
  have w : Wd s G A [(n0, .inr (11, [.ref n1, .ref n2, .ref n3, .ref n7, .ref n8, .ref n12, .ref n16, .ref n21, .ref n22, .ref n37, .int 0, .int (xs 1), .int 0, .int 0, .null, .null, .null, .null, .null])), (n2, .inr (3, [.int (xs 1), .int 4, .ref n1, .int (xs 1), .int 0, .int 0, .int 0, .int 0, .int 0, .int 0, .ref n37])), (n37, .inr (2, [.int 0, .int 0, .ref n38, .ref n39, .ref n40, .ref n41, .ref n42, .ref n43, .ref n44, .ref n45, .ref n46, .ref n47, .ref n48, .ref n49, .ref n50, .ref n51, .int 0])), (n42, .inl (G.2.1, 64, .inl (fun _ => 0))), (n43, .inl (G.2.1, 64, .inl (fun _ => 0))), (n44, .inl (G.2.1, 64, .inl (fun _ => 0))), (n107, .inl (G.2.2.1, 1, .inr (.inl (vp_updL (fun _ => 0) 0 (-6))))), (n64, .inr (12, [.int 0, .int 0, .int (xs 1), .int 0, .int (xs 1), .int 4, .int 0, .int (xs 1), .ref n65, .ref n66, .ref n67, .int 0, .ref n68, .ref n69, .ref n70, .ref n71, .ref n72, .ref n73, .ref n74, .int 0, .ref n75, .ref n76, .ref n77, .ref n78, .ref n79, .ref n80, .ref n81, .int 0, .int (-1), .int 0, .ref n82, .ref n83, .ref n84, .ref n85, .ref n86, .ref n87, .ref n88, .ref n89, .int 0, .ref n90, .ref n91, .ref n92, .ref n93, .ref n94, .int 0, .ref n95, .ref n96, .ref n97, .ref n98, .int 0, .ref n99, .ref n100, .ref n101, .ref n102, .int 0, .int 0, .ref n103, .ref n104, .ref n105, .ref n106])), (n67, .inl (G.2.1, 242, .inl (fun _ => 0)))] H locs := w
  refine lv_istore (lv' := [(6, .int (-6)), (5, .int 0), (4, .int 0), (3, .ref n107), (2, .ref n64), (1, .ref n0), (0, .ref b)]) hx hb dL_law_348 hl (by decide) rfl (fun ls hl => ?_)
  refine lv_aload_n hx hb dL_law_350 rfl (lv_at hl 4 rfl) ?_
  refine fin_i C w (run_V C w mv_L_150 (k39_thrown C.b0 n64 n65 n66 n67 n68 n69 n70 n71 n72 n73 n74 n75 n76 n77 n78 n79 n80 n81 n82 n83 n84 n85 n86 n87 n88 n89 n90 n91 n92 n93 n94 n95 n96 n97 n98 n99 n100 n101 n102 n103 n104 n105 n106 ((xs 1)) H.size) [7] rfl rfl 7 rfl rfl (by decide) rfl hl.1 rfl (Nat.le_of_ble_eq_true rfl) dL_law_351 (cells2 := 108) (slots2 := 210172) (by decide)) [7] [0, 1, 2, 3, 4, 5, 6, 8] rfl rfl (by decide) (cells2 := 108) (slots2 := 210172) (by decide) (fun u3 H locs w => ?_)
  have w : Wd s G A [(n0, .inr (11, [.ref n1, .ref n2, .ref n3, .ref n7, .ref n8, .ref n12, .ref n16, .ref n21, .ref n22, .ref n37, .int 0, .int (xs 1), .int 0, .int 0, .null, .null, .null, .null, .null])), (n2, .inr (3, [.int (xs 1), .int 4, .ref n1, .int (xs 1), .int 0, .int 0, .int 0, .int 0, .int 0, .int 0, .ref n37])), (n37, .inr (2, [.int 0, .int 0, .ref n38, .ref n39, .ref n40, .ref n41, .ref n42, .ref n43, .ref n44, .ref n45, .ref n46, .ref n47, .ref n48, .ref n49, .ref n50, .ref n51, .int 0])), (n42, .inl (G.2.1, 64, .inl (fun _ => 0))), (n43, .inl (G.2.1, 64, .inl (fun _ => 0))), (n44, .inl (G.2.1, 64, .inl (fun _ => 0))), (n107, .inl (G.2.2.1, 1, .inr (.inl (vp_updL (fun _ => 0) 0 (-6))))), (n67, .inl (G.2.1, 242, .inl (fun _ => 0))), (n64, .inr (12, [.int 0, .int 0, .int (xs 1), .int 0, .int (xs 1), .int 4, .int 0, .int (xs 1), .ref n65, .ref n66, .ref n67, .int 0, .ref n68, .ref n69, .ref n70, .ref n71, .ref n72, .ref n73, .ref n74, .int 0, .ref n75, .ref n76, .ref n77, .ref n78, .ref n79, .ref n80, .ref n81, .int 0, .int (-1), .int 0, .ref n82, .ref n83, .ref n84, .ref n85, .ref n86, .ref n87, .ref n88, .ref n89, .int 0, .ref n90, .ref n91, .ref n92, .ref n93, .ref n94, .int 0, .ref n95, .ref n96, .ref n97, .ref n98, .int 0, .ref n99, .ref n100, .ref n101, .ref n102, .int 0, .int 0, .ref n103, .ref n104, .ref n105, .ref n106]))] H locs := w
  refine lv_iload hx hb dL_law_354 (lv_at hl 1 rfl) ?_
  refine lv_icmp_eq (tgt := 361) hx hb dL_law_356 (by decide) (fun _ => ?_) (fun h => absurd (by decide) h)
  refine lv_iload hx hb dL_law_361 (lv_at hl 1 rfl) ?_
  refine lv_if_ne (tgt := 378) hx hb dL_law_363 (by decide) (fun h => absurd (by decide) h) (fun _ => ?_)
  refine lv_aload_n hx hb dL_law_366 rfl (lv_at hl 3 rfl) ?_
  refine lv_iconst (v := 0) hx hb dL_law_367 (by decide) ?_
  refine r_lald C w 6 rfl (IX.of (k := 0) (by decide +kernel)) (v := (-6)) rfl dL_law_368 ?_
  refine lv_iload hx hb dL_law_369 (lv_at hl 0 rfl) ?_
  refine lv_i2l (v := (-6)) hx hb dL_law_371 (by decide +kernel) ?_
  refine W.lcmp hx hb dL_law_372 ?_
  refine z_i (v := 0) (by decide +kernel) ?_
  refine lv_if_eq (tgt := 378) hx hb dL_law_373 (by decide) (fun _ => ?_) (fun h => absurd (by decide) h)
  refine lv_goto (tgt := 3027) hx hb dL_law_378 (by decide) ?_
  exact lc_end C hr hX hbl hbA w (lv_sub hl [2, 6] rfl) (by decide) (by decide)
set_option maxRecDepth 100000 in
set_option maxHeartbeats 4000000 in
theorem lc_2_0 {l : Launch} {G : GT} {p : Program} {e : Env} {s : State} {m : MethodId} {below : List Frame} {meth : Method} {c : Code} {A : Nat → Prop} {b : Nat} {xs : Nat → Int32} (C : Cx l s #[Value.ref b] G p s m #[Value.ref b] meth c RL cL_law 8 "law" A) (hr : meth.sig.returnType = some .boolean) (hX : va_X b 6 xs s s.heap) (hbl : b < s.heap.size) (hbA : ¬ A b) (n0 n1 n2 n3 n7 n8 n12 n16 n21 n22 n37 n64 n65 n66 n67 n68 n69 n70 n71 n72 n73 n74 n75 n76 n77 n78 n79 n80 n81 n82 n83 n84 n85 n86 n87 n88 n89 n90 n91 n92 n93 n94 n95 n96 n97 n98 n99 n100 n101 n102 n103 n104 n105 n106 n107 : Nat) {H : Heap} {locs : List Loc} {ls : Array Slot} (w : Wd s G A [(n0, .inr (11, [.ref n1, .ref n2, .ref n3, .ref n7, .ref n8, .ref n12, .ref n16, .ref n21, .ref n22, .ref n37, .int 0, .int (-1), .int 0, .int 0, .null, .null, .null, .null, .null])), (n64, .inr (12, [.int 0, .int 0, .int 0, .int 0, .int 0, .int 0, .int 0, .int (-1), .ref n65, .ref n66, .ref n67, .int 0, .ref n68, .ref n69, .ref n70, .ref n71, .ref n72, .ref n73, .ref n74, .int 0, .ref n75, .ref n76, .ref n77, .ref n78, .ref n79, .ref n80, .ref n81, .int 0, .int (-1), .int 0, .ref n82, .ref n83, .ref n84, .ref n85, .ref n86, .ref n87, .ref n88, .ref n89, .int 0, .ref n90, .ref n91, .ref n92, .ref n93, .ref n94, .int 0, .ref n95, .ref n96, .ref n97, .ref n98, .int 0, .ref n99, .ref n100, .ref n101, .ref n102, .int 0, .int 0, .ref n103, .ref n104, .ref n105, .ref n106]))] H locs) (hl : lv_has ls 8 [(4, .int 0), (3, .ref n107), (2, .ref n64), (1, .ref n0), (0, .ref b)]) : W p l e room_1 s m #[Value.ref b] below meth c H locs 108 210172 (lw_Z below #[Value.ref b] s) (F0 m 381 ls []) := by
  have hx := C.hx
  have hb := C.hb
  refine lv_aload_n hx hb dL_law_381 rfl (lv_at hl 3 rfl) ?_
  refine fin_i C w (run_V C w mv_L_154 (k40_fault C.b0 n0 n1 n2 n3 n7 n8 n12 n16 n21 n22 n37 H.size) [0] rfl rfl 0 rfl rfl (by decide) rfl hl.1 rfl (Nat.le_of_ble_eq_true rfl) dL_law_382 (cells2 := 108) (slots2 := 210172) (by decide)) [0] [1] rfl rfl (by decide) (cells2 := 108) (slots2 := 210172) (by decide) (fun u1 H locs w => ?_)
  have w : Wd s G A [(n64, .inr (12, [.int 0, .int 0, .int 0, .int 0, .int 0, .int 0, .int 0, .int (-1), .ref n65, .ref n66, .ref n67, .int 0, .ref n68, .ref n69, .ref n70, .ref n71, .ref n72, .ref n73, .ref n74, .int 0, .ref n75, .ref n76, .ref n77, .ref n78, .ref n79, .ref n80, .ref n81, .int 0, .int (-1), .int 0, .ref n82, .ref n83, .ref n84, .ref n85, .ref n86, .ref n87, .ref n88, .ref n89, .int 0, .ref n90, .ref n91, .ref n92, .ref n93, .ref n94, .int 0, .ref n95, .ref n96, .ref n97, .ref n98, .int 0, .ref n99, .ref n100, .ref n101, .ref n102, .int 0, .int 0, .ref n103, .ref n104, .ref n105, .ref n106])), (n0, .inr (11, [.ref n1, .ref n2, .ref n3, .ref n7, .ref n8, .ref n12, .ref n16, .ref n21, .ref n22, .ref n37, .int 0, .int (-1), .int 0, .int 0, .null, .null, .null, .null, .null]))] H locs := w
  refine lv_aload_n hx hb dL_law_385 rfl (lv_at hl 2 rfl) ?_
  refine fin_i C w (run_V C w mv_L_157 (k41_fault C.b0 n64 n65 n66 n67 n68 n69 n70 n71 n72 n73 n74 n75 n76 n77 n78 n79 n80 n81 n82 n83 n84 n85 n86 n87 n88 n89 n90 n91 n92 n93 n94 n95 n96 n97 n98 n99 n100 n101 n102 n103 n104 n105 n106 H.size) [0] rfl rfl 0 rfl rfl (by decide) rfl hl.1 rfl (Nat.le_of_ble_eq_true rfl) dL_law_386 (cells2 := 108) (slots2 := 210172) (by decide)) [0] [1] rfl rfl (by decide) (cells2 := 108) (slots2 := 210172) (by decide) (fun u2 H locs w => ?_)
  have w : Wd s G A [(n0, .inr (11, [.ref n1, .ref n2, .ref n3, .ref n7, .ref n8, .ref n12, .ref n16, .ref n21, .ref n22, .ref n37, .int 0, .int (-1), .int 0, .int 0, .null, .null, .null, .null, .null])), (n64, .inr (12, [.int 0, .int 0, .int 0, .int 0, .int 0, .int 0, .int 0, .int (-1), .ref n65, .ref n66, .ref n67, .int 0, .ref n68, .ref n69, .ref n70, .ref n71, .ref n72, .ref n73, .ref n74, .int 0, .ref n75, .ref n76, .ref n77, .ref n78, .ref n79, .ref n80, .ref n81, .int 0, .int (-1), .int 0, .ref n82, .ref n83, .ref n84, .ref n85, .ref n86, .ref n87, .ref n88, .ref n89, .int 0, .ref n90, .ref n91, .ref n92, .ref n93, .ref n94, .int 0, .ref n95, .ref n96, .ref n97, .ref n98, .int 0, .ref n99, .ref n100, .ref n101, .ref n102, .int 0, .int 0, .ref n103, .ref n104, .ref n105, .ref n106]))] H locs := w
  refine lv_icmp_eq (tgt := 3027) hx hb dL_law_389 (by decide) (fun _ => ?_) (fun h => absurd (by decide) h)
  exact lc_end C hr hX hbl hbA w (lv_sub hl [0, 4] rfl) (by decide) (by decide)
set_option maxRecDepth 100000 in
set_option maxHeartbeats 4000000 in
theorem lc_3_0 {l : Launch} {G : GT} {p : Program} {e : Env} {s : State} {m : MethodId} {below : List Frame} {meth : Method} {c : Code} {A : Nat → Prop} {b : Nat} {xs : Nat → Int32} (C : Cx l s #[Value.ref b] G p s m #[Value.ref b] meth c RL cL_law 8 "law" A) (hr : meth.sig.returnType = some .boolean) (hX : va_X b 6 xs s s.heap) (hbl : b < s.heap.size) (hbA : ¬ A b) (n0 n1 n2 n3 n7 n8 n12 n16 n21 n22 n37 n64 n65 n66 n67 n68 n69 n70 n71 n72 n73 n74 n75 n76 n77 n78 n79 n80 n81 n82 n83 n84 n85 n86 n87 n88 n89 n90 n91 n92 n93 n94 n95 n96 n97 n98 n99 n100 n101 n102 n103 n104 n105 n106 n107 : Nat) (g0 : (xs 1) < 0) {H : Heap} {locs : List Loc} {ls : Array Slot} (w : Wd s G A [(n0, .inr (11, [.ref n1, .ref n2, .ref n3, .ref n7, .ref n8, .ref n12, .ref n16, .ref n21, .ref n22, .ref n37, .int 0, .int (-1), .int 0, .int 0, .null, .null, .null, .null, .null])), (n64, .inr (12, [.int 0, .int 0, .int 0, .int 0, .int 0, .int 0, .int 0, .int (-1), .ref n65, .ref n66, .ref n67, .int 0, .ref n68, .ref n69, .ref n70, .ref n71, .ref n72, .ref n73, .ref n74, .int 0, .ref n75, .ref n76, .ref n77, .ref n78, .ref n79, .ref n80, .ref n81, .int 0, .int (-1), .int 0, .ref n82, .ref n83, .ref n84, .ref n85, .ref n86, .ref n87, .ref n88, .ref n89, .int 0, .ref n90, .ref n91, .ref n92, .ref n93, .ref n94, .int 0, .ref n95, .ref n96, .ref n97, .ref n98, .int 0, .ref n99, .ref n100, .ref n101, .ref n102, .int 0, .int 0, .ref n103, .ref n104, .ref n105, .ref n106]))] H locs) (hl : lv_has ls 8 [(4, .int 0), (3, .ref n107), (2, .ref n64), (1, .ref n0), (0, .ref b)]) : W p l e room_1 s m #[Value.ref b] below meth c H locs 108 210172 (lw_Z below #[Value.ref b] s) (F0 m 394 ls []) := by
  have hx := C.hx
  have hb := C.hb
  refine lv_aload_n hx hb dL_law_394 rfl (lv_at hl 3 rfl) ?_
  refine lv_aload_n hx hb dL_law_395 rfl (lv_at hl 4 rfl) ?_
  refine lv_iload hx hb dL_law_396 (lv_at hl 0 rfl) ?_
  refine lv_iconst (v := 1) hx hb dL_law_398 (by decide) ?_
  refine lv_iadd hx hb dL_law_399 ?_
  refine z_i (v := 1) (by decide +kernel) ?_
  refine va_sld hx hb hX hbl hbA w.2.2 (i := 1) (by decide) dL_law_400 ?_
  refine z_i (v := (xs 1)) rfl ?_
  refine lv_aload_n hx hb dL_law_401 rfl (lv_at hl 1 rfl) ?_
  refine fin_i C w (run_H C w mh_L_158 (k44_told C.b0 n0 n107 n1 n2 n3 n7 n8 n12 n16 n21 n22 n37 ((xs 1)) g0 H.size) [0] rfl rfl (by decide) rfl hl.1 rfl (Nat.le_of_ble_eq_true rfl) dL_law_402 (cells2 := 109) (slots2 := 210178) (by decide)) [0] [1] rfl rfl (by decide) (cells2 := 109) (slots2 := 210178) (by decide) (fun u1 H locs w => ?_)
  have w : Wd s G A [(n64, .inr (12, [.int 0, .int 0, .int 0, .int 0, .int 0, .int 0, .int 0, .int (-1), .ref n65, .ref n66, .ref n67, .int 0, .ref n68, .ref n69, .ref n70, .ref n71, .ref n72, .ref n73, .ref n74, .int 0, .ref n75, .ref n76, .ref n77, .ref n78, .ref n79, .ref n80, .ref n81, .int 0, .int (-1), .int 0, .ref n82, .ref n83, .ref n84, .ref n85, .ref n86, .ref n87, .ref n88, .ref n89, .int 0, .ref n90, .ref n91, .ref n92, .ref n93, .ref n94, .int 0, .ref n95, .ref n96, .ref n97, .ref n98, .int 0, .ref n99, .ref n100, .ref n101, .ref n102, .int 0, .int 0, .ref n103, .ref n104, .ref n105, .ref n106])), (n0, .inr (11, [.ref n1, .ref n2, .ref n3, .ref n7, .ref n8, .ref n12, .ref n16, .ref n21, .ref n22, .ref n37, .int 0, .int (-1), .int 0, .int 0, .null, .null, .null, .null, .null]))] H locs := w
  refine lv_istore (lv' := [(5, .int 1), (4, .int 0), (3, .ref n107), (2, .ref n64), (1, .ref n0), (0, .ref b)]) hx hb dL_law_405 hl (by decide) rfl (fun ls hl => ?_)
  refine lv_aload_n hx hb dL_law_407 rfl (lv_at hl 3 rfl) ?_
  refine lv_aload_n hx hb dL_law_408 rfl (lv_at hl 5 rfl) ?_
  refine lv_iload hx hb dL_law_409 (lv_at hl 1 rfl) ?_
  refine lv_iconst (v := 1) hx hb dL_law_411 (by decide) ?_
  refine lv_iadd hx hb dL_law_412 ?_
  refine z_i (v := 1) (by decide +kernel) ?_
  refine va_sld hx hb hX hbl hbA w.2.2 (i := 1) (by decide) dL_law_413 ?_
  refine z_i (v := (xs 1)) rfl ?_
  refine fin_i C w (run_V C w mv_L_160 (k46_told C.b0 n64 n65 n66 n67 n68 n69 n70 n71 n72 n73 n74 n75 n76 n77 n78 n79 n80 n81 n82 n83 n84 n85 n86 n87 n88 n89 n90 n91 n92 n93 n94 n95 n96 n97 n98 n99 n100 n101 n102 n103 n104 n105 n106 ((xs 1)) g0 H.size) [0] rfl rfl 0 rfl rfl (by decide) rfl hl.1 rfl (Nat.le_of_ble_eq_true rfl) dL_law_414 (cells2 := 109) (slots2 := 210178) (by decide)) [0] [1] rfl rfl (by decide) (cells2 := 109) (slots2 := 210178) (by decide) (fun u2 H locs w => ?_)
  have w : Wd s G A [(n0, .inr (11, [.ref n1, .ref n2, .ref n3, .ref n7, .ref n8, .ref n12, .ref n16, .ref n21, .ref n22, .ref n37, .int 0, .int (-1), .int 0, .int 0, .null, .null, .null, .null, .null])), (n64, .inr (12, [.int 1, .int 0, .int 0, .int 0, .int 0, .int 0, .int 0, .int (-1), .ref n65, .ref n66, .ref n67, .int 0, .ref n68, .ref n69, .ref n70, .ref n71, .ref n72, .ref n73, .ref n74, .int 0, .ref n75, .ref n76, .ref n77, .ref n78, .ref n79, .ref n80, .ref n81, .int 0, .int (-1), .int 0, .ref n82, .ref n83, .ref n84, .ref n85, .ref n86, .ref n87, .ref n88, .ref n89, .int 0, .ref n90, .ref n91, .ref n92, .ref n93, .ref n94, .int 0, .ref n95, .ref n96, .ref n97, .ref n98, .int 0, .ref n99, .ref n100, .ref n101, .ref n102, .int 0, .int 0, .ref n103, .ref n104, .ref n105, .ref n106]))] H locs := w
  refine lv_istore (lv' := [(6, .int 0), (5, .int 1), (4, .int 0), (3, .ref n107), (2, .ref n64), (1, .ref n0), (0, .ref b)]) hx hb dL_law_417 hl (by decide) rfl (fun ls hl => ?_)
  refine lv_aload_n hx hb dL_law_419 rfl (lv_at hl 4 rfl) ?_
  refine fin_i C w (run_V C w mv_L_150 (k20_thrown C.b0 n64 n65 n66 n67 n68 n69 n70 n71 n72 n73 n74 n75 n76 n77 n78 n79 n80 n81 n82 n83 n84 n85 n86 n87 n88 n89 n90 n91 n92 n93 n94 n95 n96 n97 n98 n99 n100 n101 n102 n103 n104 n105 n106 H.size) [1] rfl rfl 1 rfl rfl (by decide) rfl hl.1 rfl (Nat.le_of_ble_eq_true rfl) dL_law_420 (cells2 := 109) (slots2 := 210178) (by decide)) [1] [0] rfl rfl (by decide) (cells2 := 109) (slots2 := 210178) (by decide) (fun u3 H locs w => ?_)
  have w : Wd s G A [(n0, .inr (11, [.ref n1, .ref n2, .ref n3, .ref n7, .ref n8, .ref n12, .ref n16, .ref n21, .ref n22, .ref n37, .int 0, .int (-1), .int 0, .int 0, .null, .null, .null, .null, .null])), (n64, .inr (12, [.int 1, .int 0, .int 0, .int 0, .int 0, .int 0, .int 0, .int (-1), .ref n65, .ref n66, .ref n67, .int 0, .ref n68, .ref n69, .ref n70, .ref n71, .ref n72, .ref n73, .ref n74, .int 0, .ref n75, .ref n76, .ref n77, .ref n78, .ref n79, .ref n80, .ref n81, .int 0, .int (-1), .int 0, .ref n82, .ref n83, .ref n84, .ref n85, .ref n86, .ref n87, .ref n88, .ref n89, .int 0, .ref n90, .ref n91, .ref n92, .ref n93, .ref n94, .int 0, .ref n95, .ref n96, .ref n97, .ref n98, .int 0, .ref n99, .ref n100, .ref n101, .ref n102, .int 0, .int 0, .ref n103, .ref n104, .ref n105, .ref n106]))] H locs := w
  refine lv_iload hx hb dL_law_423 (lv_at hl 1 rfl) ?_
  refine lv_icmp_eq (tgt := 430) hx hb dL_law_425 (by decide) (fun _ => ?_) (fun h => absurd (by decide) h)
  refine lv_iload hx hb dL_law_430 (lv_at hl 1 rfl) ?_
  refine lv_if_ne (tgt := 447) hx hb dL_law_432 (by decide) (fun _ => ?_) (fun h => h.elim (by decide))
  refine lv_goto (tgt := 3027) hx hb dL_law_447 (by decide) ?_
  exact lc_end C hr hX hbl hbA w (lv_sub hl [2, 6] rfl) (by decide) (by decide)
set_option maxRecDepth 100000 in
set_option maxHeartbeats 4000000 in
theorem lc_3_1 {l : Launch} {G : GT} {p : Program} {e : Env} {s : State} {m : MethodId} {below : List Frame} {meth : Method} {c : Code} {A : Nat → Prop} {b : Nat} {xs : Nat → Int32} (C : Cx l s #[Value.ref b] G p s m #[Value.ref b] meth c RL cL_law 8 "law" A) (hr : meth.sig.returnType = some .boolean) (hX : va_X b 6 xs s s.heap) (hbl : b < s.heap.size) (hbA : ¬ A b) (n0 n1 n2 n3 n7 n8 n12 n16 n21 n22 n37 n64 n65 n66 n67 n68 n69 n70 n71 n72 n73 n74 n75 n76 n77 n78 n79 n80 n81 n82 n83 n84 n85 n86 n87 n88 n89 n90 n91 n92 n93 n94 n95 n96 n97 n98 n99 n100 n101 n102 n103 n104 n105 n106 n107 : Nat) (g0 : ¬ (xs 1) < 0) (g1 : 1 < (xs 1)) {H : Heap} {locs : List Loc} {ls : Array Slot} (w : Wd s G A [(n0, .inr (11, [.ref n1, .ref n2, .ref n3, .ref n7, .ref n8, .ref n12, .ref n16, .ref n21, .ref n22, .ref n37, .int 0, .int (-1), .int 0, .int 0, .null, .null, .null, .null, .null])), (n64, .inr (12, [.int 0, .int 0, .int 0, .int 0, .int 0, .int 0, .int 0, .int (-1), .ref n65, .ref n66, .ref n67, .int 0, .ref n68, .ref n69, .ref n70, .ref n71, .ref n72, .ref n73, .ref n74, .int 0, .ref n75, .ref n76, .ref n77, .ref n78, .ref n79, .ref n80, .ref n81, .int 0, .int (-1), .int 0, .ref n82, .ref n83, .ref n84, .ref n85, .ref n86, .ref n87, .ref n88, .ref n89, .int 0, .ref n90, .ref n91, .ref n92, .ref n93, .ref n94, .int 0, .ref n95, .ref n96, .ref n97, .ref n98, .int 0, .ref n99, .ref n100, .ref n101, .ref n102, .int 0, .int 0, .ref n103, .ref n104, .ref n105, .ref n106]))] H locs) (hl : lv_has ls 8 [(4, .int 0), (3, .ref n107), (2, .ref n64), (1, .ref n0), (0, .ref b)]) : W p l e room_1 s m #[Value.ref b] below meth c H locs 108 210172 (lw_Z below #[Value.ref b] s) (F0 m 394 ls []) := by
  have hx := C.hx
  have hb := C.hb
  refine lv_aload_n hx hb dL_law_394 rfl (lv_at hl 3 rfl) ?_
  refine lv_aload_n hx hb dL_law_395 rfl (lv_at hl 4 rfl) ?_
  refine lv_iload hx hb dL_law_396 (lv_at hl 0 rfl) ?_
  refine lv_iconst (v := 1) hx hb dL_law_398 (by decide) ?_
  refine lv_iadd hx hb dL_law_399 ?_
  refine z_i (v := 1) (by decide +kernel) ?_
  refine va_sld hx hb hX hbl hbA w.2.2 (i := 1) (by decide) dL_law_400 ?_
  refine z_i (v := (xs 1)) rfl ?_
  refine lv_aload_n hx hb dL_law_401 rfl (lv_at hl 1 rfl) ?_
  refine fin_i C w (run_H C w mh_L_158 (k49_told C.b0 n0 n107 n1 n2 n3 n7 n8 n12 n16 n21 n22 n37 ((xs 1)) g1 g0 H.size) [0] rfl rfl (by decide) rfl hl.1 rfl (Nat.le_of_ble_eq_true rfl) dL_law_402 (cells2 := 109) (slots2 := 210178) (by decide)) [0] [1] rfl rfl (by decide) (cells2 := 109) (slots2 := 210178) (by decide) (fun u1 H locs w => ?_)
  have w : Wd s G A [(n64, .inr (12, [.int 0, .int 0, .int 0, .int 0, .int 0, .int 0, .int 0, .int (-1), .ref n65, .ref n66, .ref n67, .int 0, .ref n68, .ref n69, .ref n70, .ref n71, .ref n72, .ref n73, .ref n74, .int 0, .ref n75, .ref n76, .ref n77, .ref n78, .ref n79, .ref n80, .ref n81, .int 0, .int (-1), .int 0, .ref n82, .ref n83, .ref n84, .ref n85, .ref n86, .ref n87, .ref n88, .ref n89, .int 0, .ref n90, .ref n91, .ref n92, .ref n93, .ref n94, .int 0, .ref n95, .ref n96, .ref n97, .ref n98, .int 0, .ref n99, .ref n100, .ref n101, .ref n102, .int 0, .int 0, .ref n103, .ref n104, .ref n105, .ref n106])), (n0, .inr (11, [.ref n1, .ref n2, .ref n3, .ref n7, .ref n8, .ref n12, .ref n16, .ref n21, .ref n22, .ref n37, .int 0, .int (-1), .int 0, .int 0, .null, .null, .null, .null, .null]))] H locs := w
  refine lv_istore (lv' := [(5, .int 1), (4, .int 0), (3, .ref n107), (2, .ref n64), (1, .ref n0), (0, .ref b)]) hx hb dL_law_405 hl (by decide) rfl (fun ls hl => ?_)
  refine lv_aload_n hx hb dL_law_407 rfl (lv_at hl 3 rfl) ?_
  refine lv_aload_n hx hb dL_law_408 rfl (lv_at hl 5 rfl) ?_
  refine lv_iload hx hb dL_law_409 (lv_at hl 1 rfl) ?_
  refine lv_iconst (v := 1) hx hb dL_law_411 (by decide) ?_
  refine lv_iadd hx hb dL_law_412 ?_
  refine z_i (v := 1) (by decide +kernel) ?_
  refine va_sld hx hb hX hbl hbA w.2.2 (i := 1) (by decide) dL_law_413 ?_
  refine z_i (v := (xs 1)) rfl ?_
  refine fin_i C w (run_V C w mv_L_160 (k51_told C.b0 n64 n65 n66 n67 n68 n69 n70 n71 n72 n73 n74 n75 n76 n77 n78 n79 n80 n81 n82 n83 n84 n85 n86 n87 n88 n89 n90 n91 n92 n93 n94 n95 n96 n97 n98 n99 n100 n101 n102 n103 n104 n105 n106 ((xs 1)) g1 g0 H.size) [0] rfl rfl 0 rfl rfl (by decide) rfl hl.1 rfl (Nat.le_of_ble_eq_true rfl) dL_law_414 (cells2 := 109) (slots2 := 210178) (by decide)) [0] [1] rfl rfl (by decide) (cells2 := 109) (slots2 := 210178) (by decide) (fun u2 H locs w => ?_)
  have w : Wd s G A [(n0, .inr (11, [.ref n1, .ref n2, .ref n3, .ref n7, .ref n8, .ref n12, .ref n16, .ref n21, .ref n22, .ref n37, .int 0, .int (-1), .int 0, .int 0, .null, .null, .null, .null, .null])), (n64, .inr (12, [.int 1, .int 0, .int 0, .int 0, .int 0, .int 0, .int 0, .int (-1), .ref n65, .ref n66, .ref n67, .int 0, .ref n68, .ref n69, .ref n70, .ref n71, .ref n72, .ref n73, .ref n74, .int 0, .ref n75, .ref n76, .ref n77, .ref n78, .ref n79, .ref n80, .ref n81, .int 0, .int (-1), .int 0, .ref n82, .ref n83, .ref n84, .ref n85, .ref n86, .ref n87, .ref n88, .ref n89, .int 0, .ref n90, .ref n91, .ref n92, .ref n93, .ref n94, .int 0, .ref n95, .ref n96, .ref n97, .ref n98, .int 0, .ref n99, .ref n100, .ref n101, .ref n102, .int 0, .int 0, .ref n103, .ref n104, .ref n105, .ref n106]))] H locs := w
  refine lv_istore (lv' := [(6, .int 0), (5, .int 1), (4, .int 0), (3, .ref n107), (2, .ref n64), (1, .ref n0), (0, .ref b)]) hx hb dL_law_417 hl (by decide) rfl (fun ls hl => ?_)
  refine lv_aload_n hx hb dL_law_419 rfl (lv_at hl 4 rfl) ?_
  refine fin_i C w (run_V C w mv_L_150 (k20_thrown C.b0 n64 n65 n66 n67 n68 n69 n70 n71 n72 n73 n74 n75 n76 n77 n78 n79 n80 n81 n82 n83 n84 n85 n86 n87 n88 n89 n90 n91 n92 n93 n94 n95 n96 n97 n98 n99 n100 n101 n102 n103 n104 n105 n106 H.size) [1] rfl rfl 1 rfl rfl (by decide) rfl hl.1 rfl (Nat.le_of_ble_eq_true rfl) dL_law_420 (cells2 := 109) (slots2 := 210178) (by decide)) [1] [0] rfl rfl (by decide) (cells2 := 109) (slots2 := 210178) (by decide) (fun u3 H locs w => ?_)
  have w : Wd s G A [(n0, .inr (11, [.ref n1, .ref n2, .ref n3, .ref n7, .ref n8, .ref n12, .ref n16, .ref n21, .ref n22, .ref n37, .int 0, .int (-1), .int 0, .int 0, .null, .null, .null, .null, .null])), (n64, .inr (12, [.int 1, .int 0, .int 0, .int 0, .int 0, .int 0, .int 0, .int (-1), .ref n65, .ref n66, .ref n67, .int 0, .ref n68, .ref n69, .ref n70, .ref n71, .ref n72, .ref n73, .ref n74, .int 0, .ref n75, .ref n76, .ref n77, .ref n78, .ref n79, .ref n80, .ref n81, .int 0, .int (-1), .int 0, .ref n82, .ref n83, .ref n84, .ref n85, .ref n86, .ref n87, .ref n88, .ref n89, .int 0, .ref n90, .ref n91, .ref n92, .ref n93, .ref n94, .int 0, .ref n95, .ref n96, .ref n97, .ref n98, .int 0, .ref n99, .ref n100, .ref n101, .ref n102, .int 0, .int 0, .ref n103, .ref n104, .ref n105, .ref n106]))] H locs := w
  refine lv_iload hx hb dL_law_423 (lv_at hl 1 rfl) ?_
  refine lv_icmp_eq (tgt := 430) hx hb dL_law_425 (by decide) (fun _ => ?_) (fun h => absurd (by decide) h)
  refine lv_iload hx hb dL_law_430 (lv_at hl 1 rfl) ?_
  refine lv_if_ne (tgt := 447) hx hb dL_law_432 (by decide) (fun _ => ?_) (fun h => h.elim (by decide))
  refine lv_goto (tgt := 3027) hx hb dL_law_447 (by decide) ?_
  exact lc_end C hr hX hbl hbA w (lv_sub hl [2, 6] rfl) (by decide) (by decide)
set_option maxRecDepth 100000 in
set_option maxHeartbeats 4000000 in
theorem lc_3_2 {l : Launch} {G : GT} {p : Program} {e : Env} {s : State} {m : MethodId} {below : List Frame} {meth : Method} {c : Code} {A : Nat → Prop} {b : Nat} {xs : Nat → Int32} (C : Cx l s #[Value.ref b] G p s m #[Value.ref b] meth c RL cL_law 8 "law" A) (hr : meth.sig.returnType = some .boolean) (hX : va_X b 6 xs s s.heap) (hbl : b < s.heap.size) (hbA : ¬ A b) (n0 n1 n2 n3 n7 n8 n12 n16 n21 n22 n23 n24 n25 n26 n27 n28 n29 n30 n31 n32 n33 n34 n35 n36 n37 n64 n65 n66 n67 n68 n69 n70 n71 n72 n73 n74 n75 n76 n77 n78 n79 n80 n81 n82 n83 n84 n85 n86 n87 n88 n89 n90 n91 n92 n93 n94 n95 n96 n97 n98 n99 n100 n101 n102 n103 n104 n105 n106 n107 : Nat) (g0 : ¬ (xs 1) < 0) (g1 : ¬ 1 < (xs 1)) {H : Heap} {locs : List Loc} {ls : Array Slot} (w : Wd s G A [(n0, .inr (11, [.ref n1, .ref n2, .ref n3, .ref n7, .ref n8, .ref n12, .ref n16, .ref n21, .ref n22, .ref n37, .int 0, .int (-1), .int 0, .int 0, .null, .null, .null, .null, .null])), (n22, .inr (2, [.int 0, .int 0, .ref n23, .ref n24, .ref n25, .ref n26, .ref n27, .ref n28, .ref n29, .ref n30, .ref n31, .ref n32, .ref n33, .ref n34, .ref n35, .ref n36, .int 0])), (n64, .inr (12, [.int 0, .int 0, .int 0, .int 0, .int 0, .int 0, .int 0, .int (-1), .ref n65, .ref n66, .ref n67, .int 0, .ref n68, .ref n69, .ref n70, .ref n71, .ref n72, .ref n73, .ref n74, .int 0, .ref n75, .ref n76, .ref n77, .ref n78, .ref n79, .ref n80, .ref n81, .int 0, .int (-1), .int 0, .ref n82, .ref n83, .ref n84, .ref n85, .ref n86, .ref n87, .ref n88, .ref n89, .int 0, .ref n90, .ref n91, .ref n92, .ref n93, .ref n94, .int 0, .ref n95, .ref n96, .ref n97, .ref n98, .int 0, .ref n99, .ref n100, .ref n101, .ref n102, .int 0, .int 0, .ref n103, .ref n104, .ref n105, .ref n106])), (n66, .inl (G.2.1, 242, .inl (fun _ => 0))), (n107, .inl (G.2.2.1, 1, .inr (.inl (fun _ => 0))))] H locs) (hl : lv_has ls 8 [(4, .int 0), (3, .ref n107), (2, .ref n64), (1, .ref n0), (0, .ref b)]) : W p l e room_1 s m #[Value.ref b] below meth c H locs 108 210172 (lw_Z below #[Value.ref b] s) (F0 m 394 ls []) := by
  have hx := C.hx
  have hb := C.hb
  refine lv_aload_n hx hb dL_law_394 rfl (lv_at hl 3 rfl) ?_
  refine lv_aload_n hx hb dL_law_395 rfl (lv_at hl 4 rfl) ?_
  refine lv_iload hx hb dL_law_396 (lv_at hl 0 rfl) ?_
  refine lv_iconst (v := 1) hx hb dL_law_398 (by decide) ?_
  refine lv_iadd hx hb dL_law_399 ?_
  refine z_i (v := 1) (by decide +kernel) ?_
  refine va_sld hx hb hX hbl hbA w.2.2 (i := 1) (by decide) dL_law_400 ?_
  refine z_i (v := (xs 1)) rfl ?_
  refine lv_aload_n hx hb dL_law_401 rfl (lv_at hl 1 rfl) ?_
  refine fin_i C w (run_H C w mh_L_158 (k54_told C.b0 n0 n22 n107 n1 n2 n3 n7 n8 n12 n16 n21 n37 n23 n24 n25 n26 n27 n28 n29 n30 n31 n32 n33 n34 n35 n36 ((xs 1)) g1 g0 H.size) [0, 1, 4] rfl rfl (by decide) rfl hl.1 rfl (Nat.le_of_ble_eq_true rfl) dL_law_402 (cells2 := 108) (slots2 := 210172) (by decide)) [0, 1, 4] [2, 3] rfl rfl (by decide) (cells2 := 108) (slots2 := 210172) (by decide) (fun u1 H locs w => ?_)
  have w : Wd s G A [(n64, .inr (12, [.int 0, .int 0, .int 0, .int 0, .int 0, .int 0, .int 0, .int (-1), .ref n65, .ref n66, .ref n67, .int 0, .ref n68, .ref n69, .ref n70, .ref n71, .ref n72, .ref n73, .ref n74, .int 0, .ref n75, .ref n76, .ref n77, .ref n78, .ref n79, .ref n80, .ref n81, .int 0, .int (-1), .int 0, .ref n82, .ref n83, .ref n84, .ref n85, .ref n86, .ref n87, .ref n88, .ref n89, .int 0, .ref n90, .ref n91, .ref n92, .ref n93, .ref n94, .int 0, .ref n95, .ref n96, .ref n97, .ref n98, .int 0, .ref n99, .ref n100, .ref n101, .ref n102, .int 0, .int 0, .ref n103, .ref n104, .ref n105, .ref n106])), (n66, .inl (G.2.1, 242, .inl (fun _ => 0))), (n0, .inr (11, [.ref n1, .ref n2, .ref n3, .ref n7, .ref n8, .ref n12, .ref n16, .ref n21, .ref n22, .ref n37, .int 0, .int (-1), .int 0, .int 0, .null, .null, .null, .null, .null])), (n22, .inr (2, [.int 0, .int 0, .ref n23, .ref n24, .ref n25, .ref n26, .ref n27, .ref n28, .ref n29, .ref n30, .ref n31, .ref n32, .ref n33, .ref n34, .ref n35, .ref n36, .int 0])), (n107, .inl (G.2.2.1, 1, .inr (.inl (fun _ => 0))))] H locs := w
  refine lv_istore (lv' := [(5, .int 0), (4, .int 0), (3, .ref n107), (2, .ref n64), (1, .ref n0), (0, .ref b)]) hx hb dL_law_405 hl (by decide) rfl (fun ls hl => ?_)
  refine lv_aload_n hx hb dL_law_407 rfl (lv_at hl 3 rfl) ?_
  refine lv_aload_n hx hb dL_law_408 rfl (lv_at hl 5 rfl) ?_
  refine lv_iload hx hb dL_law_409 (lv_at hl 1 rfl) ?_
  refine lv_iconst (v := 1) hx hb dL_law_411 (by decide) ?_
  refine lv_iadd hx hb dL_law_412 ?_
  refine z_i (v := 1) (by decide +kernel) ?_
  refine va_sld hx hb hX hbl hbA w.2.2 (i := 1) (by decide) dL_law_413 ?_
  refine z_i (v := (xs 1)) rfl ?_
  refine fin_i C w (run_V C w mv_L_160 (k58_told C.b0 n64 n66 n65 n67 n68 n69 n70 n71 n72 n73 n74 n75 n76 n77 n78 n79 n80 n81 n82 n83 n84 n85 n86 n87 n88 n89 n90 n91 n92 n93 n94 n95 n96 n97 n98 n99 n100 n101 n102 n103 n104 n105 n106 ((xs 1)) g1 g0 H.size) [0, 1] rfl rfl 0 rfl rfl (by decide) rfl hl.1 rfl (Nat.le_of_ble_eq_true rfl) dL_law_414 (cells2 := 108) (slots2 := 210172) (by decide)) [0, 1] [2, 3, 4] rfl rfl (by decide) (cells2 := 108) (slots2 := 210172) (by decide) (fun u2 H locs w => ?_)
  have w : Wd s G A [(n0, .inr (11, [.ref n1, .ref n2, .ref n3, .ref n7, .ref n8, .ref n12, .ref n16, .ref n21, .ref n22, .ref n37, .int 0, .int (-1), .int 0, .int 0, .null, .null, .null, .null, .null])), (n22, .inr (2, [.int 0, .int 0, .ref n23, .ref n24, .ref n25, .ref n26, .ref n27, .ref n28, .ref n29, .ref n30, .ref n31, .ref n32, .ref n33, .ref n34, .ref n35, .ref n36, .int 0])), (n107, .inl (G.2.2.1, 1, .inr (.inl (fun _ => 0)))), (n64, .inr (12, [.int 0, .int 0, .int 0, .int 0, .int 0, .int 0, .int 0, .int (-1), .ref n65, .ref n66, .ref n67, .int 0, .ref n68, .ref n69, .ref n70, .ref n71, .ref n72, .ref n73, .ref n74, .int 0, .ref n75, .ref n76, .ref n77, .ref n78, .ref n79, .ref n80, .ref n81, .int 0, .int (-1), .int 0, .ref n82, .ref n83, .ref n84, .ref n85, .ref n86, .ref n87, .ref n88, .ref n89, .int 0, .ref n90, .ref n91, .ref n92, .ref n93, .ref n94, .int 0, .ref n95, .ref n96, .ref n97, .ref n98, .int 0, .ref n99, .ref n100, .ref n101, .ref n102, .int 0, .int 0, .ref n103, .ref n104, .ref n105, .ref n106])), (n66, .inl (G.2.1, 242, .inl (fun _ => 0)))] H locs := w
  refine lv_istore (lv' := [(6, .int 0), (5, .int 0), (4, .int 0), (3, .ref n107), (2, .ref n64), (1, .ref n0), (0, .ref b)]) hx hb dL_law_417 hl (by decide) rfl (fun ls hl => ?_)
  refine lv_aload_n hx hb dL_law_419 rfl (lv_at hl 4 rfl) ?_
  refine fin_i C w (run_V C w mv_L_150 (k59_thrown C.b0 n64 n65 n66 n67 n68 n69 n70 n71 n72 n73 n74 n75 n76 n77 n78 n79 n80 n81 n82 n83 n84 n85 n86 n87 n88 n89 n90 n91 n92 n93 n94 n95 n96 n97 n98 n99 n100 n101 n102 n103 n104 n105 n106 H.size) [3] rfl rfl 3 rfl rfl (by decide) rfl hl.1 rfl (Nat.le_of_ble_eq_true rfl) dL_law_420 (cells2 := 108) (slots2 := 210172) (by decide)) [3] [0, 1, 2, 4] rfl rfl (by decide) (cells2 := 108) (slots2 := 210172) (by decide) (fun u3 H locs w => ?_)
  have w : Wd s G A [(n0, .inr (11, [.ref n1, .ref n2, .ref n3, .ref n7, .ref n8, .ref n12, .ref n16, .ref n21, .ref n22, .ref n37, .int 0, .int (-1), .int 0, .int 0, .null, .null, .null, .null, .null])), (n22, .inr (2, [.int 0, .int 0, .ref n23, .ref n24, .ref n25, .ref n26, .ref n27, .ref n28, .ref n29, .ref n30, .ref n31, .ref n32, .ref n33, .ref n34, .ref n35, .ref n36, .int 0])), (n107, .inl (G.2.2.1, 1, .inr (.inl (fun _ => 0)))), (n66, .inl (G.2.1, 242, .inl (fun _ => 0))), (n64, .inr (12, [.int 0, .int 0, .int 0, .int 0, .int 0, .int 0, .int 0, .int (-1), .ref n65, .ref n66, .ref n67, .int 0, .ref n68, .ref n69, .ref n70, .ref n71, .ref n72, .ref n73, .ref n74, .int 0, .ref n75, .ref n76, .ref n77, .ref n78, .ref n79, .ref n80, .ref n81, .int 0, .int (-1), .int 0, .ref n82, .ref n83, .ref n84, .ref n85, .ref n86, .ref n87, .ref n88, .ref n89, .int 0, .ref n90, .ref n91, .ref n92, .ref n93, .ref n94, .int 0, .ref n95, .ref n96, .ref n97, .ref n98, .int 0, .ref n99, .ref n100, .ref n101, .ref n102, .int 0, .int 0, .ref n103, .ref n104, .ref n105, .ref n106]))] H locs := w
  refine lv_iload hx hb dL_law_423 (lv_at hl 1 rfl) ?_
  refine lv_icmp_eq (tgt := 430) hx hb dL_law_425 (by decide) (fun _ => ?_) (fun h => absurd (by decide) h)
  refine lv_iload hx hb dL_law_430 (lv_at hl 1 rfl) ?_
  refine lv_if_ne (tgt := 447) hx hb dL_law_432 (by decide) (fun h => absurd (by decide) h) (fun _ => ?_)
  refine lv_aload_n hx hb dL_law_435 rfl (lv_at hl 3 rfl) ?_
  refine lv_iconst (v := 0) hx hb dL_law_436 (by decide) ?_
  refine r_lald C w 2 rfl (IX.of (k := 0) (by decide +kernel)) (v := 0) rfl dL_law_437 ?_
  refine lv_iload hx hb dL_law_438 (lv_at hl 0 rfl) ?_
  refine lv_i2l (v := 0) hx hb dL_law_440 (by decide +kernel) ?_
  refine W.lcmp hx hb dL_law_441 ?_
  refine z_i (v := 0) (by decide +kernel) ?_
  refine lv_if_eq (tgt := 447) hx hb dL_law_442 (by decide) (fun _ => ?_) (fun h => absurd (by decide) h)
  refine lv_goto (tgt := 3027) hx hb dL_law_447 (by decide) ?_
  exact lc_end C hr hX hbl hbA w (lv_sub hl [2, 6] rfl) (by decide) (by decide)
set_option maxRecDepth 100000 in
set_option maxHeartbeats 4000000 in
theorem lc_4_0 {l : Launch} {G : GT} {p : Program} {e : Env} {s : State} {m : MethodId} {below : List Frame} {meth : Method} {c : Code} {A : Nat → Prop} {b : Nat} {xs : Nat → Int32} (C : Cx l s #[Value.ref b] G p s m #[Value.ref b] meth c RL cL_law 8 "law" A) (hr : meth.sig.returnType = some .boolean) (hX : va_X b 6 xs s s.heap) (hbl : b < s.heap.size) (hbA : ¬ A b) (n0 n1 n2 n3 n7 n8 n12 n16 n21 n22 n23 n24 n25 n26 n27 n28 n29 n30 n31 n32 n33 n34 n35 n36 n37 n64 n65 n66 n67 n68 n69 n70 n71 n72 n73 n74 n75 n76 n77 n78 n79 n80 n81 n82 n83 n84 n85 n86 n87 n88 n89 n90 n91 n92 n93 n94 n95 n96 n97 n98 n99 n100 n101 n102 n103 n104 n105 n106 n107 : Nat) {H : Heap} {locs : List Loc} {ls : Array Slot} (w : Wd s G A [(n0, .inr (11, [.ref n1, .ref n2, .ref n3, .ref n7, .ref n8, .ref n12, .ref n16, .ref n21, .ref n22, .ref n37, .int 0, .int (-1), .int 0, .int 0, .null, .null, .null, .null, .null])), (n22, .inr (2, [.int 0, .int 0, .ref n23, .ref n24, .ref n25, .ref n26, .ref n27, .ref n28, .ref n29, .ref n30, .ref n31, .ref n32, .ref n33, .ref n34, .ref n35, .ref n36, .int 0])), (n64, .inr (12, [.int 0, .int 0, .int 0, .int 0, .int 0, .int 0, .int 0, .int (-1), .ref n65, .ref n66, .ref n67, .int 0, .ref n68, .ref n69, .ref n70, .ref n71, .ref n72, .ref n73, .ref n74, .int 0, .ref n75, .ref n76, .ref n77, .ref n78, .ref n79, .ref n80, .ref n81, .int 0, .int (-1), .int 0, .ref n82, .ref n83, .ref n84, .ref n85, .ref n86, .ref n87, .ref n88, .ref n89, .int 0, .ref n90, .ref n91, .ref n92, .ref n93, .ref n94, .int 0, .ref n95, .ref n96, .ref n97, .ref n98, .int 0, .ref n99, .ref n100, .ref n101, .ref n102, .int 0, .int 0, .ref n103, .ref n104, .ref n105, .ref n106])), (n66, .inl (G.2.1, 242, .inl (fun _ => 0)))] H locs) (hl : lv_has ls 8 [(4, .int 0), (3, .ref n107), (2, .ref n64), (1, .ref n0), (0, .ref b)]) : W p l e room_1 s m #[Value.ref b] below meth c H locs 108 210172 (lw_Z below #[Value.ref b] s) (F0 m 450 ls []) := by
  have hx := C.hx
  have hb := C.hb
  refine lv_aload_n hx hb dL_law_450 rfl (lv_at hl 3 rfl) ?_
  refine lv_aload_n hx hb dL_law_451 rfl (lv_at hl 4 rfl) ?_
  refine lv_iload hx hb dL_law_452 (lv_at hl 0 rfl) ?_
  refine lv_iconst (v := 1) hx hb dL_law_454 (by decide) ?_
  refine lv_iadd hx hb dL_law_455 ?_
  refine z_i (v := 1) (by decide +kernel) ?_
  refine va_sld hx hb hX hbl hbA w.2.2 (i := 1) (by decide) dL_law_456 ?_
  refine z_i (v := (xs 1)) rfl ?_
  refine lv_aload_n hx hb dL_law_457 rfl (lv_at hl 4 rfl) ?_
  refine lv_iload hx hb dL_law_458 (lv_at hl 0 rfl) ?_
  refine lv_iconst (v := 2) hx hb dL_law_460 (by decide) ?_
  refine lv_iadd hx hb dL_law_461 ?_
  refine z_i (v := 2) (by decide +kernel) ?_
  refine va_sld hx hb hX hbl hbA w.2.2 (i := 2) (by decide) dL_law_462 ?_
  refine z_i (v := (xs 2)) rfl ?_
  refine lv_aload_n hx hb dL_law_463 rfl (lv_at hl 4 rfl) ?_
  refine lv_iload hx hb dL_law_464 (lv_at hl 0 rfl) ?_
  refine lv_iconst (v := 3) hx hb dL_law_466 (by decide) ?_
  refine lv_iadd hx hb dL_law_467 ?_
  refine z_i (v := 3) (by decide +kernel) ?_
  refine va_sld hx hb hX hbl hbA w.2.2 (i := 3) (by decide) dL_law_468 ?_
  refine z_i (v := (xs 3)) rfl ?_
  refine lv_aload_n hx hb dL_law_469 rfl (lv_at hl 1 rfl) ?_
  refine fin_i C w (run_H C w mh_L_161 (k62_arc C.b0 n0 n22 n107 n1 n2 n3 n7 n8 n12 n16 n21 n37 n23 n24 n25 n26 n27 n28 n29 n30 n31 n32 n33 n34 n35 n36 ((xs 1)) ((xs 2)) ((xs 3)) H.size) [0, 1] rfl rfl (by decide) rfl hl.1 rfl (Nat.le_of_ble_eq_true rfl) dL_law_470 (cells2 := 109) (slots2 := 210178) (by decide)) [0, 1] [2, 3] rfl rfl (by decide) (cells2 := 109) (slots2 := 210178) (by decide) (fun u1 H locs w => ?_)
  have w : Wd s G A [(n64, .inr (12, [.int 0, .int 0, .int 0, .int 0, .int 0, .int 0, .int 0, .int (-1), .ref n65, .ref n66, .ref n67, .int 0, .ref n68, .ref n69, .ref n70, .ref n71, .ref n72, .ref n73, .ref n74, .int 0, .ref n75, .ref n76, .ref n77, .ref n78, .ref n79, .ref n80, .ref n81, .int 0, .int (-1), .int 0, .ref n82, .ref n83, .ref n84, .ref n85, .ref n86, .ref n87, .ref n88, .ref n89, .int 0, .ref n90, .ref n91, .ref n92, .ref n93, .ref n94, .int 0, .ref n95, .ref n96, .ref n97, .ref n98, .int 0, .ref n99, .ref n100, .ref n101, .ref n102, .int 0, .int 0, .ref n103, .ref n104, .ref n105, .ref n106])), (n66, .inl (G.2.1, 242, .inl (fun _ => 0))), (n0, .inr (11, [.ref n1, .ref n2, .ref n3, .ref n7, .ref n8, .ref n12, .ref n16, .ref n21, .ref n22, .ref n37, .int 0, .int (-1), .int 0, .int 0, .null, .null, .null, .null, .null])), (n22, .inr (2, [.int 0, .int 0, .ref n23, .ref n24, .ref n25, .ref n26, .ref n27, .ref n28, .ref n29, .ref n30, .ref n31, .ref n32, .ref n33, .ref n34, .ref n35, .ref n36, .int 0]))] H locs := w
  refine lv_istore (lv' := [(5, .int 1), (4, .int 0), (3, .ref n107), (2, .ref n64), (1, .ref n0), (0, .ref b)]) hx hb dL_law_473 hl (by decide) rfl (fun ls hl => ?_)
  refine lv_aload_n hx hb dL_law_475 rfl (lv_at hl 3 rfl) ?_
  refine lv_aload_n hx hb dL_law_476 rfl (lv_at hl 5 rfl) ?_
  refine lv_iload hx hb dL_law_477 (lv_at hl 1 rfl) ?_
  refine lv_iconst (v := 1) hx hb dL_law_479 (by decide) ?_
  refine lv_iadd hx hb dL_law_480 ?_
  refine z_i (v := 1) (by decide +kernel) ?_
  refine va_sld hx hb hX hbl hbA w.2.2 (i := 1) (by decide) dL_law_481 ?_
  refine z_i (v := (xs 1)) rfl ?_
  refine lv_aload_n hx hb dL_law_482 rfl (lv_at hl 5 rfl) ?_
  refine lv_iload hx hb dL_law_483 (lv_at hl 1 rfl) ?_
  refine lv_iconst (v := 2) hx hb dL_law_485 (by decide) ?_
  refine lv_iadd hx hb dL_law_486 ?_
  refine z_i (v := 2) (by decide +kernel) ?_
  refine va_sld hx hb hX hbl hbA w.2.2 (i := 2) (by decide) dL_law_487 ?_
  refine z_i (v := (xs 2)) rfl ?_
  refine lv_aload_n hx hb dL_law_488 rfl (lv_at hl 5 rfl) ?_
  refine lv_iload hx hb dL_law_489 (lv_at hl 1 rfl) ?_
  refine lv_iconst (v := 3) hx hb dL_law_491 (by decide) ?_
  refine lv_iadd hx hb dL_law_492 ?_
  refine z_i (v := 3) (by decide +kernel) ?_
  refine va_sld hx hb hX hbl hbA w.2.2 (i := 3) (by decide) dL_law_493 ?_
  refine z_i (v := (xs 3)) rfl ?_
  refine fin_i C w (run_V C w mv_L_164 (k65_arc C.b0 n64 n66 n65 n67 n68 n69 n70 n71 n72 n73 n74 n75 n76 n77 n78 n79 n80 n81 n82 n83 n84 n85 n86 n87 n88 n89 n90 n91 n92 n93 n94 n95 n96 n97 n98 n99 n100 n101 n102 n103 n104 n105 n106 ((xs 1)) ((xs 2)) ((xs 3)) H.size) [0, 1] rfl rfl 0 rfl rfl (by decide) rfl hl.1 rfl (Nat.le_of_ble_eq_true rfl) dL_law_494 (cells2 := 109) (slots2 := 210178) (by decide)) [0, 1] [2, 3] rfl rfl (by decide) (cells2 := 109) (slots2 := 210178) (by decide) (fun u2 H locs w => ?_)
  have w : Wd s G A [(n0, .inr (11, [.ref n1, .ref n2, .ref n3, .ref n7, .ref n8, .ref n12, .ref n16, .ref n21, .ref n22, .ref n37, .int 0, .int (-1), .int 0, .int 0, .null, .null, .null, .null, .null])), (n22, .inr (2, [.int 0, .int 0, .ref n23, .ref n24, .ref n25, .ref n26, .ref n27, .ref n28, .ref n29, .ref n30, .ref n31, .ref n32, .ref n33, .ref n34, .ref n35, .ref n36, .int 0])), (n64, .inr (12, [.int 1, .int 0, .int 0, .int 0, .int 0, .int 0, .int 0, .int (-1), .ref n65, .ref n66, .ref n67, .int 0, .ref n68, .ref n69, .ref n70, .ref n71, .ref n72, .ref n73, .ref n74, .int 0, .ref n75, .ref n76, .ref n77, .ref n78, .ref n79, .ref n80, .ref n81, .int 0, .int (-1), .int 0, .ref n82, .ref n83, .ref n84, .ref n85, .ref n86, .ref n87, .ref n88, .ref n89, .int 0, .ref n90, .ref n91, .ref n92, .ref n93, .ref n94, .int 0, .ref n95, .ref n96, .ref n97, .ref n98, .int 0, .ref n99, .ref n100, .ref n101, .ref n102, .int 0, .int 0, .ref n103, .ref n104, .ref n105, .ref n106])), (n66, .inl (G.2.1, 242, .inl (fun _ => 0)))] H locs := w
  refine lv_istore (lv' := [(6, .int 0), (5, .int 1), (4, .int 0), (3, .ref n107), (2, .ref n64), (1, .ref n0), (0, .ref b)]) hx hb dL_law_497 hl (by decide) rfl (fun ls hl => ?_)
  refine lv_aload_n hx hb dL_law_499 rfl (lv_at hl 4 rfl) ?_
  refine fin_i C w (run_V C w mv_L_150 (k20_thrown C.b0 n64 n65 n66 n67 n68 n69 n70 n71 n72 n73 n74 n75 n76 n77 n78 n79 n80 n81 n82 n83 n84 n85 n86 n87 n88 n89 n90 n91 n92 n93 n94 n95 n96 n97 n98 n99 n100 n101 n102 n103 n104 n105 n106 H.size) [2] rfl rfl 2 rfl rfl (by decide) rfl hl.1 rfl (Nat.le_of_ble_eq_true rfl) dL_law_500 (cells2 := 109) (slots2 := 210178) (by decide)) [2] [0, 1, 3] rfl rfl (by decide) (cells2 := 109) (slots2 := 210178) (by decide) (fun u3 H locs w => ?_)
  have w : Wd s G A [(n0, .inr (11, [.ref n1, .ref n2, .ref n3, .ref n7, .ref n8, .ref n12, .ref n16, .ref n21, .ref n22, .ref n37, .int 0, .int (-1), .int 0, .int 0, .null, .null, .null, .null, .null])), (n22, .inr (2, [.int 0, .int 0, .ref n23, .ref n24, .ref n25, .ref n26, .ref n27, .ref n28, .ref n29, .ref n30, .ref n31, .ref n32, .ref n33, .ref n34, .ref n35, .ref n36, .int 0])), (n66, .inl (G.2.1, 242, .inl (fun _ => 0))), (n64, .inr (12, [.int 1, .int 0, .int 0, .int 0, .int 0, .int 0, .int 0, .int (-1), .ref n65, .ref n66, .ref n67, .int 0, .ref n68, .ref n69, .ref n70, .ref n71, .ref n72, .ref n73, .ref n74, .int 0, .ref n75, .ref n76, .ref n77, .ref n78, .ref n79, .ref n80, .ref n81, .int 0, .int (-1), .int 0, .ref n82, .ref n83, .ref n84, .ref n85, .ref n86, .ref n87, .ref n88, .ref n89, .int 0, .ref n90, .ref n91, .ref n92, .ref n93, .ref n94, .int 0, .ref n95, .ref n96, .ref n97, .ref n98, .int 0, .ref n99, .ref n100, .ref n101, .ref n102, .int 0, .int 0, .ref n103, .ref n104, .ref n105, .ref n106]))] H locs := w
  refine lv_iload hx hb dL_law_503 (lv_at hl 1 rfl) ?_
  refine lv_icmp_eq (tgt := 510) hx hb dL_law_505 (by decide) (fun _ => ?_) (fun h => absurd (by decide) h)
  refine lv_iload hx hb dL_law_510 (lv_at hl 1 rfl) ?_
  refine lv_if_ne (tgt := 527) hx hb dL_law_512 (by decide) (fun _ => ?_) (fun h => h.elim (by decide))
  refine lv_goto (tgt := 3027) hx hb dL_law_527 (by decide) ?_
  exact lc_end C hr hX hbl hbA w (lv_sub hl [2, 6] rfl) (by decide) (by decide)
set_option maxRecDepth 100000 in
set_option maxHeartbeats 4000000 in
theorem lc_5_0 {l : Launch} {G : GT} {p : Program} {e : Env} {s : State} {m : MethodId} {below : List Frame} {meth : Method} {c : Code} {A : Nat → Prop} {b : Nat} {xs : Nat → Int32} (C : Cx l s #[Value.ref b] G p s m #[Value.ref b] meth c RL cL_law 8 "law" A) (hr : meth.sig.returnType = some .boolean) (hX : va_X b 6 xs s s.heap) (hbl : b < s.heap.size) (hbA : ¬ A b) (n0 n1 n2 n3 n7 n8 n12 n16 n21 n22 n23 n24 n25 n26 n27 n28 n29 n30 n31 n32 n33 n34 n35 n36 n37 n64 n65 n66 n67 n68 n69 n70 n71 n72 n73 n74 n75 n76 n77 n78 n79 n80 n81 n82 n83 n84 n85 n86 n87 n88 n89 n90 n91 n92 n93 n94 n95 n96 n97 n98 n99 n100 n101 n102 n103 n104 n105 n106 n107 : Nat) {H : Heap} {locs : List Loc} {ls : Array Slot} (w : Wd s G A [(n0, .inr (11, [.ref n1, .ref n2, .ref n3, .ref n7, .ref n8, .ref n12, .ref n16, .ref n21, .ref n22, .ref n37, .int 0, .int (-1), .int 0, .int 0, .null, .null, .null, .null, .null])), (n22, .inr (2, [.int 0, .int 0, .ref n23, .ref n24, .ref n25, .ref n26, .ref n27, .ref n28, .ref n29, .ref n30, .ref n31, .ref n32, .ref n33, .ref n34, .ref n35, .ref n36, .int 0])), (n64, .inr (12, [.int 0, .int 0, .int 0, .int 0, .int 0, .int 0, .int 0, .int (-1), .ref n65, .ref n66, .ref n67, .int 0, .ref n68, .ref n69, .ref n70, .ref n71, .ref n72, .ref n73, .ref n74, .int 0, .ref n75, .ref n76, .ref n77, .ref n78, .ref n79, .ref n80, .ref n81, .int 0, .int (-1), .int 0, .ref n82, .ref n83, .ref n84, .ref n85, .ref n86, .ref n87, .ref n88, .ref n89, .int 0, .ref n90, .ref n91, .ref n92, .ref n93, .ref n94, .int 0, .ref n95, .ref n96, .ref n97, .ref n98, .int 0, .ref n99, .ref n100, .ref n101, .ref n102, .int 0, .int 0, .ref n103, .ref n104, .ref n105, .ref n106])), (n66, .inl (G.2.1, 242, .inl (fun _ => 0)))] H locs) (hl : lv_has ls 8 [(4, .int 0), (3, .ref n107), (2, .ref n64), (1, .ref n0), (0, .ref b)]) : W p l e room_1 s m #[Value.ref b] below meth c H locs 108 210172 (lw_Z below #[Value.ref b] s) (F0 m 530 ls []) := by
  have hx := C.hx
  have hb := C.hb
  refine lv_aload_n hx hb dL_law_530 rfl (lv_at hl 3 rfl) ?_
  refine lv_aload_n hx hb dL_law_531 rfl (lv_at hl 4 rfl) ?_
  refine lv_iload hx hb dL_law_532 (lv_at hl 0 rfl) ?_
  refine lv_iconst (v := 1) hx hb dL_law_534 (by decide) ?_
  refine lv_iadd hx hb dL_law_535 ?_
  refine z_i (v := 1) (by decide +kernel) ?_
  refine va_sld hx hb hX hbl hbA w.2.2 (i := 1) (by decide) dL_law_536 ?_
  refine z_i (v := (xs 1)) rfl ?_
  refine lv_aload_n hx hb dL_law_537 rfl (lv_at hl 4 rfl) ?_
  refine lv_iload hx hb dL_law_538 (lv_at hl 0 rfl) ?_
  refine lv_iconst (v := 2) hx hb dL_law_540 (by decide) ?_
  refine lv_iadd hx hb dL_law_541 ?_
  refine z_i (v := 2) (by decide +kernel) ?_
  refine va_sld hx hb hX hbl hbA w.2.2 (i := 2) (by decide) dL_law_542 ?_
  refine z_i (v := (xs 2)) rfl ?_
  refine lv_aload_n hx hb dL_law_543 rfl (lv_at hl 1 rfl) ?_
  refine fin_i C w (run_H C w mh_L_165 (k67_act C.b0 n0 n22 n107 n1 n2 n3 n7 n8 n12 n16 n21 n37 n23 n24 n25 n26 n27 n28 n29 n30 n31 n32 n33 n34 n35 n36 ((xs 1)) ((xs 2)) H.size) [0, 1] rfl rfl (by decide) rfl hl.1 rfl (Nat.le_of_ble_eq_true rfl) dL_law_544 (cells2 := 109) (slots2 := 210178) (by decide)) [0, 1] [2, 3] rfl rfl (by decide) (cells2 := 109) (slots2 := 210178) (by decide) (fun u1 H locs w => ?_)
  have w : Wd s G A [(n64, .inr (12, [.int 0, .int 0, .int 0, .int 0, .int 0, .int 0, .int 0, .int (-1), .ref n65, .ref n66, .ref n67, .int 0, .ref n68, .ref n69, .ref n70, .ref n71, .ref n72, .ref n73, .ref n74, .int 0, .ref n75, .ref n76, .ref n77, .ref n78, .ref n79, .ref n80, .ref n81, .int 0, .int (-1), .int 0, .ref n82, .ref n83, .ref n84, .ref n85, .ref n86, .ref n87, .ref n88, .ref n89, .int 0, .ref n90, .ref n91, .ref n92, .ref n93, .ref n94, .int 0, .ref n95, .ref n96, .ref n97, .ref n98, .int 0, .ref n99, .ref n100, .ref n101, .ref n102, .int 0, .int 0, .ref n103, .ref n104, .ref n105, .ref n106])), (n66, .inl (G.2.1, 242, .inl (fun _ => 0))), (n0, .inr (11, [.ref n1, .ref n2, .ref n3, .ref n7, .ref n8, .ref n12, .ref n16, .ref n21, .ref n22, .ref n37, .int 0, .int (-1), .int 0, .int 0, .null, .null, .null, .null, .null])), (n22, .inr (2, [.int 0, .int 0, .ref n23, .ref n24, .ref n25, .ref n26, .ref n27, .ref n28, .ref n29, .ref n30, .ref n31, .ref n32, .ref n33, .ref n34, .ref n35, .ref n36, .int 0]))] H locs := w
  refine lv_istore (lv' := [(5, .int 1), (4, .int 0), (3, .ref n107), (2, .ref n64), (1, .ref n0), (0, .ref b)]) hx hb dL_law_547 hl (by decide) rfl (fun ls hl => ?_)
  refine lv_aload_n hx hb dL_law_549 rfl (lv_at hl 3 rfl) ?_
  refine lv_aload_n hx hb dL_law_550 rfl (lv_at hl 5 rfl) ?_
  refine lv_iload hx hb dL_law_551 (lv_at hl 1 rfl) ?_
  refine lv_iconst (v := 1) hx hb dL_law_553 (by decide) ?_
  refine lv_iadd hx hb dL_law_554 ?_
  refine z_i (v := 1) (by decide +kernel) ?_
  refine va_sld hx hb hX hbl hbA w.2.2 (i := 1) (by decide) dL_law_555 ?_
  refine z_i (v := (xs 1)) rfl ?_
  refine lv_aload_n hx hb dL_law_556 rfl (lv_at hl 5 rfl) ?_
  refine lv_iload hx hb dL_law_557 (lv_at hl 1 rfl) ?_
  refine lv_iconst (v := 2) hx hb dL_law_559 (by decide) ?_
  refine lv_iadd hx hb dL_law_560 ?_
  refine z_i (v := 2) (by decide +kernel) ?_
  refine va_sld hx hb hX hbl hbA w.2.2 (i := 2) (by decide) dL_law_561 ?_
  refine z_i (v := (xs 2)) rfl ?_
  refine fin_i C w (run_V C w mv_L_168 (k68_act C.b0 n64 n66 n65 n67 n68 n69 n70 n71 n72 n73 n74 n75 n76 n77 n78 n79 n80 n81 n82 n83 n84 n85 n86 n87 n88 n89 n90 n91 n92 n93 n94 n95 n96 n97 n98 n99 n100 n101 n102 n103 n104 n105 n106 ((xs 1)) ((xs 2)) H.size) [0, 1] rfl rfl 0 rfl rfl (by decide) rfl hl.1 rfl (Nat.le_of_ble_eq_true rfl) dL_law_562 (cells2 := 109) (slots2 := 210178) (by decide)) [0, 1] [2, 3] rfl rfl (by decide) (cells2 := 109) (slots2 := 210178) (by decide) (fun u2 H locs w => ?_)
  have w : Wd s G A [(n0, .inr (11, [.ref n1, .ref n2, .ref n3, .ref n7, .ref n8, .ref n12, .ref n16, .ref n21, .ref n22, .ref n37, .int 0, .int (-1), .int 0, .int 0, .null, .null, .null, .null, .null])), (n22, .inr (2, [.int 0, .int 0, .ref n23, .ref n24, .ref n25, .ref n26, .ref n27, .ref n28, .ref n29, .ref n30, .ref n31, .ref n32, .ref n33, .ref n34, .ref n35, .ref n36, .int 0])), (n64, .inr (12, [.int 1, .int 0, .int 0, .int 0, .int 0, .int 0, .int 0, .int (-1), .ref n65, .ref n66, .ref n67, .int 0, .ref n68, .ref n69, .ref n70, .ref n71, .ref n72, .ref n73, .ref n74, .int 0, .ref n75, .ref n76, .ref n77, .ref n78, .ref n79, .ref n80, .ref n81, .int 0, .int (-1), .int 0, .ref n82, .ref n83, .ref n84, .ref n85, .ref n86, .ref n87, .ref n88, .ref n89, .int 0, .ref n90, .ref n91, .ref n92, .ref n93, .ref n94, .int 0, .ref n95, .ref n96, .ref n97, .ref n98, .int 0, .ref n99, .ref n100, .ref n101, .ref n102, .int 0, .int 0, .ref n103, .ref n104, .ref n105, .ref n106])), (n66, .inl (G.2.1, 242, .inl (fun _ => 0)))] H locs := w
  refine lv_istore (lv' := [(6, .int 0), (5, .int 1), (4, .int 0), (3, .ref n107), (2, .ref n64), (1, .ref n0), (0, .ref b)]) hx hb dL_law_565 hl (by decide) rfl (fun ls hl => ?_)
  refine lv_aload_n hx hb dL_law_567 rfl (lv_at hl 4 rfl) ?_
  refine fin_i C w (run_V C w mv_L_150 (k20_thrown C.b0 n64 n65 n66 n67 n68 n69 n70 n71 n72 n73 n74 n75 n76 n77 n78 n79 n80 n81 n82 n83 n84 n85 n86 n87 n88 n89 n90 n91 n92 n93 n94 n95 n96 n97 n98 n99 n100 n101 n102 n103 n104 n105 n106 H.size) [2] rfl rfl 2 rfl rfl (by decide) rfl hl.1 rfl (Nat.le_of_ble_eq_true rfl) dL_law_568 (cells2 := 109) (slots2 := 210178) (by decide)) [2] [0, 1, 3] rfl rfl (by decide) (cells2 := 109) (slots2 := 210178) (by decide) (fun u3 H locs w => ?_)
  have w : Wd s G A [(n0, .inr (11, [.ref n1, .ref n2, .ref n3, .ref n7, .ref n8, .ref n12, .ref n16, .ref n21, .ref n22, .ref n37, .int 0, .int (-1), .int 0, .int 0, .null, .null, .null, .null, .null])), (n22, .inr (2, [.int 0, .int 0, .ref n23, .ref n24, .ref n25, .ref n26, .ref n27, .ref n28, .ref n29, .ref n30, .ref n31, .ref n32, .ref n33, .ref n34, .ref n35, .ref n36, .int 0])), (n66, .inl (G.2.1, 242, .inl (fun _ => 0))), (n64, .inr (12, [.int 1, .int 0, .int 0, .int 0, .int 0, .int 0, .int 0, .int (-1), .ref n65, .ref n66, .ref n67, .int 0, .ref n68, .ref n69, .ref n70, .ref n71, .ref n72, .ref n73, .ref n74, .int 0, .ref n75, .ref n76, .ref n77, .ref n78, .ref n79, .ref n80, .ref n81, .int 0, .int (-1), .int 0, .ref n82, .ref n83, .ref n84, .ref n85, .ref n86, .ref n87, .ref n88, .ref n89, .int 0, .ref n90, .ref n91, .ref n92, .ref n93, .ref n94, .int 0, .ref n95, .ref n96, .ref n97, .ref n98, .int 0, .ref n99, .ref n100, .ref n101, .ref n102, .int 0, .int 0, .ref n103, .ref n104, .ref n105, .ref n106]))] H locs := w
  refine lv_iload hx hb dL_law_571 (lv_at hl 1 rfl) ?_
  refine lv_icmp_eq (tgt := 578) hx hb dL_law_573 (by decide) (fun _ => ?_) (fun h => absurd (by decide) h)
  refine lv_iload hx hb dL_law_578 (lv_at hl 1 rfl) ?_
  refine lv_if_ne (tgt := 595) hx hb dL_law_580 (by decide) (fun _ => ?_) (fun h => h.elim (by decide))
  refine lv_goto (tgt := 3027) hx hb dL_law_595 (by decide) ?_
  exact lc_end C hr hX hbl hbA w (lv_sub hl [2, 6] rfl) (by decide) (by decide)
set_option maxRecDepth 100000 in
set_option maxHeartbeats 4000000 in
theorem lc_6_0 {l : Launch} {G : GT} {p : Program} {e : Env} {s : State} {m : MethodId} {below : List Frame} {meth : Method} {c : Code} {A : Nat → Prop} {b : Nat} {xs : Nat → Int32} (C : Cx l s #[Value.ref b] G p s m #[Value.ref b] meth c RL cL_law 8 "law" A) (hr : meth.sig.returnType = some .boolean) (hX : va_X b 6 xs s s.heap) (hbl : b < s.heap.size) (hbA : ¬ A b) (n0 n1 n2 n3 n7 n8 n12 n16 n21 n22 n23 n24 n25 n26 n27 n28 n29 n30 n31 n32 n33 n34 n35 n36 n37 n64 n65 n66 n67 n68 n69 n70 n71 n72 n73 n74 n75 n76 n77 n78 n79 n80 n81 n82 n83 n84 n85 n86 n87 n88 n89 n90 n91 n92 n93 n94 n95 n96 n97 n98 n99 n100 n101 n102 n103 n104 n105 n106 n107 : Nat) {H : Heap} {locs : List Loc} {ls : Array Slot} (w : Wd s G A [(n0, .inr (11, [.ref n1, .ref n2, .ref n3, .ref n7, .ref n8, .ref n12, .ref n16, .ref n21, .ref n22, .ref n37, .int 0, .int (-1), .int 0, .int 0, .null, .null, .null, .null, .null])), (n22, .inr (2, [.int 0, .int 0, .ref n23, .ref n24, .ref n25, .ref n26, .ref n27, .ref n28, .ref n29, .ref n30, .ref n31, .ref n32, .ref n33, .ref n34, .ref n35, .ref n36, .int 0])), (n64, .inr (12, [.int 0, .int 0, .int 0, .int 0, .int 0, .int 0, .int 0, .int (-1), .ref n65, .ref n66, .ref n67, .int 0, .ref n68, .ref n69, .ref n70, .ref n71, .ref n72, .ref n73, .ref n74, .int 0, .ref n75, .ref n76, .ref n77, .ref n78, .ref n79, .ref n80, .ref n81, .int 0, .int (-1), .int 0, .ref n82, .ref n83, .ref n84, .ref n85, .ref n86, .ref n87, .ref n88, .ref n89, .int 0, .ref n90, .ref n91, .ref n92, .ref n93, .ref n94, .int 0, .ref n95, .ref n96, .ref n97, .ref n98, .int 0, .ref n99, .ref n100, .ref n101, .ref n102, .int 0, .int 0, .ref n103, .ref n104, .ref n105, .ref n106])), (n66, .inl (G.2.1, 242, .inl (fun _ => 0)))] H locs) (hl : lv_has ls 8 [(4, .int 0), (3, .ref n107), (2, .ref n64), (1, .ref n0), (0, .ref b)]) : W p l e room_1 s m #[Value.ref b] below meth c H locs 108 210172 (lw_Z below #[Value.ref b] s) (F0 m 598 ls []) := by
  have hx := C.hx
  have hb := C.hb
  refine lv_aload_n hx hb dL_law_598 rfl (lv_at hl 3 rfl) ?_
  refine lv_aload_n hx hb dL_law_599 rfl (lv_at hl 4 rfl) ?_
  refine lv_iload hx hb dL_law_600 (lv_at hl 0 rfl) ?_
  refine lv_iconst (v := 1) hx hb dL_law_602 (by decide) ?_
  refine lv_iadd hx hb dL_law_603 ?_
  refine z_i (v := 1) (by decide +kernel) ?_
  refine va_sld hx hb hX hbl hbA w.2.2 (i := 1) (by decide) dL_law_604 ?_
  refine z_i (v := (xs 1)) rfl ?_
  refine lv_aload_n hx hb dL_law_605 rfl (lv_at hl 4 rfl) ?_
  refine lv_iload hx hb dL_law_606 (lv_at hl 0 rfl) ?_
  refine lv_iconst (v := 2) hx hb dL_law_608 (by decide) ?_
  refine lv_iadd hx hb dL_law_609 ?_
  refine z_i (v := 2) (by decide +kernel) ?_
  refine va_sld hx hb hX hbl hbA w.2.2 (i := 2) (by decide) dL_law_610 ?_
  refine z_i (v := (xs 2)) rfl ?_
  refine lv_aload_n hx hb dL_law_611 rfl (lv_at hl 1 rfl) ?_
  refine fin_i C w (run_H C w mh_L_169 (k71_marks C.b0 n0 n22 n107 n1 n2 n3 n7 n8 n12 n16 n21 n37 n23 n24 n25 n26 n27 n28 n29 n30 n31 n32 n33 n34 n35 n36 ((xs 1)) ((xs 2)) H.size) [0, 1] rfl rfl (by decide) rfl hl.1 rfl (Nat.le_of_ble_eq_true rfl) dL_law_612 (cells2 := 109) (slots2 := 210178) (by decide)) [0, 1] [2, 3] rfl rfl (by decide) (cells2 := 109) (slots2 := 210178) (by decide) (fun u1 H locs w => ?_)
  have w : Wd s G A [(n64, .inr (12, [.int 0, .int 0, .int 0, .int 0, .int 0, .int 0, .int 0, .int (-1), .ref n65, .ref n66, .ref n67, .int 0, .ref n68, .ref n69, .ref n70, .ref n71, .ref n72, .ref n73, .ref n74, .int 0, .ref n75, .ref n76, .ref n77, .ref n78, .ref n79, .ref n80, .ref n81, .int 0, .int (-1), .int 0, .ref n82, .ref n83, .ref n84, .ref n85, .ref n86, .ref n87, .ref n88, .ref n89, .int 0, .ref n90, .ref n91, .ref n92, .ref n93, .ref n94, .int 0, .ref n95, .ref n96, .ref n97, .ref n98, .int 0, .ref n99, .ref n100, .ref n101, .ref n102, .int 0, .int 0, .ref n103, .ref n104, .ref n105, .ref n106])), (n66, .inl (G.2.1, 242, .inl (fun _ => 0))), (n0, .inr (11, [.ref n1, .ref n2, .ref n3, .ref n7, .ref n8, .ref n12, .ref n16, .ref n21, .ref n22, .ref n37, .int 0, .int (-1), .int 0, .int 0, .null, .null, .null, .null, .null])), (n22, .inr (2, [.int 0, .int 0, .ref n23, .ref n24, .ref n25, .ref n26, .ref n27, .ref n28, .ref n29, .ref n30, .ref n31, .ref n32, .ref n33, .ref n34, .ref n35, .ref n36, .int 0]))] H locs := w
  refine lv_istore (lv' := [(5, .int 1), (4, .int 0), (3, .ref n107), (2, .ref n64), (1, .ref n0), (0, .ref b)]) hx hb dL_law_615 hl (by decide) rfl (fun ls hl => ?_)
  refine lv_aload_n hx hb dL_law_617 rfl (lv_at hl 3 rfl) ?_
  refine lv_aload_n hx hb dL_law_618 rfl (lv_at hl 5 rfl) ?_
  refine lv_iload hx hb dL_law_619 (lv_at hl 1 rfl) ?_
  refine lv_iconst (v := 1) hx hb dL_law_621 (by decide) ?_
  refine lv_iadd hx hb dL_law_622 ?_
  refine z_i (v := 1) (by decide +kernel) ?_
  refine va_sld hx hb hX hbl hbA w.2.2 (i := 1) (by decide) dL_law_623 ?_
  refine z_i (v := (xs 1)) rfl ?_
  refine lv_aload_n hx hb dL_law_624 rfl (lv_at hl 5 rfl) ?_
  refine lv_iload hx hb dL_law_625 (lv_at hl 1 rfl) ?_
  refine lv_iconst (v := 2) hx hb dL_law_627 (by decide) ?_
  refine lv_iadd hx hb dL_law_628 ?_
  refine z_i (v := 2) (by decide +kernel) ?_
  refine va_sld hx hb hX hbl hbA w.2.2 (i := 2) (by decide) dL_law_629 ?_
  refine z_i (v := (xs 2)) rfl ?_
  refine fin_i C w (run_V C w mv_L_171 (k73_marks C.b0 n64 n66 n65 n67 n68 n69 n70 n71 n72 n73 n74 n75 n76 n77 n78 n79 n80 n81 n82 n83 n84 n85 n86 n87 n88 n89 n90 n91 n92 n93 n94 n95 n96 n97 n98 n99 n100 n101 n102 n103 n104 n105 n106 ((xs 1)) ((xs 2)) H.size) [0, 1] rfl rfl 0 rfl rfl (by decide) rfl hl.1 rfl (Nat.le_of_ble_eq_true rfl) dL_law_630 (cells2 := 109) (slots2 := 210178) (by decide)) [0, 1] [2, 3] rfl rfl (by decide) (cells2 := 109) (slots2 := 210178) (by decide) (fun u2 H locs w => ?_)
  have w : Wd s G A [(n0, .inr (11, [.ref n1, .ref n2, .ref n3, .ref n7, .ref n8, .ref n12, .ref n16, .ref n21, .ref n22, .ref n37, .int 0, .int (-1), .int 0, .int 0, .null, .null, .null, .null, .null])), (n22, .inr (2, [.int 0, .int 0, .ref n23, .ref n24, .ref n25, .ref n26, .ref n27, .ref n28, .ref n29, .ref n30, .ref n31, .ref n32, .ref n33, .ref n34, .ref n35, .ref n36, .int 0])), (n64, .inr (12, [.int 1, .int 0, .int 0, .int 0, .int 0, .int 0, .int 0, .int (-1), .ref n65, .ref n66, .ref n67, .int 0, .ref n68, .ref n69, .ref n70, .ref n71, .ref n72, .ref n73, .ref n74, .int 0, .ref n75, .ref n76, .ref n77, .ref n78, .ref n79, .ref n80, .ref n81, .int 0, .int (-1), .int 0, .ref n82, .ref n83, .ref n84, .ref n85, .ref n86, .ref n87, .ref n88, .ref n89, .int 0, .ref n90, .ref n91, .ref n92, .ref n93, .ref n94, .int 0, .ref n95, .ref n96, .ref n97, .ref n98, .int 0, .ref n99, .ref n100, .ref n101, .ref n102, .int 0, .int 0, .ref n103, .ref n104, .ref n105, .ref n106])), (n66, .inl (G.2.1, 242, .inl (fun _ => 0)))] H locs := w
  refine lv_istore (lv' := [(6, .int 0), (5, .int 1), (4, .int 0), (3, .ref n107), (2, .ref n64), (1, .ref n0), (0, .ref b)]) hx hb dL_law_633 hl (by decide) rfl (fun ls hl => ?_)
  refine lv_aload_n hx hb dL_law_635 rfl (lv_at hl 4 rfl) ?_
  refine fin_i C w (run_V C w mv_L_150 (k20_thrown C.b0 n64 n65 n66 n67 n68 n69 n70 n71 n72 n73 n74 n75 n76 n77 n78 n79 n80 n81 n82 n83 n84 n85 n86 n87 n88 n89 n90 n91 n92 n93 n94 n95 n96 n97 n98 n99 n100 n101 n102 n103 n104 n105 n106 H.size) [2] rfl rfl 2 rfl rfl (by decide) rfl hl.1 rfl (Nat.le_of_ble_eq_true rfl) dL_law_636 (cells2 := 109) (slots2 := 210178) (by decide)) [2] [0, 1, 3] rfl rfl (by decide) (cells2 := 109) (slots2 := 210178) (by decide) (fun u3 H locs w => ?_)
  have w : Wd s G A [(n0, .inr (11, [.ref n1, .ref n2, .ref n3, .ref n7, .ref n8, .ref n12, .ref n16, .ref n21, .ref n22, .ref n37, .int 0, .int (-1), .int 0, .int 0, .null, .null, .null, .null, .null])), (n22, .inr (2, [.int 0, .int 0, .ref n23, .ref n24, .ref n25, .ref n26, .ref n27, .ref n28, .ref n29, .ref n30, .ref n31, .ref n32, .ref n33, .ref n34, .ref n35, .ref n36, .int 0])), (n66, .inl (G.2.1, 242, .inl (fun _ => 0))), (n64, .inr (12, [.int 1, .int 0, .int 0, .int 0, .int 0, .int 0, .int 0, .int (-1), .ref n65, .ref n66, .ref n67, .int 0, .ref n68, .ref n69, .ref n70, .ref n71, .ref n72, .ref n73, .ref n74, .int 0, .ref n75, .ref n76, .ref n77, .ref n78, .ref n79, .ref n80, .ref n81, .int 0, .int (-1), .int 0, .ref n82, .ref n83, .ref n84, .ref n85, .ref n86, .ref n87, .ref n88, .ref n89, .int 0, .ref n90, .ref n91, .ref n92, .ref n93, .ref n94, .int 0, .ref n95, .ref n96, .ref n97, .ref n98, .int 0, .ref n99, .ref n100, .ref n101, .ref n102, .int 0, .int 0, .ref n103, .ref n104, .ref n105, .ref n106]))] H locs := w
  refine lv_iload hx hb dL_law_639 (lv_at hl 1 rfl) ?_
  refine lv_icmp_eq (tgt := 646) hx hb dL_law_641 (by decide) (fun _ => ?_) (fun h => absurd (by decide) h)
  refine lv_iload hx hb dL_law_646 (lv_at hl 1 rfl) ?_
  refine lv_if_ne (tgt := 663) hx hb dL_law_648 (by decide) (fun _ => ?_) (fun h => h.elim (by decide))
  refine lv_goto (tgt := 3027) hx hb dL_law_663 (by decide) ?_
  exact lc_end C hr hX hbl hbA w (lv_sub hl [2, 6] rfl) (by decide) (by decide)
set_option maxRecDepth 100000 in
set_option maxHeartbeats 4000000 in
theorem lc_7_0 {l : Launch} {G : GT} {p : Program} {e : Env} {s : State} {m : MethodId} {below : List Frame} {meth : Method} {c : Code} {A : Nat → Prop} {b : Nat} {xs : Nat → Int32} (C : Cx l s #[Value.ref b] G p s m #[Value.ref b] meth c RL cL_law 8 "law" A) (hr : meth.sig.returnType = some .boolean) (hX : va_X b 6 xs s s.heap) (hbl : b < s.heap.size) (hbA : ¬ A b) (n0 n1 n2 n3 n7 n8 n12 n16 n21 n22 n23 n24 n25 n26 n27 n28 n29 n30 n31 n32 n33 n34 n35 n36 n37 n64 n65 n66 n67 n68 n69 n70 n71 n72 n73 n74 n75 n76 n77 n78 n79 n80 n81 n82 n83 n84 n85 n86 n87 n88 n89 n90 n91 n92 n93 n94 n95 n96 n97 n98 n99 n100 n101 n102 n103 n104 n105 n106 n107 : Nat) {H : Heap} {locs : List Loc} {ls : Array Slot} (w : Wd s G A [(n0, .inr (11, [.ref n1, .ref n2, .ref n3, .ref n7, .ref n8, .ref n12, .ref n16, .ref n21, .ref n22, .ref n37, .int 0, .int (-1), .int 0, .int 0, .null, .null, .null, .null, .null])), (n22, .inr (2, [.int 0, .int 0, .ref n23, .ref n24, .ref n25, .ref n26, .ref n27, .ref n28, .ref n29, .ref n30, .ref n31, .ref n32, .ref n33, .ref n34, .ref n35, .ref n36, .int 0])), (n64, .inr (12, [.int 0, .int 0, .int 0, .int 0, .int 0, .int 0, .int 0, .int (-1), .ref n65, .ref n66, .ref n67, .int 0, .ref n68, .ref n69, .ref n70, .ref n71, .ref n72, .ref n73, .ref n74, .int 0, .ref n75, .ref n76, .ref n77, .ref n78, .ref n79, .ref n80, .ref n81, .int 0, .int (-1), .int 0, .ref n82, .ref n83, .ref n84, .ref n85, .ref n86, .ref n87, .ref n88, .ref n89, .int 0, .ref n90, .ref n91, .ref n92, .ref n93, .ref n94, .int 0, .ref n95, .ref n96, .ref n97, .ref n98, .int 0, .ref n99, .ref n100, .ref n101, .ref n102, .int 0, .int 0, .ref n103, .ref n104, .ref n105, .ref n106])), (n66, .inl (G.2.1, 242, .inl (fun _ => 0)))] H locs) (hl : lv_has ls 8 [(4, .int 0), (3, .ref n107), (2, .ref n64), (1, .ref n0), (0, .ref b)]) : W p l e room_1 s m #[Value.ref b] below meth c H locs 108 210172 (lw_Z below #[Value.ref b] s) (F0 m 666 ls []) := by
  have hx := C.hx
  have hb := C.hb
  refine lv_aload_n hx hb dL_law_666 rfl (lv_at hl 3 rfl) ?_
  refine lv_aload_n hx hb dL_law_667 rfl (lv_at hl 4 rfl) ?_
  refine lv_iload hx hb dL_law_668 (lv_at hl 0 rfl) ?_
  refine lv_iconst (v := 1) hx hb dL_law_670 (by decide) ?_
  refine lv_iadd hx hb dL_law_671 ?_
  refine z_i (v := 1) (by decide +kernel) ?_
  refine va_sld hx hb hX hbl hbA w.2.2 (i := 1) (by decide) dL_law_672 ?_
  refine z_i (v := (xs 1)) rfl ?_
  refine lv_aload_n hx hb dL_law_673 rfl (lv_at hl 4 rfl) ?_
  refine lv_iload hx hb dL_law_674 (lv_at hl 0 rfl) ?_
  refine lv_iconst (v := 2) hx hb dL_law_676 (by decide) ?_
  refine lv_iadd hx hb dL_law_677 ?_
  refine z_i (v := 2) (by decide +kernel) ?_
  refine va_sld hx hb hX hbl hbA w.2.2 (i := 2) (by decide) dL_law_678 ?_
  refine z_i (v := (xs 2)) rfl ?_
  refine lv_aload_n hx hb dL_law_679 rfl (lv_at hl 1 rfl) ?_
  refine fin_i C w (run_H C w mh_L_172 (k75_put C.b0 n0 n22 n107 n1 n2 n3 n7 n8 n12 n16 n21 n37 n23 n24 n25 n26 n27 n28 n29 n30 n31 n32 n33 n34 n35 n36 ((xs 1)) ((xs 2)) H.size) [0, 1] rfl rfl (by decide) rfl hl.1 rfl (Nat.le_of_ble_eq_true rfl) dL_law_680 (cells2 := 109) (slots2 := 210178) (by decide)) [0, 1] [2, 3] rfl rfl (by decide) (cells2 := 109) (slots2 := 210178) (by decide) (fun u1 H locs w => ?_)
  have w : Wd s G A [(n64, .inr (12, [.int 0, .int 0, .int 0, .int 0, .int 0, .int 0, .int 0, .int (-1), .ref n65, .ref n66, .ref n67, .int 0, .ref n68, .ref n69, .ref n70, .ref n71, .ref n72, .ref n73, .ref n74, .int 0, .ref n75, .ref n76, .ref n77, .ref n78, .ref n79, .ref n80, .ref n81, .int 0, .int (-1), .int 0, .ref n82, .ref n83, .ref n84, .ref n85, .ref n86, .ref n87, .ref n88, .ref n89, .int 0, .ref n90, .ref n91, .ref n92, .ref n93, .ref n94, .int 0, .ref n95, .ref n96, .ref n97, .ref n98, .int 0, .ref n99, .ref n100, .ref n101, .ref n102, .int 0, .int 0, .ref n103, .ref n104, .ref n105, .ref n106])), (n66, .inl (G.2.1, 242, .inl (fun _ => 0))), (n0, .inr (11, [.ref n1, .ref n2, .ref n3, .ref n7, .ref n8, .ref n12, .ref n16, .ref n21, .ref n22, .ref n37, .int 0, .int (-1), .int 0, .int 0, .null, .null, .null, .null, .null])), (n22, .inr (2, [.int 0, .int 0, .ref n23, .ref n24, .ref n25, .ref n26, .ref n27, .ref n28, .ref n29, .ref n30, .ref n31, .ref n32, .ref n33, .ref n34, .ref n35, .ref n36, .int 0]))] H locs := w
  refine lv_istore (lv' := [(5, .int 1), (4, .int 0), (3, .ref n107), (2, .ref n64), (1, .ref n0), (0, .ref b)]) hx hb dL_law_683 hl (by decide) rfl (fun ls hl => ?_)
  refine lv_aload_n hx hb dL_law_685 rfl (lv_at hl 3 rfl) ?_
  refine lv_aload_n hx hb dL_law_686 rfl (lv_at hl 5 rfl) ?_
  refine lv_iload hx hb dL_law_687 (lv_at hl 1 rfl) ?_
  refine lv_iconst (v := 1) hx hb dL_law_689 (by decide) ?_
  refine lv_iadd hx hb dL_law_690 ?_
  refine z_i (v := 1) (by decide +kernel) ?_
  refine va_sld hx hb hX hbl hbA w.2.2 (i := 1) (by decide) dL_law_691 ?_
  refine z_i (v := (xs 1)) rfl ?_
  refine lv_aload_n hx hb dL_law_692 rfl (lv_at hl 5 rfl) ?_
  refine lv_iload hx hb dL_law_693 (lv_at hl 1 rfl) ?_
  refine lv_iconst (v := 2) hx hb dL_law_695 (by decide) ?_
  refine lv_iadd hx hb dL_law_696 ?_
  refine z_i (v := 2) (by decide +kernel) ?_
  refine va_sld hx hb hX hbl hbA w.2.2 (i := 2) (by decide) dL_law_697 ?_
  refine z_i (v := (xs 2)) rfl ?_
  refine fin_i C w (run_V C w mv_L_174 (k76_put C.b0 n64 n66 n65 n67 n68 n69 n70 n71 n72 n73 n74 n75 n76 n77 n78 n79 n80 n81 n82 n83 n84 n85 n86 n87 n88 n89 n90 n91 n92 n93 n94 n95 n96 n97 n98 n99 n100 n101 n102 n103 n104 n105 n106 ((xs 1)) ((xs 2)) H.size) [0, 1] rfl rfl 0 rfl rfl (by decide) rfl hl.1 rfl (Nat.le_of_ble_eq_true rfl) dL_law_698 (cells2 := 109) (slots2 := 210178) (by decide)) [0, 1] [2, 3] rfl rfl (by decide) (cells2 := 109) (slots2 := 210178) (by decide) (fun u2 H locs w => ?_)
  have w : Wd s G A [(n0, .inr (11, [.ref n1, .ref n2, .ref n3, .ref n7, .ref n8, .ref n12, .ref n16, .ref n21, .ref n22, .ref n37, .int 0, .int (-1), .int 0, .int 0, .null, .null, .null, .null, .null])), (n22, .inr (2, [.int 0, .int 0, .ref n23, .ref n24, .ref n25, .ref n26, .ref n27, .ref n28, .ref n29, .ref n30, .ref n31, .ref n32, .ref n33, .ref n34, .ref n35, .ref n36, .int 0])), (n64, .inr (12, [.int 1, .int 0, .int 0, .int 0, .int 0, .int 0, .int 0, .int (-1), .ref n65, .ref n66, .ref n67, .int 0, .ref n68, .ref n69, .ref n70, .ref n71, .ref n72, .ref n73, .ref n74, .int 0, .ref n75, .ref n76, .ref n77, .ref n78, .ref n79, .ref n80, .ref n81, .int 0, .int (-1), .int 0, .ref n82, .ref n83, .ref n84, .ref n85, .ref n86, .ref n87, .ref n88, .ref n89, .int 0, .ref n90, .ref n91, .ref n92, .ref n93, .ref n94, .int 0, .ref n95, .ref n96, .ref n97, .ref n98, .int 0, .ref n99, .ref n100, .ref n101, .ref n102, .int 0, .int 0, .ref n103, .ref n104, .ref n105, .ref n106])), (n66, .inl (G.2.1, 242, .inl (fun _ => 0)))] H locs := w
  refine lv_istore (lv' := [(6, .int 0), (5, .int 1), (4, .int 0), (3, .ref n107), (2, .ref n64), (1, .ref n0), (0, .ref b)]) hx hb dL_law_701 hl (by decide) rfl (fun ls hl => ?_)
  refine lv_aload_n hx hb dL_law_703 rfl (lv_at hl 4 rfl) ?_
  refine fin_i C w (run_V C w mv_L_150 (k20_thrown C.b0 n64 n65 n66 n67 n68 n69 n70 n71 n72 n73 n74 n75 n76 n77 n78 n79 n80 n81 n82 n83 n84 n85 n86 n87 n88 n89 n90 n91 n92 n93 n94 n95 n96 n97 n98 n99 n100 n101 n102 n103 n104 n105 n106 H.size) [2] rfl rfl 2 rfl rfl (by decide) rfl hl.1 rfl (Nat.le_of_ble_eq_true rfl) dL_law_704 (cells2 := 109) (slots2 := 210178) (by decide)) [2] [0, 1, 3] rfl rfl (by decide) (cells2 := 109) (slots2 := 210178) (by decide) (fun u3 H locs w => ?_)
  have w : Wd s G A [(n0, .inr (11, [.ref n1, .ref n2, .ref n3, .ref n7, .ref n8, .ref n12, .ref n16, .ref n21, .ref n22, .ref n37, .int 0, .int (-1), .int 0, .int 0, .null, .null, .null, .null, .null])), (n22, .inr (2, [.int 0, .int 0, .ref n23, .ref n24, .ref n25, .ref n26, .ref n27, .ref n28, .ref n29, .ref n30, .ref n31, .ref n32, .ref n33, .ref n34, .ref n35, .ref n36, .int 0])), (n66, .inl (G.2.1, 242, .inl (fun _ => 0))), (n64, .inr (12, [.int 1, .int 0, .int 0, .int 0, .int 0, .int 0, .int 0, .int (-1), .ref n65, .ref n66, .ref n67, .int 0, .ref n68, .ref n69, .ref n70, .ref n71, .ref n72, .ref n73, .ref n74, .int 0, .ref n75, .ref n76, .ref n77, .ref n78, .ref n79, .ref n80, .ref n81, .int 0, .int (-1), .int 0, .ref n82, .ref n83, .ref n84, .ref n85, .ref n86, .ref n87, .ref n88, .ref n89, .int 0, .ref n90, .ref n91, .ref n92, .ref n93, .ref n94, .int 0, .ref n95, .ref n96, .ref n97, .ref n98, .int 0, .ref n99, .ref n100, .ref n101, .ref n102, .int 0, .int 0, .ref n103, .ref n104, .ref n105, .ref n106]))] H locs := w
  refine lv_iload hx hb dL_law_707 (lv_at hl 1 rfl) ?_
  refine lv_icmp_eq (tgt := 714) hx hb dL_law_709 (by decide) (fun _ => ?_) (fun h => absurd (by decide) h)
  refine lv_iload hx hb dL_law_714 (lv_at hl 1 rfl) ?_
  refine lv_if_ne (tgt := 731) hx hb dL_law_716 (by decide) (fun _ => ?_) (fun h => h.elim (by decide))
  refine lv_goto (tgt := 3027) hx hb dL_law_731 (by decide) ?_
  exact lc_end C hr hX hbl hbA w (lv_sub hl [2, 6] rfl) (by decide) (by decide)
set_option maxRecDepth 100000 in
set_option maxHeartbeats 4000000 in
theorem lc_8_0 {l : Launch} {G : GT} {p : Program} {e : Env} {s : State} {m : MethodId} {below : List Frame} {meth : Method} {c : Code} {A : Nat → Prop} {b : Nat} {xs : Nat → Int32} (C : Cx l s #[Value.ref b] G p s m #[Value.ref b] meth c RL cL_law 8 "law" A) (hr : meth.sig.returnType = some .boolean) (hX : va_X b 6 xs s s.heap) (hbl : b < s.heap.size) (hbA : ¬ A b) (n0 n1 n2 n3 n7 n8 n12 n16 n21 n22 n23 n24 n25 n26 n27 n28 n29 n30 n31 n32 n33 n34 n35 n36 n37 n64 n65 n66 n67 n68 n69 n70 n71 n72 n73 n74 n75 n76 n77 n78 n79 n80 n81 n82 n83 n84 n85 n86 n87 n88 n89 n90 n91 n92 n93 n94 n95 n96 n97 n98 n99 n100 n101 n102 n103 n104 n105 n106 n107 : Nat) {H : Heap} {locs : List Loc} {ls : Array Slot} (w : Wd s G A [(n0, .inr (11, [.ref n1, .ref n2, .ref n3, .ref n7, .ref n8, .ref n12, .ref n16, .ref n21, .ref n22, .ref n37, .int 0, .int (-1), .int 0, .int 0, .null, .null, .null, .null, .null])), (n22, .inr (2, [.int 0, .int 0, .ref n23, .ref n24, .ref n25, .ref n26, .ref n27, .ref n28, .ref n29, .ref n30, .ref n31, .ref n32, .ref n33, .ref n34, .ref n35, .ref n36, .int 0])), (n64, .inr (12, [.int 0, .int 0, .int 0, .int 0, .int 0, .int 0, .int 0, .int (-1), .ref n65, .ref n66, .ref n67, .int 0, .ref n68, .ref n69, .ref n70, .ref n71, .ref n72, .ref n73, .ref n74, .int 0, .ref n75, .ref n76, .ref n77, .ref n78, .ref n79, .ref n80, .ref n81, .int 0, .int (-1), .int 0, .ref n82, .ref n83, .ref n84, .ref n85, .ref n86, .ref n87, .ref n88, .ref n89, .int 0, .ref n90, .ref n91, .ref n92, .ref n93, .ref n94, .int 0, .ref n95, .ref n96, .ref n97, .ref n98, .int 0, .ref n99, .ref n100, .ref n101, .ref n102, .int 0, .int 0, .ref n103, .ref n104, .ref n105, .ref n106])), (n66, .inl (G.2.1, 242, .inl (fun _ => 0)))] H locs) (hl : lv_has ls 8 [(4, .int 0), (3, .ref n107), (2, .ref n64), (1, .ref n0), (0, .ref b)]) : W p l e room_1 s m #[Value.ref b] below meth c H locs 108 210172 (lw_Z below #[Value.ref b] s) (F0 m 734 ls []) := by
  have hx := C.hx
  have hb := C.hb
  refine lv_aload_n hx hb dL_law_734 rfl (lv_at hl 3 rfl) ?_
  refine lv_aload_n hx hb dL_law_735 rfl (lv_at hl 4 rfl) ?_
  refine lv_iload hx hb dL_law_736 (lv_at hl 0 rfl) ?_
  refine lv_iconst (v := 1) hx hb dL_law_738 (by decide) ?_
  refine lv_iadd hx hb dL_law_739 ?_
  refine z_i (v := 1) (by decide +kernel) ?_
  refine va_sld hx hb hX hbl hbA w.2.2 (i := 1) (by decide) dL_law_740 ?_
  refine z_i (v := (xs 1)) rfl ?_
  refine lv_aload_n hx hb dL_law_741 rfl (lv_at hl 1 rfl) ?_
  refine fin_i C w (run_H C w mh_L_175 (k78_may C.b0 n0 n22 n107 n1 n2 n3 n7 n8 n12 n16 n21 n37 n23 n24 n25 n26 n27 n28 n29 n30 n31 n32 n33 n34 n35 n36 ((xs 1)) H.size) [0, 1] rfl rfl (by decide) rfl hl.1 rfl (Nat.le_of_ble_eq_true rfl) dL_law_742 (cells2 := 109) (slots2 := 210178) (by decide)) [0, 1] [2, 3] rfl rfl (by decide) (cells2 := 109) (slots2 := 210178) (by decide) (fun u1 H locs w => ?_)
  have w : Wd s G A [(n64, .inr (12, [.int 0, .int 0, .int 0, .int 0, .int 0, .int 0, .int 0, .int (-1), .ref n65, .ref n66, .ref n67, .int 0, .ref n68, .ref n69, .ref n70, .ref n71, .ref n72, .ref n73, .ref n74, .int 0, .ref n75, .ref n76, .ref n77, .ref n78, .ref n79, .ref n80, .ref n81, .int 0, .int (-1), .int 0, .ref n82, .ref n83, .ref n84, .ref n85, .ref n86, .ref n87, .ref n88, .ref n89, .int 0, .ref n90, .ref n91, .ref n92, .ref n93, .ref n94, .int 0, .ref n95, .ref n96, .ref n97, .ref n98, .int 0, .ref n99, .ref n100, .ref n101, .ref n102, .int 0, .int 0, .ref n103, .ref n104, .ref n105, .ref n106])), (n66, .inl (G.2.1, 242, .inl (fun _ => 0))), (n0, .inr (11, [.ref n1, .ref n2, .ref n3, .ref n7, .ref n8, .ref n12, .ref n16, .ref n21, .ref n22, .ref n37, .int 0, .int (-1), .int 0, .int 0, .null, .null, .null, .null, .null])), (n22, .inr (2, [.int 0, .int 0, .ref n23, .ref n24, .ref n25, .ref n26, .ref n27, .ref n28, .ref n29, .ref n30, .ref n31, .ref n32, .ref n33, .ref n34, .ref n35, .ref n36, .int 0]))] H locs := w
  refine lv_istore (lv' := [(5, .int 1), (4, .int 0), (3, .ref n107), (2, .ref n64), (1, .ref n0), (0, .ref b)]) hx hb dL_law_745 hl (by decide) rfl (fun ls hl => ?_)
  refine lv_aload_n hx hb dL_law_747 rfl (lv_at hl 3 rfl) ?_
  refine lv_aload_n hx hb dL_law_748 rfl (lv_at hl 5 rfl) ?_
  refine lv_iload hx hb dL_law_749 (lv_at hl 1 rfl) ?_
  refine lv_iconst (v := 1) hx hb dL_law_751 (by decide) ?_
  refine lv_iadd hx hb dL_law_752 ?_
  refine z_i (v := 1) (by decide +kernel) ?_
  refine va_sld hx hb hX hbl hbA w.2.2 (i := 1) (by decide) dL_law_753 ?_
  refine z_i (v := (xs 1)) rfl ?_
  refine fin_i C w (run_V C w mv_L_177 (k79_may C.b0 n64 n66 n65 n67 n68 n69 n70 n71 n72 n73 n74 n75 n76 n77 n78 n79 n80 n81 n82 n83 n84 n85 n86 n87 n88 n89 n90 n91 n92 n93 n94 n95 n96 n97 n98 n99 n100 n101 n102 n103 n104 n105 n106 ((xs 1)) H.size) [0, 1] rfl rfl 0 rfl rfl (by decide) rfl hl.1 rfl (Nat.le_of_ble_eq_true rfl) dL_law_754 (cells2 := 109) (slots2 := 210178) (by decide)) [0, 1] [2, 3] rfl rfl (by decide) (cells2 := 109) (slots2 := 210178) (by decide) (fun u2 H locs w => ?_)
  have w : Wd s G A [(n0, .inr (11, [.ref n1, .ref n2, .ref n3, .ref n7, .ref n8, .ref n12, .ref n16, .ref n21, .ref n22, .ref n37, .int 0, .int (-1), .int 0, .int 0, .null, .null, .null, .null, .null])), (n22, .inr (2, [.int 0, .int 0, .ref n23, .ref n24, .ref n25, .ref n26, .ref n27, .ref n28, .ref n29, .ref n30, .ref n31, .ref n32, .ref n33, .ref n34, .ref n35, .ref n36, .int 0])), (n64, .inr (12, [.int 1, .int 0, .int 0, .int 0, .int 0, .int 0, .int 0, .int (-1), .ref n65, .ref n66, .ref n67, .int 0, .ref n68, .ref n69, .ref n70, .ref n71, .ref n72, .ref n73, .ref n74, .int 0, .ref n75, .ref n76, .ref n77, .ref n78, .ref n79, .ref n80, .ref n81, .int 0, .int (-1), .int 0, .ref n82, .ref n83, .ref n84, .ref n85, .ref n86, .ref n87, .ref n88, .ref n89, .int 0, .ref n90, .ref n91, .ref n92, .ref n93, .ref n94, .int 0, .ref n95, .ref n96, .ref n97, .ref n98, .int 0, .ref n99, .ref n100, .ref n101, .ref n102, .int 0, .int 0, .ref n103, .ref n104, .ref n105, .ref n106])), (n66, .inl (G.2.1, 242, .inl (fun _ => 0)))] H locs := w
  refine lv_istore (lv' := [(6, .int 0), (5, .int 1), (4, .int 0), (3, .ref n107), (2, .ref n64), (1, .ref n0), (0, .ref b)]) hx hb dL_law_757 hl (by decide) rfl (fun ls hl => ?_)
  refine lv_aload_n hx hb dL_law_759 rfl (lv_at hl 4 rfl) ?_
  refine fin_i C w (run_V C w mv_L_150 (k20_thrown C.b0 n64 n65 n66 n67 n68 n69 n70 n71 n72 n73 n74 n75 n76 n77 n78 n79 n80 n81 n82 n83 n84 n85 n86 n87 n88 n89 n90 n91 n92 n93 n94 n95 n96 n97 n98 n99 n100 n101 n102 n103 n104 n105 n106 H.size) [2] rfl rfl 2 rfl rfl (by decide) rfl hl.1 rfl (Nat.le_of_ble_eq_true rfl) dL_law_760 (cells2 := 109) (slots2 := 210178) (by decide)) [2] [0, 1, 3] rfl rfl (by decide) (cells2 := 109) (slots2 := 210178) (by decide) (fun u3 H locs w => ?_)
  have w : Wd s G A [(n0, .inr (11, [.ref n1, .ref n2, .ref n3, .ref n7, .ref n8, .ref n12, .ref n16, .ref n21, .ref n22, .ref n37, .int 0, .int (-1), .int 0, .int 0, .null, .null, .null, .null, .null])), (n22, .inr (2, [.int 0, .int 0, .ref n23, .ref n24, .ref n25, .ref n26, .ref n27, .ref n28, .ref n29, .ref n30, .ref n31, .ref n32, .ref n33, .ref n34, .ref n35, .ref n36, .int 0])), (n66, .inl (G.2.1, 242, .inl (fun _ => 0))), (n64, .inr (12, [.int 1, .int 0, .int 0, .int 0, .int 0, .int 0, .int 0, .int (-1), .ref n65, .ref n66, .ref n67, .int 0, .ref n68, .ref n69, .ref n70, .ref n71, .ref n72, .ref n73, .ref n74, .int 0, .ref n75, .ref n76, .ref n77, .ref n78, .ref n79, .ref n80, .ref n81, .int 0, .int (-1), .int 0, .ref n82, .ref n83, .ref n84, .ref n85, .ref n86, .ref n87, .ref n88, .ref n89, .int 0, .ref n90, .ref n91, .ref n92, .ref n93, .ref n94, .int 0, .ref n95, .ref n96, .ref n97, .ref n98, .int 0, .ref n99, .ref n100, .ref n101, .ref n102, .int 0, .int 0, .ref n103, .ref n104, .ref n105, .ref n106]))] H locs := w
  refine lv_iload hx hb dL_law_763 (lv_at hl 1 rfl) ?_
  refine lv_icmp_eq (tgt := 770) hx hb dL_law_765 (by decide) (fun _ => ?_) (fun h => absurd (by decide) h)
  refine lv_iload hx hb dL_law_770 (lv_at hl 1 rfl) ?_
  refine lv_if_ne (tgt := 787) hx hb dL_law_772 (by decide) (fun _ => ?_) (fun h => h.elim (by decide))
  refine lv_goto (tgt := 3027) hx hb dL_law_787 (by decide) ?_
  exact lc_end C hr hX hbl hbA w (lv_sub hl [2, 6] rfl) (by decide) (by decide)
set_option maxRecDepth 100000 in
set_option maxHeartbeats 4000000 in
theorem lc_9_0 {l : Launch} {G : GT} {p : Program} {e : Env} {s : State} {m : MethodId} {below : List Frame} {meth : Method} {c : Code} {A : Nat → Prop} {b : Nat} {xs : Nat → Int32} (C : Cx l s #[Value.ref b] G p s m #[Value.ref b] meth c RL cL_law 8 "law" A) (hr : meth.sig.returnType = some .boolean) (hX : va_X b 6 xs s s.heap) (hbl : b < s.heap.size) (hbA : ¬ A b) (n0 n1 n2 n3 n7 n8 n12 n16 n21 n22 n23 n24 n25 n26 n27 n28 n29 n30 n31 n32 n33 n34 n35 n36 n37 n64 n65 n66 n67 n68 n69 n70 n71 n72 n73 n74 n75 n76 n77 n78 n79 n80 n81 n82 n83 n84 n85 n86 n87 n88 n89 n90 n91 n92 n93 n94 n95 n96 n97 n98 n99 n100 n101 n102 n103 n104 n105 n106 n107 : Nat) {H : Heap} {locs : List Loc} {ls : Array Slot} (w : Wd s G A [(n0, .inr (11, [.ref n1, .ref n2, .ref n3, .ref n7, .ref n8, .ref n12, .ref n16, .ref n21, .ref n22, .ref n37, .int 0, .int (-1), .int 0, .int 0, .null, .null, .null, .null, .null])), (n22, .inr (2, [.int 0, .int 0, .ref n23, .ref n24, .ref n25, .ref n26, .ref n27, .ref n28, .ref n29, .ref n30, .ref n31, .ref n32, .ref n33, .ref n34, .ref n35, .ref n36, .int 0])), (n64, .inr (12, [.int 0, .int 0, .int 0, .int 0, .int 0, .int 0, .int 0, .int (-1), .ref n65, .ref n66, .ref n67, .int 0, .ref n68, .ref n69, .ref n70, .ref n71, .ref n72, .ref n73, .ref n74, .int 0, .ref n75, .ref n76, .ref n77, .ref n78, .ref n79, .ref n80, .ref n81, .int 0, .int (-1), .int 0, .ref n82, .ref n83, .ref n84, .ref n85, .ref n86, .ref n87, .ref n88, .ref n89, .int 0, .ref n90, .ref n91, .ref n92, .ref n93, .ref n94, .int 0, .ref n95, .ref n96, .ref n97, .ref n98, .int 0, .ref n99, .ref n100, .ref n101, .ref n102, .int 0, .int 0, .ref n103, .ref n104, .ref n105, .ref n106])), (n66, .inl (G.2.1, 242, .inl (fun _ => 0)))] H locs) (hl : lv_has ls 8 [(4, .int 0), (3, .ref n107), (2, .ref n64), (1, .ref n0), (0, .ref b)]) : W p l e room_1 s m #[Value.ref b] below meth c H locs 108 210172 (lw_Z below #[Value.ref b] s) (F0 m 790 ls []) := by
  have hx := C.hx
  have hb := C.hb
  refine lv_aload_n hx hb dL_law_790 rfl (lv_at hl 3 rfl) ?_
  refine lv_aload_n hx hb dL_law_791 rfl (lv_at hl 4 rfl) ?_
  refine lv_iload hx hb dL_law_792 (lv_at hl 0 rfl) ?_
  refine lv_iconst (v := 1) hx hb dL_law_794 (by decide) ?_
  refine lv_iadd hx hb dL_law_795 ?_
  refine z_i (v := 1) (by decide +kernel) ?_
  refine va_sld hx hb hX hbl hbA w.2.2 (i := 1) (by decide) dL_law_796 ?_
  refine z_i (v := (xs 1)) rfl ?_
  refine lv_aload_n hx hb dL_law_797 rfl (lv_at hl 1 rfl) ?_
  refine fin_i C w (run_H C w mh_L_178 (k81_fire C.b0 n0 n22 n107 n1 n2 n3 n7 n8 n12 n16 n21 n37 n23 n24 n25 n26 n27 n28 n29 n30 n31 n32 n33 n34 n35 n36 ((xs 1)) H.size) [0, 1] rfl rfl (by decide) rfl hl.1 rfl (Nat.le_of_ble_eq_true rfl) dL_law_798 (cells2 := 109) (slots2 := 210178) (by decide)) [0, 1] [2, 3] rfl rfl (by decide) (cells2 := 109) (slots2 := 210178) (by decide) (fun u1 H locs w => ?_)
  have w : Wd s G A [(n64, .inr (12, [.int 0, .int 0, .int 0, .int 0, .int 0, .int 0, .int 0, .int (-1), .ref n65, .ref n66, .ref n67, .int 0, .ref n68, .ref n69, .ref n70, .ref n71, .ref n72, .ref n73, .ref n74, .int 0, .ref n75, .ref n76, .ref n77, .ref n78, .ref n79, .ref n80, .ref n81, .int 0, .int (-1), .int 0, .ref n82, .ref n83, .ref n84, .ref n85, .ref n86, .ref n87, .ref n88, .ref n89, .int 0, .ref n90, .ref n91, .ref n92, .ref n93, .ref n94, .int 0, .ref n95, .ref n96, .ref n97, .ref n98, .int 0, .ref n99, .ref n100, .ref n101, .ref n102, .int 0, .int 0, .ref n103, .ref n104, .ref n105, .ref n106])), (n66, .inl (G.2.1, 242, .inl (fun _ => 0))), (n0, .inr (11, [.ref n1, .ref n2, .ref n3, .ref n7, .ref n8, .ref n12, .ref n16, .ref n21, .ref n22, .ref n37, .int 0, .int (-1), .int 0, .int 0, .null, .null, .null, .null, .null])), (n22, .inr (2, [.int 0, .int 0, .ref n23, .ref n24, .ref n25, .ref n26, .ref n27, .ref n28, .ref n29, .ref n30, .ref n31, .ref n32, .ref n33, .ref n34, .ref n35, .ref n36, .int 0]))] H locs := w
  refine lv_istore (lv' := [(5, .int 1), (4, .int 0), (3, .ref n107), (2, .ref n64), (1, .ref n0), (0, .ref b)]) hx hb dL_law_801 hl (by decide) rfl (fun ls hl => ?_)
  refine lv_aload_n hx hb dL_law_803 rfl (lv_at hl 3 rfl) ?_
  refine lv_aload_n hx hb dL_law_804 rfl (lv_at hl 5 rfl) ?_
  refine lv_iload hx hb dL_law_805 (lv_at hl 1 rfl) ?_
  refine lv_iconst (v := 1) hx hb dL_law_807 (by decide) ?_
  refine lv_iadd hx hb dL_law_808 ?_
  refine z_i (v := 1) (by decide +kernel) ?_
  refine va_sld hx hb hX hbl hbA w.2.2 (i := 1) (by decide) dL_law_809 ?_
  refine z_i (v := (xs 1)) rfl ?_
  refine fin_i C w (run_V C w mv_L_180 (k82_fire C.b0 n64 n66 n65 n67 n68 n69 n70 n71 n72 n73 n74 n75 n76 n77 n78 n79 n80 n81 n82 n83 n84 n85 n86 n87 n88 n89 n90 n91 n92 n93 n94 n95 n96 n97 n98 n99 n100 n101 n102 n103 n104 n105 n106 ((xs 1)) H.size) [0, 1] rfl rfl 0 rfl rfl (by decide) rfl hl.1 rfl (Nat.le_of_ble_eq_true rfl) dL_law_810 (cells2 := 109) (slots2 := 210178) (by decide)) [0, 1] [2, 3] rfl rfl (by decide) (cells2 := 109) (slots2 := 210178) (by decide) (fun u2 H locs w => ?_)
  have w : Wd s G A [(n0, .inr (11, [.ref n1, .ref n2, .ref n3, .ref n7, .ref n8, .ref n12, .ref n16, .ref n21, .ref n22, .ref n37, .int 0, .int (-1), .int 0, .int 0, .null, .null, .null, .null, .null])), (n22, .inr (2, [.int 0, .int 0, .ref n23, .ref n24, .ref n25, .ref n26, .ref n27, .ref n28, .ref n29, .ref n30, .ref n31, .ref n32, .ref n33, .ref n34, .ref n35, .ref n36, .int 0])), (n64, .inr (12, [.int 1, .int 0, .int 0, .int 0, .int 0, .int 0, .int 0, .int (-1), .ref n65, .ref n66, .ref n67, .int 0, .ref n68, .ref n69, .ref n70, .ref n71, .ref n72, .ref n73, .ref n74, .int 0, .ref n75, .ref n76, .ref n77, .ref n78, .ref n79, .ref n80, .ref n81, .int 0, .int (-1), .int 0, .ref n82, .ref n83, .ref n84, .ref n85, .ref n86, .ref n87, .ref n88, .ref n89, .int 0, .ref n90, .ref n91, .ref n92, .ref n93, .ref n94, .int 0, .ref n95, .ref n96, .ref n97, .ref n98, .int 0, .ref n99, .ref n100, .ref n101, .ref n102, .int 0, .int 0, .ref n103, .ref n104, .ref n105, .ref n106])), (n66, .inl (G.2.1, 242, .inl (fun _ => 0)))] H locs := w
  refine lv_istore (lv' := [(6, .int 0), (5, .int 1), (4, .int 0), (3, .ref n107), (2, .ref n64), (1, .ref n0), (0, .ref b)]) hx hb dL_law_813 hl (by decide) rfl (fun ls hl => ?_)
  refine lv_aload_n hx hb dL_law_815 rfl (lv_at hl 4 rfl) ?_
  refine fin_i C w (run_V C w mv_L_150 (k20_thrown C.b0 n64 n65 n66 n67 n68 n69 n70 n71 n72 n73 n74 n75 n76 n77 n78 n79 n80 n81 n82 n83 n84 n85 n86 n87 n88 n89 n90 n91 n92 n93 n94 n95 n96 n97 n98 n99 n100 n101 n102 n103 n104 n105 n106 H.size) [2] rfl rfl 2 rfl rfl (by decide) rfl hl.1 rfl (Nat.le_of_ble_eq_true rfl) dL_law_816 (cells2 := 109) (slots2 := 210178) (by decide)) [2] [0, 1, 3] rfl rfl (by decide) (cells2 := 109) (slots2 := 210178) (by decide) (fun u3 H locs w => ?_)
  have w : Wd s G A [(n0, .inr (11, [.ref n1, .ref n2, .ref n3, .ref n7, .ref n8, .ref n12, .ref n16, .ref n21, .ref n22, .ref n37, .int 0, .int (-1), .int 0, .int 0, .null, .null, .null, .null, .null])), (n22, .inr (2, [.int 0, .int 0, .ref n23, .ref n24, .ref n25, .ref n26, .ref n27, .ref n28, .ref n29, .ref n30, .ref n31, .ref n32, .ref n33, .ref n34, .ref n35, .ref n36, .int 0])), (n66, .inl (G.2.1, 242, .inl (fun _ => 0))), (n64, .inr (12, [.int 1, .int 0, .int 0, .int 0, .int 0, .int 0, .int 0, .int (-1), .ref n65, .ref n66, .ref n67, .int 0, .ref n68, .ref n69, .ref n70, .ref n71, .ref n72, .ref n73, .ref n74, .int 0, .ref n75, .ref n76, .ref n77, .ref n78, .ref n79, .ref n80, .ref n81, .int 0, .int (-1), .int 0, .ref n82, .ref n83, .ref n84, .ref n85, .ref n86, .ref n87, .ref n88, .ref n89, .int 0, .ref n90, .ref n91, .ref n92, .ref n93, .ref n94, .int 0, .ref n95, .ref n96, .ref n97, .ref n98, .int 0, .ref n99, .ref n100, .ref n101, .ref n102, .int 0, .int 0, .ref n103, .ref n104, .ref n105, .ref n106]))] H locs := w
  refine lv_iload hx hb dL_law_819 (lv_at hl 1 rfl) ?_
  refine lv_icmp_eq (tgt := 826) hx hb dL_law_821 (by decide) (fun _ => ?_) (fun h => absurd (by decide) h)
  refine lv_iload hx hb dL_law_826 (lv_at hl 1 rfl) ?_
  refine lv_if_ne (tgt := 843) hx hb dL_law_828 (by decide) (fun _ => ?_) (fun h => h.elim (by decide))
  refine lv_goto (tgt := 3027) hx hb dL_law_843 (by decide) ?_
  exact lc_end C hr hX hbl hbA w (lv_sub hl [2, 6] rfl) (by decide) (by decide)
set_option maxRecDepth 100000 in
set_option maxHeartbeats 4000000 in
theorem lc_10_0 {l : Launch} {G : GT} {p : Program} {e : Env} {s : State} {m : MethodId} {below : List Frame} {meth : Method} {c : Code} {A : Nat → Prop} {b : Nat} {xs : Nat → Int32} (C : Cx l s #[Value.ref b] G p s m #[Value.ref b] meth c RL cL_law 8 "law" A) (hr : meth.sig.returnType = some .boolean) (hX : va_X b 6 xs s s.heap) (hbl : b < s.heap.size) (hbA : ¬ A b) (n0 n1 n2 n3 n7 n8 n12 n16 n21 n22 n23 n24 n25 n26 n27 n28 n29 n30 n31 n32 n33 n34 n35 n36 n37 n64 n65 n66 n67 n68 n69 n70 n71 n72 n73 n74 n75 n76 n77 n78 n79 n80 n81 n82 n83 n84 n85 n86 n87 n88 n89 n90 n91 n92 n93 n94 n95 n96 n97 n98 n99 n100 n101 n102 n103 n104 n105 n106 n107 : Nat) {H : Heap} {locs : List Loc} {ls : Array Slot} (w : Wd s G A [(n0, .inr (11, [.ref n1, .ref n2, .ref n3, .ref n7, .ref n8, .ref n12, .ref n16, .ref n21, .ref n22, .ref n37, .int 0, .int (-1), .int 0, .int 0, .null, .null, .null, .null, .null])), (n22, .inr (2, [.int 0, .int 0, .ref n23, .ref n24, .ref n25, .ref n26, .ref n27, .ref n28, .ref n29, .ref n30, .ref n31, .ref n32, .ref n33, .ref n34, .ref n35, .ref n36, .int 0])), (n64, .inr (12, [.int 0, .int 0, .int 0, .int 0, .int 0, .int 0, .int 0, .int (-1), .ref n65, .ref n66, .ref n67, .int 0, .ref n68, .ref n69, .ref n70, .ref n71, .ref n72, .ref n73, .ref n74, .int 0, .ref n75, .ref n76, .ref n77, .ref n78, .ref n79, .ref n80, .ref n81, .int 0, .int (-1), .int 0, .ref n82, .ref n83, .ref n84, .ref n85, .ref n86, .ref n87, .ref n88, .ref n89, .int 0, .ref n90, .ref n91, .ref n92, .ref n93, .ref n94, .int 0, .ref n95, .ref n96, .ref n97, .ref n98, .int 0, .ref n99, .ref n100, .ref n101, .ref n102, .int 0, .int 0, .ref n103, .ref n104, .ref n105, .ref n106])), (n66, .inl (G.2.1, 242, .inl (fun _ => 0)))] H locs) (hl : lv_has ls 8 [(4, .int 0), (3, .ref n107), (2, .ref n64), (1, .ref n0), (0, .ref b)]) : W p l e room_1 s m #[Value.ref b] below meth c H locs 108 210172 (lw_Z below #[Value.ref b] s) (F0 m 846 ls []) := by
  have hx := C.hx
  have hb := C.hb
  refine lv_aload_n hx hb dL_law_846 rfl (lv_at hl 3 rfl) ?_
  refine lv_aload_n hx hb dL_law_847 rfl (lv_at hl 4 rfl) ?_
  refine lv_iload hx hb dL_law_848 (lv_at hl 0 rfl) ?_
  refine lv_iconst (v := 1) hx hb dL_law_850 (by decide) ?_
  refine lv_iadd hx hb dL_law_851 ?_
  refine z_i (v := 1) (by decide +kernel) ?_
  refine va_sld hx hb hX hbl hbA w.2.2 (i := 1) (by decide) dL_law_852 ?_
  refine z_i (v := (xs 1)) rfl ?_
  refine lv_aload_n hx hb dL_law_853 rfl (lv_at hl 1 rfl) ?_
  refine fin_i C w (run_H C w mh_L_181 (k84_row C.b0 n0 n22 n107 n1 n2 n3 n7 n8 n12 n16 n21 n37 n23 n24 n25 n26 n27 n28 n29 n30 n31 n32 n33 n34 n35 n36 ((xs 1)) H.size) [0, 1] rfl rfl (by decide) rfl hl.1 rfl (Nat.le_of_ble_eq_true rfl) dL_law_854 (cells2 := 109) (slots2 := 210178) (by decide)) [0, 1] [2, 3] rfl rfl (by decide) (cells2 := 109) (slots2 := 210178) (by decide) (fun u1 H locs w => ?_)
  have w : Wd s G A [(n64, .inr (12, [.int 0, .int 0, .int 0, .int 0, .int 0, .int 0, .int 0, .int (-1), .ref n65, .ref n66, .ref n67, .int 0, .ref n68, .ref n69, .ref n70, .ref n71, .ref n72, .ref n73, .ref n74, .int 0, .ref n75, .ref n76, .ref n77, .ref n78, .ref n79, .ref n80, .ref n81, .int 0, .int (-1), .int 0, .ref n82, .ref n83, .ref n84, .ref n85, .ref n86, .ref n87, .ref n88, .ref n89, .int 0, .ref n90, .ref n91, .ref n92, .ref n93, .ref n94, .int 0, .ref n95, .ref n96, .ref n97, .ref n98, .int 0, .ref n99, .ref n100, .ref n101, .ref n102, .int 0, .int 0, .ref n103, .ref n104, .ref n105, .ref n106])), (n66, .inl (G.2.1, 242, .inl (fun _ => 0))), (n0, .inr (11, [.ref n1, .ref n2, .ref n3, .ref n7, .ref n8, .ref n12, .ref n16, .ref n21, .ref n22, .ref n37, .int 0, .int (-1), .int 0, .int 0, .null, .null, .null, .null, .null])), (n22, .inr (2, [.int 0, .int 0, .ref n23, .ref n24, .ref n25, .ref n26, .ref n27, .ref n28, .ref n29, .ref n30, .ref n31, .ref n32, .ref n33, .ref n34, .ref n35, .ref n36, .int 0]))] H locs := w
  refine lv_istore (lv' := [(5, .int 1), (4, .int 0), (3, .ref n107), (2, .ref n64), (1, .ref n0), (0, .ref b)]) hx hb dL_law_857 hl (by decide) rfl (fun ls hl => ?_)
  refine lv_aload_n hx hb dL_law_859 rfl (lv_at hl 3 rfl) ?_
  refine lv_aload_n hx hb dL_law_860 rfl (lv_at hl 5 rfl) ?_
  refine lv_iload hx hb dL_law_861 (lv_at hl 1 rfl) ?_
  refine lv_iconst (v := 1) hx hb dL_law_863 (by decide) ?_
  refine lv_iadd hx hb dL_law_864 ?_
  refine z_i (v := 1) (by decide +kernel) ?_
  refine va_sld hx hb hX hbl hbA w.2.2 (i := 1) (by decide) dL_law_865 ?_
  refine z_i (v := (xs 1)) rfl ?_
  refine fin_i C w (run_V C w mv_L_183 (k85_row C.b0 n64 n66 n65 n67 n68 n69 n70 n71 n72 n73 n74 n75 n76 n77 n78 n79 n80 n81 n82 n83 n84 n85 n86 n87 n88 n89 n90 n91 n92 n93 n94 n95 n96 n97 n98 n99 n100 n101 n102 n103 n104 n105 n106 ((xs 1)) H.size) [0, 1] rfl rfl 0 rfl rfl (by decide) rfl hl.1 rfl (Nat.le_of_ble_eq_true rfl) dL_law_866 (cells2 := 109) (slots2 := 210178) (by decide)) [0, 1] [2, 3] rfl rfl (by decide) (cells2 := 109) (slots2 := 210178) (by decide) (fun u2 H locs w => ?_)
  have w : Wd s G A [(n0, .inr (11, [.ref n1, .ref n2, .ref n3, .ref n7, .ref n8, .ref n12, .ref n16, .ref n21, .ref n22, .ref n37, .int 0, .int (-1), .int 0, .int 0, .null, .null, .null, .null, .null])), (n22, .inr (2, [.int 0, .int 0, .ref n23, .ref n24, .ref n25, .ref n26, .ref n27, .ref n28, .ref n29, .ref n30, .ref n31, .ref n32, .ref n33, .ref n34, .ref n35, .ref n36, .int 0])), (n64, .inr (12, [.int 1, .int 0, .int 0, .int 0, .int 0, .int 0, .int 0, .int (-1), .ref n65, .ref n66, .ref n67, .int 0, .ref n68, .ref n69, .ref n70, .ref n71, .ref n72, .ref n73, .ref n74, .int 0, .ref n75, .ref n76, .ref n77, .ref n78, .ref n79, .ref n80, .ref n81, .int 0, .int (-1), .int 0, .ref n82, .ref n83, .ref n84, .ref n85, .ref n86, .ref n87, .ref n88, .ref n89, .int 0, .ref n90, .ref n91, .ref n92, .ref n93, .ref n94, .int 0, .ref n95, .ref n96, .ref n97, .ref n98, .int 0, .ref n99, .ref n100, .ref n101, .ref n102, .int 0, .int 0, .ref n103, .ref n104, .ref n105, .ref n106])), (n66, .inl (G.2.1, 242, .inl (fun _ => 0)))] H locs := w
  refine lv_istore (lv' := [(6, .int 0), (5, .int 1), (4, .int 0), (3, .ref n107), (2, .ref n64), (1, .ref n0), (0, .ref b)]) hx hb dL_law_869 hl (by decide) rfl (fun ls hl => ?_)
  refine lv_aload_n hx hb dL_law_871 rfl (lv_at hl 4 rfl) ?_
  refine fin_i C w (run_V C w mv_L_150 (k20_thrown C.b0 n64 n65 n66 n67 n68 n69 n70 n71 n72 n73 n74 n75 n76 n77 n78 n79 n80 n81 n82 n83 n84 n85 n86 n87 n88 n89 n90 n91 n92 n93 n94 n95 n96 n97 n98 n99 n100 n101 n102 n103 n104 n105 n106 H.size) [2] rfl rfl 2 rfl rfl (by decide) rfl hl.1 rfl (Nat.le_of_ble_eq_true rfl) dL_law_872 (cells2 := 109) (slots2 := 210178) (by decide)) [2] [0, 1, 3] rfl rfl (by decide) (cells2 := 109) (slots2 := 210178) (by decide) (fun u3 H locs w => ?_)
  have w : Wd s G A [(n0, .inr (11, [.ref n1, .ref n2, .ref n3, .ref n7, .ref n8, .ref n12, .ref n16, .ref n21, .ref n22, .ref n37, .int 0, .int (-1), .int 0, .int 0, .null, .null, .null, .null, .null])), (n22, .inr (2, [.int 0, .int 0, .ref n23, .ref n24, .ref n25, .ref n26, .ref n27, .ref n28, .ref n29, .ref n30, .ref n31, .ref n32, .ref n33, .ref n34, .ref n35, .ref n36, .int 0])), (n66, .inl (G.2.1, 242, .inl (fun _ => 0))), (n64, .inr (12, [.int 1, .int 0, .int 0, .int 0, .int 0, .int 0, .int 0, .int (-1), .ref n65, .ref n66, .ref n67, .int 0, .ref n68, .ref n69, .ref n70, .ref n71, .ref n72, .ref n73, .ref n74, .int 0, .ref n75, .ref n76, .ref n77, .ref n78, .ref n79, .ref n80, .ref n81, .int 0, .int (-1), .int 0, .ref n82, .ref n83, .ref n84, .ref n85, .ref n86, .ref n87, .ref n88, .ref n89, .int 0, .ref n90, .ref n91, .ref n92, .ref n93, .ref n94, .int 0, .ref n95, .ref n96, .ref n97, .ref n98, .int 0, .ref n99, .ref n100, .ref n101, .ref n102, .int 0, .int 0, .ref n103, .ref n104, .ref n105, .ref n106]))] H locs := w
  refine lv_iload hx hb dL_law_875 (lv_at hl 1 rfl) ?_
  refine lv_icmp_eq (tgt := 882) hx hb dL_law_877 (by decide) (fun _ => ?_) (fun h => absurd (by decide) h)
  refine lv_iload hx hb dL_law_882 (lv_at hl 1 rfl) ?_
  refine lv_if_ne (tgt := 899) hx hb dL_law_884 (by decide) (fun _ => ?_) (fun h => h.elim (by decide))
  refine lv_goto (tgt := 3027) hx hb dL_law_899 (by decide) ?_
  exact lc_end C hr hX hbl hbA w (lv_sub hl [2, 6] rfl) (by decide) (by decide)
set_option maxRecDepth 100000 in
set_option maxHeartbeats 4000000 in
theorem lc_11_0 {l : Launch} {G : GT} {p : Program} {e : Env} {s : State} {m : MethodId} {below : List Frame} {meth : Method} {c : Code} {A : Nat → Prop} {b : Nat} {xs : Nat → Int32} (C : Cx l s #[Value.ref b] G p s m #[Value.ref b] meth c RL cL_law 8 "law" A) (hr : meth.sig.returnType = some .boolean) (hX : va_X b 6 xs s s.heap) (hbl : b < s.heap.size) (hbA : ¬ A b) (n0 n1 n2 n3 n4 n5 n6 n7 n8 n12 n16 n21 n22 n37 n64 n65 n66 n67 n68 n69 n70 n71 n72 n73 n74 n75 n76 n77 n78 n79 n80 n81 n82 n83 n84 n85 n86 n87 n88 n89 n90 n91 n92 n93 n94 n95 n96 n97 n98 n99 n100 n101 n102 n103 n104 n105 n106 n107 : Nat) {H : Heap} {locs : List Loc} {ls : Array Slot} (w : Wd s G A [(n0, .inr (11, [.ref n1, .ref n2, .ref n3, .ref n7, .ref n8, .ref n12, .ref n16, .ref n21, .ref n22, .ref n37, .int 0, .int (-1), .int 0, .int 0, .null, .null, .null, .null, .null])), (n3, .inr (5, [.ref n4, .ref n5, .ref n6, .int 0])), (n64, .inr (12, [.int 0, .int 0, .int 0, .int 0, .int 0, .int 0, .int 0, .int (-1), .ref n65, .ref n66, .ref n67, .int 0, .ref n68, .ref n69, .ref n70, .ref n71, .ref n72, .ref n73, .ref n74, .int 0, .ref n75, .ref n76, .ref n77, .ref n78, .ref n79, .ref n80, .ref n81, .int 0, .int (-1), .int 0, .ref n82, .ref n83, .ref n84, .ref n85, .ref n86, .ref n87, .ref n88, .ref n89, .int 0, .ref n90, .ref n91, .ref n92, .ref n93, .ref n94, .int 0, .ref n95, .ref n96, .ref n97, .ref n98, .int 0, .ref n99, .ref n100, .ref n101, .ref n102, .int 0, .int 0, .ref n103, .ref n104, .ref n105, .ref n106])), (n73, .inl (G.2.1, 57, .inl (fun _ => 0)))] H locs) (hl : lv_has ls 8 [(4, .int 0), (3, .ref n107), (2, .ref n64), (1, .ref n0), (0, .ref b)]) : W p l e room_1 s m #[Value.ref b] below meth c H locs 108 210172 (lw_Z below #[Value.ref b] s) (F0 m 902 ls []) := by
  have hx := C.hx
  have hb := C.hb
  refine lv_aload_n hx hb dL_law_902 rfl (lv_at hl 3 rfl) ?_
  refine fin_i C w (run_V C w mv_L_184 (k86_clear C.b0 n0 n3 n1 n2 n7 n8 n12 n16 n21 n22 n37 n4 n5 n6 H.size) [0, 1] rfl rfl 0 rfl rfl (by decide) rfl hl.1 rfl (Nat.le_of_ble_eq_true rfl) dL_law_903 (cells2 := 108) (slots2 := 210172) (by decide)) [0, 1] [2, 3] rfl rfl (by decide) (cells2 := 108) (slots2 := 210172) (by decide) (fun u1 H locs w => ?_)
  have w : Wd s G A [(n64, .inr (12, [.int 0, .int 0, .int 0, .int 0, .int 0, .int 0, .int 0, .int (-1), .ref n65, .ref n66, .ref n67, .int 0, .ref n68, .ref n69, .ref n70, .ref n71, .ref n72, .ref n73, .ref n74, .int 0, .ref n75, .ref n76, .ref n77, .ref n78, .ref n79, .ref n80, .ref n81, .int 0, .int (-1), .int 0, .ref n82, .ref n83, .ref n84, .ref n85, .ref n86, .ref n87, .ref n88, .ref n89, .int 0, .ref n90, .ref n91, .ref n92, .ref n93, .ref n94, .int 0, .ref n95, .ref n96, .ref n97, .ref n98, .int 0, .ref n99, .ref n100, .ref n101, .ref n102, .int 0, .int 0, .ref n103, .ref n104, .ref n105, .ref n106])), (n73, .inl (G.2.1, 57, .inl (fun _ => 0))), (n0, .inr (11, [.ref n1, .ref n2, .ref n3, .ref n7, .ref n8, .ref n12, .ref n16, .ref n21, .ref n22, .ref n37, .int 0, .int (-1), .int 0, .int 0, .null, .null, .null, .null, .null])), (n3, .inr (5, [.ref n4, .ref n5, .ref n6, .int 0]))] H locs := w
  refine lv_aload_n hx hb dL_law_906 rfl (lv_at hl 2 rfl) ?_
  refine fin_i C w (run_V C w mv_L_187 (k87_clear C.b0 n64 n73 n65 n66 n67 n68 n69 n70 n71 n72 n74 n75 n76 n77 n78 n79 n80 n81 n82 n83 n84 n85 n86 n87 n88 n89 n90 n91 n92 n93 n94 n95 n96 n97 n98 n99 n100 n101 n102 n103 n104 n105 n106 H.size) [0, 1] rfl rfl 0 rfl rfl (by decide) rfl hl.1 rfl (Nat.le_of_ble_eq_true rfl) dL_law_907 (cells2 := 108) (slots2 := 210172) (by decide)) [0, 1] [2, 3] rfl rfl (by decide) (cells2 := 108) (slots2 := 210172) (by decide) (fun u2 H locs w => ?_)
  have w : Wd s G A [(n0, .inr (11, [.ref n1, .ref n2, .ref n3, .ref n7, .ref n8, .ref n12, .ref n16, .ref n21, .ref n22, .ref n37, .int 0, .int (-1), .int 0, .int 0, .null, .null, .null, .null, .null])), (n3, .inr (5, [.ref n4, .ref n5, .ref n6, .int 0])), (n64, .inr (12, [.int 0, .int 0, .int 0, .int 0, .int 0, .int 0, .int 0, .int (-1), .ref n65, .ref n66, .ref n67, .int 0, .ref n68, .ref n69, .ref n70, .ref n71, .ref n72, .ref n73, .ref n74, .int 0, .ref n75, .ref n76, .ref n77, .ref n78, .ref n79, .ref n80, .ref n81, .int 0, .int (-1), .int 0, .ref n82, .ref n83, .ref n84, .ref n85, .ref n86, .ref n87, .ref n88, .ref n89, .int 0, .ref n90, .ref n91, .ref n92, .ref n93, .ref n94, .int 0, .ref n95, .ref n96, .ref n97, .ref n98, .int 0, .ref n99, .ref n100, .ref n101, .ref n102, .int 0, .int 0, .ref n103, .ref n104, .ref n105, .ref n106])), (n73, .inl (G.2.1, 57, .inl (fun _ => 0)))] H locs := w
  refine lv_icmp_eq (tgt := 3027) hx hb dL_law_910 (by decide) (fun _ => ?_) (fun h => absurd (by decide) h)
  exact lc_end C hr hX hbl hbA w (lv_sub hl [0, 4] rfl) (by decide) (by decide)
set_option maxRecDepth 100000 in
set_option maxHeartbeats 4000000 in
theorem lc_12_0 {l : Launch} {G : GT} {p : Program} {e : Env} {s : State} {m : MethodId} {below : List Frame} {meth : Method} {c : Code} {A : Nat → Prop} {b : Nat} {xs : Nat → Int32} (C : Cx l s #[Value.ref b] G p s m #[Value.ref b] meth c RL cL_law 8 "law" A) (hr : meth.sig.returnType = some .boolean) (hX : va_X b 6 xs s s.heap) (hbl : b < s.heap.size) (hbA : ¬ A b) (n0 n1 n2 n3 n4 n5 n6 n7 n8 n12 n16 n21 n22 n37 n64 n65 n66 n67 n68 n69 n70 n71 n72 n73 n74 n75 n76 n77 n78 n79 n80 n81 n82 n83 n84 n85 n86 n87 n88 n89 n90 n91 n92 n93 n94 n95 n96 n97 n98 n99 n100 n101 n102 n103 n104 n105 n106 n107 : Nat) {H : Heap} {locs : List Loc} {ls : Array Slot} (w : Wd s G A [(n0, .inr (11, [.ref n1, .ref n2, .ref n3, .ref n7, .ref n8, .ref n12, .ref n16, .ref n21, .ref n22, .ref n37, .int 0, .int (-1), .int 0, .int 0, .null, .null, .null, .null, .null])), (n3, .inr (5, [.ref n4, .ref n5, .ref n6, .int 0])), (n4, .inl (G.2.1, 8, .inl (fun _ => 0))), (n21, .inl (G.2.1, 8, .inl (fun _ => 0))), (n64, .inr (12, [.int 0, .int 0, .int 0, .int 0, .int 0, .int 0, .int 0, .int (-1), .ref n65, .ref n66, .ref n67, .int 0, .ref n68, .ref n69, .ref n70, .ref n71, .ref n72, .ref n73, .ref n74, .int 0, .ref n75, .ref n76, .ref n77, .ref n78, .ref n79, .ref n80, .ref n81, .int 0, .int (-1), .int 0, .ref n82, .ref n83, .ref n84, .ref n85, .ref n86, .ref n87, .ref n88, .ref n89, .int 0, .ref n90, .ref n91, .ref n92, .ref n93, .ref n94, .int 0, .ref n95, .ref n96, .ref n97, .ref n98, .int 0, .ref n99, .ref n100, .ref n101, .ref n102, .int 0, .int 0, .ref n103, .ref n104, .ref n105, .ref n106])), (n73, .inl (G.2.1, 57, .inl (fun _ => 0))), (n75, .inl (G.2.1, 8, .inl (fun _ => 0)))] H locs) (hl : lv_has ls 8 [(4, .int 0), (3, .ref n107), (2, .ref n64), (1, .ref n0), (0, .ref b)]) : W p l e room_1 s m #[Value.ref b] below meth c H locs 108 210172 (lw_Z below #[Value.ref b] s) (F0 m 915 ls []) := by
  have hx := C.hx
  have hb := C.hb
  refine lv_aload_n hx hb dL_law_915 rfl (lv_at hl 3 rfl) ?_
  refine fin_i C w (run_V C w mv_L_188 (k88_judge C.b0 n0 n3 n4 n21 n1 n2 n7 n8 n12 n16 n22 n37 n5 n6 H.size) [0, 1, 2, 3] rfl rfl 0 rfl rfl (by decide) rfl hl.1 rfl (Nat.le_of_ble_eq_true rfl) dL_law_916 (cells2 := 108) (slots2 := 210172) (by decide)) [0, 1, 2, 3] [4, 5, 6] rfl rfl (by decide) (cells2 := 108) (slots2 := 210172) (by decide) (fun u1 H locs w => ?_)
  have w : Wd s G A [(n64, .inr (12, [.int 0, .int 0, .int 0, .int 0, .int 0, .int 0, .int 0, .int (-1), .ref n65, .ref n66, .ref n67, .int 0, .ref n68, .ref n69, .ref n70, .ref n71, .ref n72, .ref n73, .ref n74, .int 0, .ref n75, .ref n76, .ref n77, .ref n78, .ref n79, .ref n80, .ref n81, .int 0, .int (-1), .int 0, .ref n82, .ref n83, .ref n84, .ref n85, .ref n86, .ref n87, .ref n88, .ref n89, .int 0, .ref n90, .ref n91, .ref n92, .ref n93, .ref n94, .int 0, .ref n95, .ref n96, .ref n97, .ref n98, .int 0, .ref n99, .ref n100, .ref n101, .ref n102, .int 0, .int 0, .ref n103, .ref n104, .ref n105, .ref n106])), (n73, .inl (G.2.1, 57, .inl (fun _ => 0))), (n75, .inl (G.2.1, 8, .inl (fun _ => 0))), (n0, .inr (11, [.ref n1, .ref n2, .ref n3, .ref n7, .ref n8, .ref n12, .ref n16, .ref n21, .ref n22, .ref n37, .int 0, .int (-1), .int 0, .int 0, .null, .null, .null, .null, .null])), (n3, .inr (5, [.ref n4, .ref n5, .ref n6, .int 0])), (n4, .inl (G.2.1, 8, .inl (fun _ => 0))), (n21, .inl (G.2.1, 8, .inl (fun _ => 0)))] H locs := w
  refine lv_aload_n hx hb dL_law_919 rfl (lv_at hl 2 rfl) ?_
  refine fin_i C w (run_V C w mv_L_191 (k90_judge C.b0 n64 n73 n75 n65 n66 n67 n68 n69 n70 n71 n72 n74 n76 n77 n78 n79 n80 n81 n82 n83 n84 n85 n86 n87 n88 n89 n90 n91 n92 n93 n94 n95 n96 n97 n98 n99 n100 n101 n102 n103 n104 n105 n106 H.size) [0, 1, 2] rfl rfl 0 rfl rfl (by decide) rfl hl.1 rfl (Nat.le_of_ble_eq_true rfl) dL_law_920 (cells2 := 108) (slots2 := 210172) (by decide)) [0, 1, 2] [3, 4, 5, 6] rfl rfl (by decide) (cells2 := 108) (slots2 := 210172) (by decide) (fun u2 H locs w => ?_)
  have w : Wd s G A [(n0, .inr (11, [.ref n1, .ref n2, .ref n3, .ref n7, .ref n8, .ref n12, .ref n16, .ref n21, .ref n22, .ref n37, .int 0, .int (-1), .int 0, .int 0, .null, .null, .null, .null, .null])), (n3, .inr (5, [.ref n4, .ref n5, .ref n6, .int 0])), (n4, .inl (G.2.1, 8, .inl (fun _ => 0))), (n21, .inl (G.2.1, 8, .inl (fun _ => 0))), (n64, .inr (12, [.int 0, .int 0, .int 0, .int 0, .int 0, .int 0, .int 0, .int (-1), .ref n65, .ref n66, .ref n67, .int 0, .ref n68, .ref n69, .ref n70, .ref n71, .ref n72, .ref n73, .ref n74, .int 0, .ref n75, .ref n76, .ref n77, .ref n78, .ref n79, .ref n80, .ref n81, .int 0, .int (-1), .int 0, .ref n82, .ref n83, .ref n84, .ref n85, .ref n86, .ref n87, .ref n88, .ref n89, .int 0, .ref n90, .ref n91, .ref n92, .ref n93, .ref n94, .int 0, .ref n95, .ref n96, .ref n97, .ref n98, .int 0, .ref n99, .ref n100, .ref n101, .ref n102, .int 0, .int 0, .ref n103, .ref n104, .ref n105, .ref n106])), (n73, .inl (G.2.1, 57, .inl (fun _ => 0))), (n75, .inl (G.2.1, 8, .inl (fun _ => 0)))] H locs := w
  refine lv_icmp_eq (tgt := 3027) hx hb dL_law_923 (by decide) (fun _ => ?_) (fun h => absurd (by decide) h)
  exact lc_end C hr hX hbl hbA w (lv_sub hl [0, 4] rfl) (by decide) (by decide)
set_option maxRecDepth 100000 in
set_option maxHeartbeats 4000000 in
theorem lc_13_0 {l : Launch} {G : GT} {p : Program} {e : Env} {s : State} {m : MethodId} {below : List Frame} {meth : Method} {c : Code} {A : Nat → Prop} {b : Nat} {xs : Nat → Int32} (C : Cx l s #[Value.ref b] G p s m #[Value.ref b] meth c RL cL_law 8 "law" A) (hr : meth.sig.returnType = some .boolean) (hX : va_X b 6 xs s s.heap) (hbl : b < s.heap.size) (hbA : ¬ A b) (n0 n1 n2 n3 n7 n8 n12 n16 n21 n22 n37 n64 n65 n66 n67 n68 n69 n70 n71 n72 n73 n74 n75 n76 n77 n78 n79 n80 n81 n82 n83 n84 n85 n86 n87 n88 n89 n90 n91 n92 n93 n94 n95 n96 n97 n98 n99 n100 n101 n102 n103 n104 n105 n106 n107 : Nat) (g0 : (xs 1) < 1) {H : Heap} {locs : List Loc} {ls : Array Slot} (w : Wd s G A [(n0, .inr (11, [.ref n1, .ref n2, .ref n3, .ref n7, .ref n8, .ref n12, .ref n16, .ref n21, .ref n22, .ref n37, .int 0, .int (-1), .int 0, .int 0, .null, .null, .null, .null, .null])), (n64, .inr (12, [.int 0, .int 0, .int 0, .int 0, .int 0, .int 0, .int 0, .int (-1), .ref n65, .ref n66, .ref n67, .int 0, .ref n68, .ref n69, .ref n70, .ref n71, .ref n72, .ref n73, .ref n74, .int 0, .ref n75, .ref n76, .ref n77, .ref n78, .ref n79, .ref n80, .ref n81, .int 0, .int (-1), .int 0, .ref n82, .ref n83, .ref n84, .ref n85, .ref n86, .ref n87, .ref n88, .ref n89, .int 0, .ref n90, .ref n91, .ref n92, .ref n93, .ref n94, .int 0, .ref n95, .ref n96, .ref n97, .ref n98, .int 0, .ref n99, .ref n100, .ref n101, .ref n102, .int 0, .int 0, .ref n103, .ref n104, .ref n105, .ref n106]))] H locs) (hl : lv_has ls 8 [(4, .int 0), (3, .ref n107), (2, .ref n64), (1, .ref n0), (0, .ref b)]) : W p l e room_1 s m #[Value.ref b] below meth c H locs 108 210172 (lw_Z below #[Value.ref b] s) (F0 m 928 ls []) := by
  have hx := C.hx
  have hb := C.hb
  refine lv_aload_n hx hb dL_law_928 rfl (lv_at hl 3 rfl) ?_
  refine lv_aload_n hx hb dL_law_929 rfl (lv_at hl 4 rfl) ?_
  refine lv_iload hx hb dL_law_930 (lv_at hl 0 rfl) ?_
  refine lv_iconst (v := 1) hx hb dL_law_932 (by decide) ?_
  refine lv_iadd hx hb dL_law_933 ?_
  refine z_i (v := 1) (by decide +kernel) ?_
  refine va_sld hx hb hX hbl hbA w.2.2 (i := 1) (by decide) dL_law_934 ?_
  refine z_i (v := (xs 1)) rfl ?_
  refine lv_aload_n hx hb dL_law_935 rfl (lv_at hl 1 rfl) ?_
  refine fin_i C w (run_H C w mh_L_192 (k94_states C.b0 n0 n107 n1 n2 n3 n7 n8 n12 n16 n21 n22 n37 ((xs 1)) g0 H.size) [0] rfl rfl (by decide) rfl hl.1 rfl (Nat.le_of_ble_eq_true rfl) dL_law_936 (cells2 := 109) (slots2 := 210178) (by decide)) [0] [1] rfl rfl (by decide) (cells2 := 109) (slots2 := 210178) (by decide) (fun u1 H locs w => ?_)
  have w : Wd s G A [(n64, .inr (12, [.int 0, .int 0, .int 0, .int 0, .int 0, .int 0, .int 0, .int (-1), .ref n65, .ref n66, .ref n67, .int 0, .ref n68, .ref n69, .ref n70, .ref n71, .ref n72, .ref n73, .ref n74, .int 0, .ref n75, .ref n76, .ref n77, .ref n78, .ref n79, .ref n80, .ref n81, .int 0, .int (-1), .int 0, .ref n82, .ref n83, .ref n84, .ref n85, .ref n86, .ref n87, .ref n88, .ref n89, .int 0, .ref n90, .ref n91, .ref n92, .ref n93, .ref n94, .int 0, .ref n95, .ref n96, .ref n97, .ref n98, .int 0, .ref n99, .ref n100, .ref n101, .ref n102, .int 0, .int 0, .ref n103, .ref n104, .ref n105, .ref n106])), (n0, .inr (11, [.ref n1, .ref n2, .ref n3, .ref n7, .ref n8, .ref n12, .ref n16, .ref n21, .ref n22, .ref n37, .int 0, .int (-1), .int 0, .int 0, .null, .null, .null, .null, .null]))] H locs := w
  refine lv_istore (lv' := [(5, .int 1), (4, .int 0), (3, .ref n107), (2, .ref n64), (1, .ref n0), (0, .ref b)]) hx hb dL_law_939 hl (by decide) rfl (fun ls hl => ?_)
  refine lv_aload_n hx hb dL_law_941 rfl (lv_at hl 3 rfl) ?_
  refine lv_aload_n hx hb dL_law_942 rfl (lv_at hl 5 rfl) ?_
  refine lv_iload hx hb dL_law_943 (lv_at hl 1 rfl) ?_
  refine lv_iconst (v := 1) hx hb dL_law_945 (by decide) ?_
  refine lv_iadd hx hb dL_law_946 ?_
  refine z_i (v := 1) (by decide +kernel) ?_
  refine va_sld hx hb hX hbl hbA w.2.2 (i := 1) (by decide) dL_law_947 ?_
  refine z_i (v := (xs 1)) rfl ?_
  refine fin_i C w (run_V C w mv_L_194 (k97_states C.b0 n64 n65 n66 n67 n68 n69 n70 n71 n72 n73 n74 n75 n76 n77 n78 n79 n80 n81 n82 n83 n84 n85 n86 n87 n88 n89 n90 n91 n92 n93 n94 n95 n96 n97 n98 n99 n100 n101 n102 n103 n104 n105 n106 ((xs 1)) g0 H.size) [0] rfl rfl 0 rfl rfl (by decide) rfl hl.1 rfl (Nat.le_of_ble_eq_true rfl) dL_law_948 (cells2 := 109) (slots2 := 210178) (by decide)) [0] [1] rfl rfl (by decide) (cells2 := 109) (slots2 := 210178) (by decide) (fun u2 H locs w => ?_)
  have w : Wd s G A [(n0, .inr (11, [.ref n1, .ref n2, .ref n3, .ref n7, .ref n8, .ref n12, .ref n16, .ref n21, .ref n22, .ref n37, .int 0, .int (-1), .int 0, .int 0, .null, .null, .null, .null, .null])), (n64, .inr (12, [.int 1, .int 0, .int 0, .int 0, .int 0, .int 0, .int 0, .int (-1), .ref n65, .ref n66, .ref n67, .int 0, .ref n68, .ref n69, .ref n70, .ref n71, .ref n72, .ref n73, .ref n74, .int 0, .ref n75, .ref n76, .ref n77, .ref n78, .ref n79, .ref n80, .ref n81, .int 0, .int (-1), .int 0, .ref n82, .ref n83, .ref n84, .ref n85, .ref n86, .ref n87, .ref n88, .ref n89, .int 0, .ref n90, .ref n91, .ref n92, .ref n93, .ref n94, .int 0, .ref n95, .ref n96, .ref n97, .ref n98, .int 0, .ref n99, .ref n100, .ref n101, .ref n102, .int 0, .int 0, .ref n103, .ref n104, .ref n105, .ref n106]))] H locs := w
  refine lv_istore (lv' := [(6, .int 0), (5, .int 1), (4, .int 0), (3, .ref n107), (2, .ref n64), (1, .ref n0), (0, .ref b)]) hx hb dL_law_951 hl (by decide) rfl (fun ls hl => ?_)
  refine lv_aload_n hx hb dL_law_953 rfl (lv_at hl 4 rfl) ?_
  refine fin_i C w (run_V C w mv_L_150 (k20_thrown C.b0 n64 n65 n66 n67 n68 n69 n70 n71 n72 n73 n74 n75 n76 n77 n78 n79 n80 n81 n82 n83 n84 n85 n86 n87 n88 n89 n90 n91 n92 n93 n94 n95 n96 n97 n98 n99 n100 n101 n102 n103 n104 n105 n106 H.size) [1] rfl rfl 1 rfl rfl (by decide) rfl hl.1 rfl (Nat.le_of_ble_eq_true rfl) dL_law_954 (cells2 := 109) (slots2 := 210178) (by decide)) [1] [0] rfl rfl (by decide) (cells2 := 109) (slots2 := 210178) (by decide) (fun u3 H locs w => ?_)
  have w : Wd s G A [(n0, .inr (11, [.ref n1, .ref n2, .ref n3, .ref n7, .ref n8, .ref n12, .ref n16, .ref n21, .ref n22, .ref n37, .int 0, .int (-1), .int 0, .int 0, .null, .null, .null, .null, .null])), (n64, .inr (12, [.int 1, .int 0, .int 0, .int 0, .int 0, .int 0, .int 0, .int (-1), .ref n65, .ref n66, .ref n67, .int 0, .ref n68, .ref n69, .ref n70, .ref n71, .ref n72, .ref n73, .ref n74, .int 0, .ref n75, .ref n76, .ref n77, .ref n78, .ref n79, .ref n80, .ref n81, .int 0, .int (-1), .int 0, .ref n82, .ref n83, .ref n84, .ref n85, .ref n86, .ref n87, .ref n88, .ref n89, .int 0, .ref n90, .ref n91, .ref n92, .ref n93, .ref n94, .int 0, .ref n95, .ref n96, .ref n97, .ref n98, .int 0, .ref n99, .ref n100, .ref n101, .ref n102, .int 0, .int 0, .ref n103, .ref n104, .ref n105, .ref n106]))] H locs := w
  refine lv_iload hx hb dL_law_957 (lv_at hl 1 rfl) ?_
  refine lv_icmp_eq (tgt := 964) hx hb dL_law_959 (by decide) (fun _ => ?_) (fun h => absurd (by decide) h)
  refine lv_iload hx hb dL_law_964 (lv_at hl 1 rfl) ?_
  refine lv_if_ne (tgt := 981) hx hb dL_law_966 (by decide) (fun _ => ?_) (fun h => h.elim (by decide))
  refine lv_goto (tgt := 3027) hx hb dL_law_981 (by decide) ?_
  exact lc_end C hr hX hbl hbA w (lv_sub hl [2, 6] rfl) (by decide) (by decide)
set_option maxRecDepth 100000 in
set_option maxHeartbeats 4000000 in
theorem lc_13_1 {l : Launch} {G : GT} {p : Program} {e : Env} {s : State} {m : MethodId} {below : List Frame} {meth : Method} {c : Code} {A : Nat → Prop} {b : Nat} {xs : Nat → Int32} (C : Cx l s #[Value.ref b] G p s m #[Value.ref b] meth c RL cL_law 8 "law" A) (hr : meth.sig.returnType = some .boolean) (hX : va_X b 6 xs s s.heap) (hbl : b < s.heap.size) (hbA : ¬ A b) (n0 n1 n2 n3 n7 n8 n12 n16 n21 n22 n37 n64 n65 n66 n67 n68 n69 n70 n71 n72 n73 n74 n75 n76 n77 n78 n79 n80 n81 n82 n83 n84 n85 n86 n87 n88 n89 n90 n91 n92 n93 n94 n95 n96 n97 n98 n99 n100 n101 n102 n103 n104 n105 n106 n107 : Nat) (g0 : ¬ (xs 1) < 1) (g1 : 3000 < (xs 1)) {H : Heap} {locs : List Loc} {ls : Array Slot} (w : Wd s G A [(n0, .inr (11, [.ref n1, .ref n2, .ref n3, .ref n7, .ref n8, .ref n12, .ref n16, .ref n21, .ref n22, .ref n37, .int 0, .int (-1), .int 0, .int 0, .null, .null, .null, .null, .null])), (n64, .inr (12, [.int 0, .int 0, .int 0, .int 0, .int 0, .int 0, .int 0, .int (-1), .ref n65, .ref n66, .ref n67, .int 0, .ref n68, .ref n69, .ref n70, .ref n71, .ref n72, .ref n73, .ref n74, .int 0, .ref n75, .ref n76, .ref n77, .ref n78, .ref n79, .ref n80, .ref n81, .int 0, .int (-1), .int 0, .ref n82, .ref n83, .ref n84, .ref n85, .ref n86, .ref n87, .ref n88, .ref n89, .int 0, .ref n90, .ref n91, .ref n92, .ref n93, .ref n94, .int 0, .ref n95, .ref n96, .ref n97, .ref n98, .int 0, .ref n99, .ref n100, .ref n101, .ref n102, .int 0, .int 0, .ref n103, .ref n104, .ref n105, .ref n106]))] H locs) (hl : lv_has ls 8 [(4, .int 0), (3, .ref n107), (2, .ref n64), (1, .ref n0), (0, .ref b)]) : W p l e room_1 s m #[Value.ref b] below meth c H locs 108 210172 (lw_Z below #[Value.ref b] s) (F0 m 928 ls []) := by
  have hx := C.hx
  have hb := C.hb
  refine lv_aload_n hx hb dL_law_928 rfl (lv_at hl 3 rfl) ?_
  refine lv_aload_n hx hb dL_law_929 rfl (lv_at hl 4 rfl) ?_
  refine lv_iload hx hb dL_law_930 (lv_at hl 0 rfl) ?_
  refine lv_iconst (v := 1) hx hb dL_law_932 (by decide) ?_
  refine lv_iadd hx hb dL_law_933 ?_
  refine z_i (v := 1) (by decide +kernel) ?_
  refine va_sld hx hb hX hbl hbA w.2.2 (i := 1) (by decide) dL_law_934 ?_
  refine z_i (v := (xs 1)) rfl ?_
  refine lv_aload_n hx hb dL_law_935 rfl (lv_at hl 1 rfl) ?_
  refine fin_i C w (run_H C w mh_L_192 (k101_states C.b0 n0 n107 n1 n2 n3 n7 n8 n12 n16 n21 n22 n37 ((xs 1)) g1 g0 H.size) [0] rfl rfl (by decide) rfl hl.1 rfl (Nat.le_of_ble_eq_true rfl) dL_law_936 (cells2 := 109) (slots2 := 210178) (by decide)) [0] [1] rfl rfl (by decide) (cells2 := 109) (slots2 := 210178) (by decide) (fun u1 H locs w => ?_)
  have w : Wd s G A [(n64, .inr (12, [.int 0, .int 0, .int 0, .int 0, .int 0, .int 0, .int 0, .int (-1), .ref n65, .ref n66, .ref n67, .int 0, .ref n68, .ref n69, .ref n70, .ref n71, .ref n72, .ref n73, .ref n74, .int 0, .ref n75, .ref n76, .ref n77, .ref n78, .ref n79, .ref n80, .ref n81, .int 0, .int (-1), .int 0, .ref n82, .ref n83, .ref n84, .ref n85, .ref n86, .ref n87, .ref n88, .ref n89, .int 0, .ref n90, .ref n91, .ref n92, .ref n93, .ref n94, .int 0, .ref n95, .ref n96, .ref n97, .ref n98, .int 0, .ref n99, .ref n100, .ref n101, .ref n102, .int 0, .int 0, .ref n103, .ref n104, .ref n105, .ref n106])), (n0, .inr (11, [.ref n1, .ref n2, .ref n3, .ref n7, .ref n8, .ref n12, .ref n16, .ref n21, .ref n22, .ref n37, .int 0, .int (-1), .int 0, .int 0, .null, .null, .null, .null, .null]))] H locs := w
  refine lv_istore (lv' := [(5, .int 1), (4, .int 0), (3, .ref n107), (2, .ref n64), (1, .ref n0), (0, .ref b)]) hx hb dL_law_939 hl (by decide) rfl (fun ls hl => ?_)
  refine lv_aload_n hx hb dL_law_941 rfl (lv_at hl 3 rfl) ?_
  refine lv_aload_n hx hb dL_law_942 rfl (lv_at hl 5 rfl) ?_
  refine lv_iload hx hb dL_law_943 (lv_at hl 1 rfl) ?_
  refine lv_iconst (v := 1) hx hb dL_law_945 (by decide) ?_
  refine lv_iadd hx hb dL_law_946 ?_
  refine z_i (v := 1) (by decide +kernel) ?_
  refine va_sld hx hb hX hbl hbA w.2.2 (i := 1) (by decide) dL_law_947 ?_
  refine z_i (v := (xs 1)) rfl ?_
  refine fin_i C w (run_V C w mv_L_194 (k104_states C.b0 n64 n65 n66 n67 n68 n69 n70 n71 n72 n73 n74 n75 n76 n77 n78 n79 n80 n81 n82 n83 n84 n85 n86 n87 n88 n89 n90 n91 n92 n93 n94 n95 n96 n97 n98 n99 n100 n101 n102 n103 n104 n105 n106 ((xs 1)) g1 g0 H.size) [0] rfl rfl 0 rfl rfl (by decide) rfl hl.1 rfl (Nat.le_of_ble_eq_true rfl) dL_law_948 (cells2 := 109) (slots2 := 210178) (by decide)) [0] [1] rfl rfl (by decide) (cells2 := 109) (slots2 := 210178) (by decide) (fun u2 H locs w => ?_)
  have w : Wd s G A [(n0, .inr (11, [.ref n1, .ref n2, .ref n3, .ref n7, .ref n8, .ref n12, .ref n16, .ref n21, .ref n22, .ref n37, .int 0, .int (-1), .int 0, .int 0, .null, .null, .null, .null, .null])), (n64, .inr (12, [.int 1, .int 0, .int 0, .int 0, .int 0, .int 0, .int 0, .int (-1), .ref n65, .ref n66, .ref n67, .int 0, .ref n68, .ref n69, .ref n70, .ref n71, .ref n72, .ref n73, .ref n74, .int 0, .ref n75, .ref n76, .ref n77, .ref n78, .ref n79, .ref n80, .ref n81, .int 0, .int (-1), .int 0, .ref n82, .ref n83, .ref n84, .ref n85, .ref n86, .ref n87, .ref n88, .ref n89, .int 0, .ref n90, .ref n91, .ref n92, .ref n93, .ref n94, .int 0, .ref n95, .ref n96, .ref n97, .ref n98, .int 0, .ref n99, .ref n100, .ref n101, .ref n102, .int 0, .int 0, .ref n103, .ref n104, .ref n105, .ref n106]))] H locs := w
  refine lv_istore (lv' := [(6, .int 0), (5, .int 1), (4, .int 0), (3, .ref n107), (2, .ref n64), (1, .ref n0), (0, .ref b)]) hx hb dL_law_951 hl (by decide) rfl (fun ls hl => ?_)
  refine lv_aload_n hx hb dL_law_953 rfl (lv_at hl 4 rfl) ?_
  refine fin_i C w (run_V C w mv_L_150 (k20_thrown C.b0 n64 n65 n66 n67 n68 n69 n70 n71 n72 n73 n74 n75 n76 n77 n78 n79 n80 n81 n82 n83 n84 n85 n86 n87 n88 n89 n90 n91 n92 n93 n94 n95 n96 n97 n98 n99 n100 n101 n102 n103 n104 n105 n106 H.size) [1] rfl rfl 1 rfl rfl (by decide) rfl hl.1 rfl (Nat.le_of_ble_eq_true rfl) dL_law_954 (cells2 := 109) (slots2 := 210178) (by decide)) [1] [0] rfl rfl (by decide) (cells2 := 109) (slots2 := 210178) (by decide) (fun u3 H locs w => ?_)
  have w : Wd s G A [(n0, .inr (11, [.ref n1, .ref n2, .ref n3, .ref n7, .ref n8, .ref n12, .ref n16, .ref n21, .ref n22, .ref n37, .int 0, .int (-1), .int 0, .int 0, .null, .null, .null, .null, .null])), (n64, .inr (12, [.int 1, .int 0, .int 0, .int 0, .int 0, .int 0, .int 0, .int (-1), .ref n65, .ref n66, .ref n67, .int 0, .ref n68, .ref n69, .ref n70, .ref n71, .ref n72, .ref n73, .ref n74, .int 0, .ref n75, .ref n76, .ref n77, .ref n78, .ref n79, .ref n80, .ref n81, .int 0, .int (-1), .int 0, .ref n82, .ref n83, .ref n84, .ref n85, .ref n86, .ref n87, .ref n88, .ref n89, .int 0, .ref n90, .ref n91, .ref n92, .ref n93, .ref n94, .int 0, .ref n95, .ref n96, .ref n97, .ref n98, .int 0, .ref n99, .ref n100, .ref n101, .ref n102, .int 0, .int 0, .ref n103, .ref n104, .ref n105, .ref n106]))] H locs := w
  refine lv_iload hx hb dL_law_957 (lv_at hl 1 rfl) ?_
  refine lv_icmp_eq (tgt := 964) hx hb dL_law_959 (by decide) (fun _ => ?_) (fun h => absurd (by decide) h)
  refine lv_iload hx hb dL_law_964 (lv_at hl 1 rfl) ?_
  refine lv_if_ne (tgt := 981) hx hb dL_law_966 (by decide) (fun _ => ?_) (fun h => h.elim (by decide))
  refine lv_goto (tgt := 3027) hx hb dL_law_981 (by decide) ?_
  exact lc_end C hr hX hbl hbA w (lv_sub hl [2, 6] rfl) (by decide) (by decide)
set_option maxRecDepth 100000 in
set_option maxHeartbeats 4000000 in
theorem lc_13_2 {l : Launch} {G : GT} {p : Program} {e : Env} {s : State} {m : MethodId} {below : List Frame} {meth : Method} {c : Code} {A : Nat → Prop} {b : Nat} {xs : Nat → Int32} (C : Cx l s #[Value.ref b] G p s m #[Value.ref b] meth c RL cL_law 8 "law" A) (hr : meth.sig.returnType = some .boolean) (hX : va_X b 6 xs s s.heap) (hbl : b < s.heap.size) (hbA : ¬ A b) (n0 n1 n2 n3 n4 n5 n6 n7 n8 n12 n16 n21 n22 n23 n24 n25 n26 n27 n28 n29 n30 n31 n32 n33 n34 n35 n36 n37 n64 n65 n66 n67 n68 n69 n70 n71 n72 n73 n74 n75 n76 n77 n78 n79 n80 n81 n82 n83 n84 n85 n86 n87 n88 n89 n90 n91 n92 n93 n94 n95 n96 n97 n98 n99 n100 n101 n102 n103 n104 n105 n106 n107 : Nat) (g0 : ¬ (xs 1) < 1) (g1 : ¬ 3000 < (xs 1)) {H : Heap} {locs : List Loc} {ls : Array Slot} (w : Wd s G A [(n0, .inr (11, [.ref n1, .ref n2, .ref n3, .ref n7, .ref n8, .ref n12, .ref n16, .ref n21, .ref n22, .ref n37, .int 0, .int (-1), .int 0, .int 0, .null, .null, .null, .null, .null])), (n3, .inr (5, [.ref n4, .ref n5, .ref n6, .int 0])), (n4, .inl (G.2.1, 8, .inl (fun _ => 0))), (n22, .inr (2, [.int 0, .int 0, .ref n23, .ref n24, .ref n25, .ref n26, .ref n27, .ref n28, .ref n29, .ref n30, .ref n31, .ref n32, .ref n33, .ref n34, .ref n35, .ref n36, .int 0])), (n64, .inr (12, [.int 0, .int 0, .int 0, .int 0, .int 0, .int 0, .int 0, .int (-1), .ref n65, .ref n66, .ref n67, .int 0, .ref n68, .ref n69, .ref n70, .ref n71, .ref n72, .ref n73, .ref n74, .int 0, .ref n75, .ref n76, .ref n77, .ref n78, .ref n79, .ref n80, .ref n81, .int 0, .int (-1), .int 0, .ref n82, .ref n83, .ref n84, .ref n85, .ref n86, .ref n87, .ref n88, .ref n89, .int 0, .ref n90, .ref n91, .ref n92, .ref n93, .ref n94, .int 0, .ref n95, .ref n96, .ref n97, .ref n98, .int 0, .ref n99, .ref n100, .ref n101, .ref n102, .int 0, .int 0, .ref n103, .ref n104, .ref n105, .ref n106])), (n66, .inl (G.2.1, 242, .inl (fun _ => 0))), (n73, .inl (G.2.1, 57, .inl (fun _ => 0))), (n75, .inl (G.2.1, 8, .inl (fun _ => 0))), (n76, .inl (G.2.1, 24008, .inl (fun _ => 0))), (n78, .inl (G.2.1, 3000, .inl (fun _ => 0))), (n79, .inl (G.2.1, 3000, .inl (fun _ => 0))), (n80, .inl (G.2.1, 4096, .inl (fun _ => 0))), (n81, .inl (G.2.1, 3000, .inl (fun _ => 0))), (n107, .inl (G.2.2.1, 1, .inr (.inl (fun _ => 0))))] H locs) (hl : lv_has ls 8 [(4, .int 0), (3, .ref n107), (2, .ref n64), (1, .ref n0), (0, .ref b)]) : W p l e room_1 s m #[Value.ref b] below meth c H locs 108 210172 (lw_Z below #[Value.ref b] s) (F0 m 928 ls []) := by
  have hx := C.hx
  have hb := C.hb
  refine lv_aload_n hx hb dL_law_928 rfl (lv_at hl 3 rfl) ?_
  refine lv_aload_n hx hb dL_law_929 rfl (lv_at hl 4 rfl) ?_
  refine lv_iload hx hb dL_law_930 (lv_at hl 0 rfl) ?_
  refine lv_iconst (v := 1) hx hb dL_law_932 (by decide) ?_
  refine lv_iadd hx hb dL_law_933 ?_
  refine z_i (v := 1) (by decide +kernel) ?_
  refine va_sld hx hb hX hbl hbA w.2.2 (i := 1) (by decide) dL_law_934 ?_
  refine z_i (v := (xs 1)) rfl ?_
  refine lv_aload_n hx hb dL_law_935 rfl (lv_at hl 1 rfl) ?_
  refine fin_i C w (run_H C w mh_L_192 (k118_states C.b0 n0 n3 n22 n4 n107 n1 n2 n7 n8 n12 n16 n21 n37 n5 n6 n23 n24 n25 n26 n27 n28 n29 n30 n31 n32 n33 n34 n35 n36 ((xs 1)) g1 g0 H.size) [0, 1, 3, 2, 13] rfl rfl (by decide) rfl hl.1 rfl (Nat.le_of_ble_eq_true rfl) dL_law_936 (cells2 := 117) (slots2 := 275538) (by decide)) [0, 1, 3, 2, 13] [4, 5, 6, 7, 8, 9, 10, 11, 12] rfl rfl (by decide) (cells2 := 117) (slots2 := 275538) (by decide) (fun u1 H locs w => ?_)
  have w : Wd s G A [(n64, .inr (12, [.int 0, .int 0, .int 0, .int 0, .int 0, .int 0, .int 0, .int (-1), .ref n65, .ref n66, .ref n67, .int 0, .ref n68, .ref n69, .ref n70, .ref n71, .ref n72, .ref n73, .ref n74, .int 0, .ref n75, .ref n76, .ref n77, .ref n78, .ref n79, .ref n80, .ref n81, .int 0, .int (-1), .int 0, .ref n82, .ref n83, .ref n84, .ref n85, .ref n86, .ref n87, .ref n88, .ref n89, .int 0, .ref n90, .ref n91, .ref n92, .ref n93, .ref n94, .int 0, .ref n95, .ref n96, .ref n97, .ref n98, .int 0, .ref n99, .ref n100, .ref n101, .ref n102, .int 0, .int 0, .ref n103, .ref n104, .ref n105, .ref n106])), (n66, .inl (G.2.1, 242, .inl (fun _ => 0))), (n73, .inl (G.2.1, 57, .inl (fun _ => 0))), (n75, .inl (G.2.1, 8, .inl (fun _ => 0))), (n76, .inl (G.2.1, 24008, .inl (fun _ => 0))), (n78, .inl (G.2.1, 3000, .inl (fun _ => 0))), (n79, .inl (G.2.1, 3000, .inl (fun _ => 0))), (n80, .inl (G.2.1, 4096, .inl (fun _ => 0))), (n81, .inl (G.2.1, 3000, .inl (fun _ => 0))), (n0, .inr (11, [.ref n1, .ref n2, .ref n3, .ref n7, .ref n8, .ref n12, .ref n16, .ref n21, .ref n22, .ref n37, .int 0, .int (-1), .int 0, .int 0, .ref (u1 0), .null, .null, .null, .null])), (n3, .inr (5, [.ref n4, .ref n5, .ref n6, .int 0])), (n22, .inr (2, [.int 0, .int 0, .ref n23, .ref n24, .ref n25, .ref n26, .ref n27, .ref n28, .ref n29, .ref n30, .ref n31, .ref n32, .ref n33, .ref n34, .ref n35, .ref n36, .int 0])), (n4, .inl (G.2.1, 8, .inl (fun _ => 0))), (n107, .inl (G.2.2.1, 1, .inr (.inl (vp_updL (fun _ => 0) 0 1)))), ((u1 0), .inr (1, [.int 0, .ref n22, .ref (u1 1), .ref (u1 2), .ref (u1 5), .ref (u1 6), .ref (u1 7), .ref (u1 8), .int 1])), ((u1 1), .inl (G.2.1, 24064, .inl (fun _ => 0))), ((u1 2), .inr (7, [.ref (u1 3), .int 0, .int 1, .int 3008, .ref (u1 4)])), ((u1 3), .inl (G.2.1, 24064, .inl (fun _ => 0))), ((u1 4), .inl (G.2.1, 8192, .inl (upd (fun _ => (-1)) 7 0))), ((u1 5), .inl (G.2.1, 3008, .inl (fun _ => 0))), ((u1 6), .inl (G.2.1, 3008, .inl (upd (fun _ => 0) 0 (-1)))), ((u1 7), .inl (G.2.1, 3008, .inl (upd (fun _ => 0) 0 (-1)))), ((u1 8), .inl (G.2.1, 8, .inl (fun _ => 0)))] H locs := w
  refine lv_istore (lv' := [(5, .int 0), (4, .int 0), (3, .ref n107), (2, .ref n64), (1, .ref n0), (0, .ref b)]) hx hb dL_law_939 hl (by decide) rfl (fun ls hl => ?_)
  refine lv_aload_n hx hb dL_law_941 rfl (lv_at hl 3 rfl) ?_
  refine lv_aload_n hx hb dL_law_942 rfl (lv_at hl 5 rfl) ?_
  refine lv_iload hx hb dL_law_943 (lv_at hl 1 rfl) ?_
  refine lv_iconst (v := 1) hx hb dL_law_945 (by decide) ?_
  refine lv_iadd hx hb dL_law_946 ?_
  refine z_i (v := 1) (by decide +kernel) ?_
  refine va_sld hx hb hX hbl hbA w.2.2 (i := 1) (by decide) dL_law_947 ?_
  refine z_i (v := (xs 1)) rfl ?_
  refine fin_i C w (run_V C w mv_L_194 (k125_states C.b0 n64 n80 n73 n75 n76 n81 n78 n79 n66 n65 n67 n68 n69 n70 n71 n72 n74 n77 n82 n83 n84 n85 n86 n87 n88 n89 n90 n91 n92 n93 n94 n95 n96 n97 n98 n99 n100 n101 n102 n103 n104 n105 n106 ((xs 1)) g1 g0 H.size) [0, 7, 2, 3, 4, 8, 5, 6, 1] rfl rfl 0 rfl rfl (by decide) rfl hl.1 rfl (Nat.le_of_ble_eq_true rfl) dL_law_948 (cells2 := 117) (slots2 := 275538) (by decide)) [0, 7, 2, 3, 4, 8, 5, 6, 1] [9, 10, 11, 12, 13, 14, 15, 16, 17, 18, 19, 20, 21, 22] rfl rfl (by decide) (cells2 := 117) (slots2 := 275538) (by decide) (fun u2 H locs w => ?_)
  have w : Wd s G A [(n0, .inr (11, [.ref n1, .ref n2, .ref n3, .ref n7, .ref n8, .ref n12, .ref n16, .ref n21, .ref n22, .ref n37, .int 0, .int (-1), .int 0, .int 0, .ref (u1 0), .null, .null, .null, .null])), (n3, .inr (5, [.ref n4, .ref n5, .ref n6, .int 0])), (n22, .inr (2, [.int 0, .int 0, .ref n23, .ref n24, .ref n25, .ref n26, .ref n27, .ref n28, .ref n29, .ref n30, .ref n31, .ref n32, .ref n33, .ref n34, .ref n35, .ref n36, .int 0])), (n4, .inl (G.2.1, 8, .inl (fun _ => 0))), (n107, .inl (G.2.2.1, 1, .inr (.inl (vp_updL (fun _ => 0) 0 1)))), ((u1 0), .inr (1, [.int 0, .ref n22, .ref (u1 1), .ref (u1 2), .ref (u1 5), .ref (u1 6), .ref (u1 7), .ref (u1 8), .int 1])), ((u1 1), .inl (G.2.1, 24064, .inl (fun _ => 0))), ((u1 2), .inr (7, [.ref (u1 3), .int 0, .int 1, .int 3008, .ref (u1 4)])), ((u1 3), .inl (G.2.1, 24064, .inl (fun _ => 0))), ((u1 4), .inl (G.2.1, 8192, .inl (upd (fun _ => (-1)) 7 0))), ((u1 5), .inl (G.2.1, 3008, .inl (fun _ => 0))), ((u1 6), .inl (G.2.1, 3008, .inl (upd (fun _ => 0) 0 (-1)))), ((u1 7), .inl (G.2.1, 3008, .inl (upd (fun _ => 0) 0 (-1)))), ((u1 8), .inl (G.2.1, 8, .inl (fun _ => 0))), (n64, .inr (12, [.int 0, .int 0, .int 0, .int 0, .int 0, .int 0, .int 0, .int (-1), .ref n65, .ref n66, .ref n67, .int 0, .ref n68, .ref n69, .ref n70, .ref n71, .ref n72, .ref n73, .ref n74, .int 0, .ref n75, .ref n76, .ref n77, .ref n78, .ref n79, .ref n80, .ref n81, .int 1, .int (-1), .int 0, .ref n82, .ref n83, .ref n84, .ref n85, .ref n86, .ref n87, .ref n88, .ref n89, .int 0, .ref n90, .ref n91, .ref n92, .ref n93, .ref n94, .int 0, .ref n95, .ref n96, .ref n97, .ref n98, .int 0, .ref n99, .ref n100, .ref n101, .ref n102, .int 0, .int 0, .ref n103, .ref n104, .ref n105, .ref n106])), (n80, .inl (G.2.1, 4096, .inl (upd (fun _ => (-1)) 0 0))), (n73, .inl (G.2.1, 57, .inl (fun _ => 0))), (n75, .inl (G.2.1, 8, .inl (fun _ => 0))), (n76, .inl (G.2.1, 24008, .inl (fun _ => 0))), (n81, .inl (G.2.1, 3000, .inl (upd (fun _ => 0) 0 (-1)))), (n78, .inl (G.2.1, 3000, .inl (upd (fun _ => 0) 0 (-1)))), (n79, .inl (G.2.1, 3000, .inl (upd (fun _ => 0) 0 (-1)))), (n66, .inl (G.2.1, 242, .inl (fun _ => 0)))] H locs := w
  refine lv_istore (lv' := [(6, .int 1), (5, .int 0), (4, .int 0), (3, .ref n107), (2, .ref n64), (1, .ref n0), (0, .ref b)]) hx hb dL_law_951 hl (by decide) rfl (fun ls hl => ?_)
  refine lv_aload_n hx hb dL_law_953 rfl (lv_at hl 4 rfl) ?_
  refine fin_i C w (run_V C w mv_L_150 (k126_thrown C.b0 n64 n65 n66 n67 n68 n69 n70 n71 n72 n73 n74 n75 n76 n77 n78 n79 n80 n81 n82 n83 n84 n85 n86 n87 n88 n89 n90 n91 n92 n93 n94 n95 n96 n97 n98 n99 n100 n101 n102 n103 n104 n105 n106 H.size) [14] rfl rfl 14 rfl rfl (by decide) rfl hl.1 rfl (Nat.le_of_ble_eq_true rfl) dL_law_954 (cells2 := 117) (slots2 := 275538) (by decide)) [14] [0, 1, 2, 3, 4, 5, 6, 7, 8, 9, 10, 11, 12, 13, 15, 16, 17, 18, 19, 20, 21, 22] rfl rfl (by decide) (cells2 := 117) (slots2 := 275538) (by decide) (fun u3 H locs w => ?_)
  have w : Wd s G A [(n0, .inr (11, [.ref n1, .ref n2, .ref n3, .ref n7, .ref n8, .ref n12, .ref n16, .ref n21, .ref n22, .ref n37, .int 0, .int (-1), .int 0, .int 0, .ref (u1 0), .null, .null, .null, .null])), (n3, .inr (5, [.ref n4, .ref n5, .ref n6, .int 0])), (n22, .inr (2, [.int 0, .int 0, .ref n23, .ref n24, .ref n25, .ref n26, .ref n27, .ref n28, .ref n29, .ref n30, .ref n31, .ref n32, .ref n33, .ref n34, .ref n35, .ref n36, .int 0])), (n4, .inl (G.2.1, 8, .inl (fun _ => 0))), (n107, .inl (G.2.2.1, 1, .inr (.inl (vp_updL (fun _ => 0) 0 1)))), ((u1 0), .inr (1, [.int 0, .ref n22, .ref (u1 1), .ref (u1 2), .ref (u1 5), .ref (u1 6), .ref (u1 7), .ref (u1 8), .int 1])), ((u1 1), .inl (G.2.1, 24064, .inl (fun _ => 0))), ((u1 2), .inr (7, [.ref (u1 3), .int 0, .int 1, .int 3008, .ref (u1 4)])), ((u1 3), .inl (G.2.1, 24064, .inl (fun _ => 0))), ((u1 4), .inl (G.2.1, 8192, .inl (upd (fun _ => (-1)) 7 0))), ((u1 5), .inl (G.2.1, 3008, .inl (fun _ => 0))), ((u1 6), .inl (G.2.1, 3008, .inl (upd (fun _ => 0) 0 (-1)))), ((u1 7), .inl (G.2.1, 3008, .inl (upd (fun _ => 0) 0 (-1)))), ((u1 8), .inl (G.2.1, 8, .inl (fun _ => 0))), (n80, .inl (G.2.1, 4096, .inl (upd (fun _ => (-1)) 0 0))), (n73, .inl (G.2.1, 57, .inl (fun _ => 0))), (n75, .inl (G.2.1, 8, .inl (fun _ => 0))), (n76, .inl (G.2.1, 24008, .inl (fun _ => 0))), (n81, .inl (G.2.1, 3000, .inl (upd (fun _ => 0) 0 (-1)))), (n78, .inl (G.2.1, 3000, .inl (upd (fun _ => 0) 0 (-1)))), (n79, .inl (G.2.1, 3000, .inl (upd (fun _ => 0) 0 (-1)))), (n66, .inl (G.2.1, 242, .inl (fun _ => 0))), (n64, .inr (12, [.int 0, .int 0, .int 0, .int 0, .int 0, .int 0, .int 0, .int (-1), .ref n65, .ref n66, .ref n67, .int 0, .ref n68, .ref n69, .ref n70, .ref n71, .ref n72, .ref n73, .ref n74, .int 0, .ref n75, .ref n76, .ref n77, .ref n78, .ref n79, .ref n80, .ref n81, .int 1, .int (-1), .int 0, .ref n82, .ref n83, .ref n84, .ref n85, .ref n86, .ref n87, .ref n88, .ref n89, .int 0, .ref n90, .ref n91, .ref n92, .ref n93, .ref n94, .int 0, .ref n95, .ref n96, .ref n97, .ref n98, .int 0, .ref n99, .ref n100, .ref n101, .ref n102, .int 0, .int 0, .ref n103, .ref n104, .ref n105, .ref n106]))] H locs := w
  refine lv_iload hx hb dL_law_957 (lv_at hl 1 rfl) ?_
  refine lv_icmp_eq (tgt := 964) hx hb dL_law_959 (by decide) (fun _ => ?_) (fun h => absurd (by decide) h)
  refine lv_iload hx hb dL_law_964 (lv_at hl 1 rfl) ?_
  refine lv_if_ne (tgt := 981) hx hb dL_law_966 (by decide) (fun h => absurd (by decide) h) (fun _ => ?_)
  refine lv_aload_n hx hb dL_law_969 rfl (lv_at hl 3 rfl) ?_
  refine lv_iconst (v := 0) hx hb dL_law_970 (by decide) ?_
  refine r_lald C w 4 rfl (IX.of (k := 0) (by decide +kernel)) (v := 1) rfl dL_law_971 ?_
  refine lv_iload hx hb dL_law_972 (lv_at hl 0 rfl) ?_
  refine lv_i2l (v := 1) hx hb dL_law_974 (by decide +kernel) ?_
  refine W.lcmp hx hb dL_law_975 ?_
  refine z_i (v := 0) (by decide +kernel) ?_
  refine lv_if_eq (tgt := 981) hx hb dL_law_976 (by decide) (fun _ => ?_) (fun h => absurd (by decide) h)
  refine lv_goto (tgt := 3027) hx hb dL_law_981 (by decide) ?_
  exact lc_end C hr hX hbl hbA w (lv_sub hl [2, 6] rfl) (by decide) (by decide)
set_option maxRecDepth 100000 in
set_option maxHeartbeats 4000000 in
theorem lc_14_0 {l : Launch} {G : GT} {p : Program} {e : Env} {s : State} {m : MethodId} {below : List Frame} {meth : Method} {c : Code} {A : Nat → Prop} {b : Nat} {xs : Nat → Int32} (C : Cx l s #[Value.ref b] G p s m #[Value.ref b] meth c RL cL_law 8 "law" A) (hr : meth.sig.returnType = some .boolean) (hX : va_X b 6 xs s s.heap) (hbl : b < s.heap.size) (hbA : ¬ A b) (n0 n1 n2 n3 n7 n8 n12 n16 n21 n22 n23 n24 n25 n26 n27 n28 n29 n30 n31 n32 n33 n34 n35 n36 n37 n64 n65 n66 n67 n68 n69 n70 n71 n72 n73 n74 n75 n76 n77 n78 n79 n80 n81 n82 n83 n84 n85 n86 n87 n88 n89 n90 n91 n92 n93 n94 n95 n96 n97 n98 n99 n100 n101 n102 n103 n104 n105 n106 n107 : Nat) {H : Heap} {locs : List Loc} {ls : Array Slot} (w : Wd s G A [(n0, .inr (11, [.ref n1, .ref n2, .ref n3, .ref n7, .ref n8, .ref n12, .ref n16, .ref n21, .ref n22, .ref n37, .int 0, .int (-1), .int 0, .int 0, .null, .null, .null, .null, .null])), (n22, .inr (2, [.int 0, .int 0, .ref n23, .ref n24, .ref n25, .ref n26, .ref n27, .ref n28, .ref n29, .ref n30, .ref n31, .ref n32, .ref n33, .ref n34, .ref n35, .ref n36, .int 0])), (n64, .inr (12, [.int 0, .int 0, .int 0, .int 0, .int 0, .int 0, .int 0, .int (-1), .ref n65, .ref n66, .ref n67, .int 0, .ref n68, .ref n69, .ref n70, .ref n71, .ref n72, .ref n73, .ref n74, .int 0, .ref n75, .ref n76, .ref n77, .ref n78, .ref n79, .ref n80, .ref n81, .int 0, .int (-1), .int 0, .ref n82, .ref n83, .ref n84, .ref n85, .ref n86, .ref n87, .ref n88, .ref n89, .int 0, .ref n90, .ref n91, .ref n92, .ref n93, .ref n94, .int 0, .ref n95, .ref n96, .ref n97, .ref n98, .int 0, .ref n99, .ref n100, .ref n101, .ref n102, .int 0, .int 0, .ref n103, .ref n104, .ref n105, .ref n106])), (n66, .inl (G.2.1, 242, .inl (fun _ => 0)))] H locs) (hl : lv_has ls 8 [(4, .int 0), (3, .ref n107), (2, .ref n64), (1, .ref n0), (0, .ref b)]) : W p l e room_1 s m #[Value.ref b] below meth c H locs 108 210172 (lw_Z below #[Value.ref b] s) (F0 m 984 ls []) := by
  have hx := C.hx
  have hb := C.hb
  refine lv_aload_n hx hb dL_law_984 rfl (lv_at hl 3 rfl) ?_
  refine lv_aload_n hx hb dL_law_985 rfl (lv_at hl 4 rfl) ?_
  refine lv_iload hx hb dL_law_986 (lv_at hl 0 rfl) ?_
  refine lv_iconst (v := 1) hx hb dL_law_988 (by decide) ?_
  refine lv_iadd hx hb dL_law_989 ?_
  refine z_i (v := 1) (by decide +kernel) ?_
  refine va_sld hx hb hX hbl hbA w.2.2 (i := 1) (by decide) dL_law_990 ?_
  refine z_i (v := (xs 1)) rfl ?_
  refine lv_aload_n hx hb dL_law_991 rfl (lv_at hl 4 rfl) ?_
  refine lv_iload hx hb dL_law_992 (lv_at hl 0 rfl) ?_
  refine lv_iconst (v := 2) hx hb dL_law_994 (by decide) ?_
  refine lv_iadd hx hb dL_law_995 ?_
  refine z_i (v := 2) (by decide +kernel) ?_
  refine va_sld hx hb hX hbl hbA w.2.2 (i := 2) (by decide) dL_law_996 ?_
  refine z_i (v := (xs 2)) rfl ?_
  refine lv_aload_n hx hb dL_law_997 rfl (lv_at hl 4 rfl) ?_
  refine lv_iload hx hb dL_law_998 (lv_at hl 0 rfl) ?_
  refine lv_iconst (v := 3) hx hb dL_law_1000 (by decide) ?_
  refine lv_iadd hx hb dL_law_1001 ?_
  refine z_i (v := 3) (by decide +kernel) ?_
  refine va_sld hx hb hX hbl hbA w.2.2 (i := 3) (by decide) dL_law_1002 ?_
  refine z_i (v := (xs 3)) rfl ?_
  refine lv_aload_n hx hb dL_law_1003 rfl (lv_at hl 1 rfl) ?_
  refine fin_i C w (run_H C w mh_L_195 (k128_state C.b0 n0 n22 n107 n1 n2 n3 n7 n8 n12 n16 n21 n37 n23 n24 n25 n26 n27 n28 n29 n30 n31 n32 n33 n34 n35 n36 ((xs 1)) ((xs 2)) ((xs 3)) H.size) [0, 1] rfl rfl (by decide) rfl hl.1 rfl (Nat.le_of_ble_eq_true rfl) dL_law_1004 (cells2 := 109) (slots2 := 210178) (by decide)) [0, 1] [2, 3] rfl rfl (by decide) (cells2 := 109) (slots2 := 210178) (by decide) (fun u1 H locs w => ?_)
  have w : Wd s G A [(n64, .inr (12, [.int 0, .int 0, .int 0, .int 0, .int 0, .int 0, .int 0, .int (-1), .ref n65, .ref n66, .ref n67, .int 0, .ref n68, .ref n69, .ref n70, .ref n71, .ref n72, .ref n73, .ref n74, .int 0, .ref n75, .ref n76, .ref n77, .ref n78, .ref n79, .ref n80, .ref n81, .int 0, .int (-1), .int 0, .ref n82, .ref n83, .ref n84, .ref n85, .ref n86, .ref n87, .ref n88, .ref n89, .int 0, .ref n90, .ref n91, .ref n92, .ref n93, .ref n94, .int 0, .ref n95, .ref n96, .ref n97, .ref n98, .int 0, .ref n99, .ref n100, .ref n101, .ref n102, .int 0, .int 0, .ref n103, .ref n104, .ref n105, .ref n106])), (n66, .inl (G.2.1, 242, .inl (fun _ => 0))), (n0, .inr (11, [.ref n1, .ref n2, .ref n3, .ref n7, .ref n8, .ref n12, .ref n16, .ref n21, .ref n22, .ref n37, .int 0, .int (-1), .int 0, .int 0, .null, .null, .null, .null, .null])), (n22, .inr (2, [.int 0, .int 0, .ref n23, .ref n24, .ref n25, .ref n26, .ref n27, .ref n28, .ref n29, .ref n30, .ref n31, .ref n32, .ref n33, .ref n34, .ref n35, .ref n36, .int 0]))] H locs := w
  refine lv_istore (lv' := [(5, .int 1), (4, .int 0), (3, .ref n107), (2, .ref n64), (1, .ref n0), (0, .ref b)]) hx hb dL_law_1007 hl (by decide) rfl (fun ls hl => ?_)
  refine lv_aload_n hx hb dL_law_1009 rfl (lv_at hl 3 rfl) ?_
  refine lv_aload_n hx hb dL_law_1010 rfl (lv_at hl 5 rfl) ?_
  refine lv_iload hx hb dL_law_1011 (lv_at hl 1 rfl) ?_
  refine lv_iconst (v := 1) hx hb dL_law_1013 (by decide) ?_
  refine lv_iadd hx hb dL_law_1014 ?_
  refine z_i (v := 1) (by decide +kernel) ?_
  refine va_sld hx hb hX hbl hbA w.2.2 (i := 1) (by decide) dL_law_1015 ?_
  refine z_i (v := (xs 1)) rfl ?_
  refine lv_aload_n hx hb dL_law_1016 rfl (lv_at hl 5 rfl) ?_
  refine lv_iload hx hb dL_law_1017 (lv_at hl 1 rfl) ?_
  refine lv_iconst (v := 2) hx hb dL_law_1019 (by decide) ?_
  refine lv_iadd hx hb dL_law_1020 ?_
  refine z_i (v := 2) (by decide +kernel) ?_
  refine va_sld hx hb hX hbl hbA w.2.2 (i := 2) (by decide) dL_law_1021 ?_
  refine z_i (v := (xs 2)) rfl ?_
  refine lv_aload_n hx hb dL_law_1022 rfl (lv_at hl 5 rfl) ?_
  refine lv_iload hx hb dL_law_1023 (lv_at hl 1 rfl) ?_
  refine lv_iconst (v := 3) hx hb dL_law_1025 (by decide) ?_
  refine lv_iadd hx hb dL_law_1026 ?_
  refine z_i (v := 3) (by decide +kernel) ?_
  refine va_sld hx hb hX hbl hbA w.2.2 (i := 3) (by decide) dL_law_1027 ?_
  refine z_i (v := (xs 3)) rfl ?_
  refine fin_i C w (run_V C w mv_L_197 (k129_state C.b0 n64 n66 n65 n67 n68 n69 n70 n71 n72 n73 n74 n75 n76 n77 n78 n79 n80 n81 n82 n83 n84 n85 n86 n87 n88 n89 n90 n91 n92 n93 n94 n95 n96 n97 n98 n99 n100 n101 n102 n103 n104 n105 n106 ((xs 1)) ((xs 2)) ((xs 3)) H.size) [0, 1] rfl rfl 0 rfl rfl (by decide) rfl hl.1 rfl (Nat.le_of_ble_eq_true rfl) dL_law_1028 (cells2 := 109) (slots2 := 210178) (by decide)) [0, 1] [2, 3] rfl rfl (by decide) (cells2 := 109) (slots2 := 210178) (by decide) (fun u2 H locs w => ?_)
  have w : Wd s G A [(n0, .inr (11, [.ref n1, .ref n2, .ref n3, .ref n7, .ref n8, .ref n12, .ref n16, .ref n21, .ref n22, .ref n37, .int 0, .int (-1), .int 0, .int 0, .null, .null, .null, .null, .null])), (n22, .inr (2, [.int 0, .int 0, .ref n23, .ref n24, .ref n25, .ref n26, .ref n27, .ref n28, .ref n29, .ref n30, .ref n31, .ref n32, .ref n33, .ref n34, .ref n35, .ref n36, .int 0])), (n64, .inr (12, [.int 1, .int 0, .int 0, .int 0, .int 0, .int 0, .int 0, .int (-1), .ref n65, .ref n66, .ref n67, .int 0, .ref n68, .ref n69, .ref n70, .ref n71, .ref n72, .ref n73, .ref n74, .int 0, .ref n75, .ref n76, .ref n77, .ref n78, .ref n79, .ref n80, .ref n81, .int 0, .int (-1), .int 0, .ref n82, .ref n83, .ref n84, .ref n85, .ref n86, .ref n87, .ref n88, .ref n89, .int 0, .ref n90, .ref n91, .ref n92, .ref n93, .ref n94, .int 0, .ref n95, .ref n96, .ref n97, .ref n98, .int 0, .ref n99, .ref n100, .ref n101, .ref n102, .int 0, .int 0, .ref n103, .ref n104, .ref n105, .ref n106])), (n66, .inl (G.2.1, 242, .inl (fun _ => 0)))] H locs := w
  refine lv_istore (lv' := [(6, .int 0), (5, .int 1), (4, .int 0), (3, .ref n107), (2, .ref n64), (1, .ref n0), (0, .ref b)]) hx hb dL_law_1031 hl (by decide) rfl (fun ls hl => ?_)
  refine lv_aload_n hx hb dL_law_1033 rfl (lv_at hl 4 rfl) ?_
  refine fin_i C w (run_V C w mv_L_150 (k20_thrown C.b0 n64 n65 n66 n67 n68 n69 n70 n71 n72 n73 n74 n75 n76 n77 n78 n79 n80 n81 n82 n83 n84 n85 n86 n87 n88 n89 n90 n91 n92 n93 n94 n95 n96 n97 n98 n99 n100 n101 n102 n103 n104 n105 n106 H.size) [2] rfl rfl 2 rfl rfl (by decide) rfl hl.1 rfl (Nat.le_of_ble_eq_true rfl) dL_law_1034 (cells2 := 109) (slots2 := 210178) (by decide)) [2] [0, 1, 3] rfl rfl (by decide) (cells2 := 109) (slots2 := 210178) (by decide) (fun u3 H locs w => ?_)
  have w : Wd s G A [(n0, .inr (11, [.ref n1, .ref n2, .ref n3, .ref n7, .ref n8, .ref n12, .ref n16, .ref n21, .ref n22, .ref n37, .int 0, .int (-1), .int 0, .int 0, .null, .null, .null, .null, .null])), (n22, .inr (2, [.int 0, .int 0, .ref n23, .ref n24, .ref n25, .ref n26, .ref n27, .ref n28, .ref n29, .ref n30, .ref n31, .ref n32, .ref n33, .ref n34, .ref n35, .ref n36, .int 0])), (n66, .inl (G.2.1, 242, .inl (fun _ => 0))), (n64, .inr (12, [.int 1, .int 0, .int 0, .int 0, .int 0, .int 0, .int 0, .int (-1), .ref n65, .ref n66, .ref n67, .int 0, .ref n68, .ref n69, .ref n70, .ref n71, .ref n72, .ref n73, .ref n74, .int 0, .ref n75, .ref n76, .ref n77, .ref n78, .ref n79, .ref n80, .ref n81, .int 0, .int (-1), .int 0, .ref n82, .ref n83, .ref n84, .ref n85, .ref n86, .ref n87, .ref n88, .ref n89, .int 0, .ref n90, .ref n91, .ref n92, .ref n93, .ref n94, .int 0, .ref n95, .ref n96, .ref n97, .ref n98, .int 0, .ref n99, .ref n100, .ref n101, .ref n102, .int 0, .int 0, .ref n103, .ref n104, .ref n105, .ref n106]))] H locs := w
  refine lv_iload hx hb dL_law_1037 (lv_at hl 1 rfl) ?_
  refine lv_icmp_eq (tgt := 1044) hx hb dL_law_1039 (by decide) (fun _ => ?_) (fun h => absurd (by decide) h)
  refine lv_iload hx hb dL_law_1044 (lv_at hl 1 rfl) ?_
  refine lv_if_ne (tgt := 1061) hx hb dL_law_1046 (by decide) (fun _ => ?_) (fun h => h.elim (by decide))
  refine lv_goto (tgt := 3027) hx hb dL_law_1061 (by decide) ?_
  exact lc_end C hr hX hbl hbA w (lv_sub hl [2, 6] rfl) (by decide) (by decide)
set_option maxRecDepth 100000 in
set_option maxHeartbeats 4000000 in
theorem lc_15_0 {l : Launch} {G : GT} {p : Program} {e : Env} {s : State} {m : MethodId} {below : List Frame} {meth : Method} {c : Code} {A : Nat → Prop} {b : Nat} {xs : Nat → Int32} (C : Cx l s #[Value.ref b] G p s m #[Value.ref b] meth c RL cL_law 8 "law" A) (hr : meth.sig.returnType = some .boolean) (hX : va_X b 6 xs s s.heap) (hbl : b < s.heap.size) (hbA : ¬ A b) (n0 n1 n2 n3 n7 n8 n12 n16 n21 n22 n37 n64 n65 n66 n67 n68 n69 n70 n71 n72 n73 n74 n75 n76 n77 n78 n79 n80 n81 n82 n83 n84 n85 n86 n87 n88 n89 n90 n91 n92 n93 n94 n95 n96 n97 n98 n99 n100 n101 n102 n103 n104 n105 n106 n107 : Nat) (g0 : (xs 1) < 1) {H : Heap} {locs : List Loc} {ls : Array Slot} (w : Wd s G A [(n0, .inr (11, [.ref n1, .ref n2, .ref n3, .ref n7, .ref n8, .ref n12, .ref n16, .ref n21, .ref n22, .ref n37, .int 0, .int (-1), .int 0, .int 0, .null, .null, .null, .null, .null])), (n64, .inr (12, [.int 0, .int 0, .int 0, .int 0, .int 0, .int 0, .int 0, .int (-1), .ref n65, .ref n66, .ref n67, .int 0, .ref n68, .ref n69, .ref n70, .ref n71, .ref n72, .ref n73, .ref n74, .int 0, .ref n75, .ref n76, .ref n77, .ref n78, .ref n79, .ref n80, .ref n81, .int 0, .int (-1), .int 0, .ref n82, .ref n83, .ref n84, .ref n85, .ref n86, .ref n87, .ref n88, .ref n89, .int 0, .ref n90, .ref n91, .ref n92, .ref n93, .ref n94, .int 0, .ref n95, .ref n96, .ref n97, .ref n98, .int 0, .ref n99, .ref n100, .ref n101, .ref n102, .int 0, .int 0, .ref n103, .ref n104, .ref n105, .ref n106]))] H locs) (hl : lv_has ls 8 [(4, .int 0), (3, .ref n107), (2, .ref n64), (1, .ref n0), (0, .ref b)]) : W p l e room_1 s m #[Value.ref b] below meth c H locs 108 210172 (lw_Z below #[Value.ref b] s) (F0 m 1064 ls []) := by
  have hx := C.hx
  have hb := C.hb
  refine lv_aload_n hx hb dL_law_1064 rfl (lv_at hl 3 rfl) ?_
  refine lv_aload_n hx hb dL_law_1065 rfl (lv_at hl 4 rfl) ?_
  refine lv_iload hx hb dL_law_1066 (lv_at hl 0 rfl) ?_
  refine lv_iconst (v := 1) hx hb dL_law_1068 (by decide) ?_
  refine lv_iadd hx hb dL_law_1069 ?_
  refine z_i (v := 1) (by decide +kernel) ?_
  refine va_sld hx hb hX hbl hbA w.2.2 (i := 1) (by decide) dL_law_1070 ?_
  refine z_i (v := (xs 1)) rfl ?_
  refine lv_aload_n hx hb dL_law_1071 rfl (lv_at hl 4 rfl) ?_
  refine lv_iload hx hb dL_law_1072 (lv_at hl 0 rfl) ?_
  refine lv_iconst (v := 2) hx hb dL_law_1074 (by decide) ?_
  refine lv_iadd hx hb dL_law_1075 ?_
  refine z_i (v := 2) (by decide +kernel) ?_
  refine va_sld hx hb hX hbl hbA w.2.2 (i := 2) (by decide) dL_law_1076 ?_
  refine z_i (v := (xs 2)) rfl ?_
  refine lv_aload_n hx hb dL_law_1077 rfl (lv_at hl 1 rfl) ?_
  refine fin_i C w (run_H C w mh_L_198 (k131_dead C.b0 n0 n107 n1 n2 n3 n7 n8 n12 n16 n21 n22 n37 ((xs 1)) ((xs 2)) g0 H.size) [0] rfl rfl (by decide) rfl hl.1 rfl (Nat.le_of_ble_eq_true rfl) dL_law_1078 (cells2 := 109) (slots2 := 210178) (by decide)) [0] [1] rfl rfl (by decide) (cells2 := 109) (slots2 := 210178) (by decide) (fun u1 H locs w => ?_)
  have w : Wd s G A [(n64, .inr (12, [.int 0, .int 0, .int 0, .int 0, .int 0, .int 0, .int 0, .int (-1), .ref n65, .ref n66, .ref n67, .int 0, .ref n68, .ref n69, .ref n70, .ref n71, .ref n72, .ref n73, .ref n74, .int 0, .ref n75, .ref n76, .ref n77, .ref n78, .ref n79, .ref n80, .ref n81, .int 0, .int (-1), .int 0, .ref n82, .ref n83, .ref n84, .ref n85, .ref n86, .ref n87, .ref n88, .ref n89, .int 0, .ref n90, .ref n91, .ref n92, .ref n93, .ref n94, .int 0, .ref n95, .ref n96, .ref n97, .ref n98, .int 0, .ref n99, .ref n100, .ref n101, .ref n102, .int 0, .int 0, .ref n103, .ref n104, .ref n105, .ref n106])), (n0, .inr (11, [.ref n1, .ref n2, .ref n3, .ref n7, .ref n8, .ref n12, .ref n16, .ref n21, .ref n22, .ref n37, .int 0, .int (-1), .int 0, .int 0, .null, .null, .null, .null, .null]))] H locs := w
  refine lv_istore (lv' := [(5, .int 1), (4, .int 0), (3, .ref n107), (2, .ref n64), (1, .ref n0), (0, .ref b)]) hx hb dL_law_1081 hl (by decide) rfl (fun ls hl => ?_)
  refine lv_aload_n hx hb dL_law_1083 rfl (lv_at hl 3 rfl) ?_
  refine lv_aload_n hx hb dL_law_1084 rfl (lv_at hl 5 rfl) ?_
  refine lv_iload hx hb dL_law_1085 (lv_at hl 1 rfl) ?_
  refine lv_iconst (v := 1) hx hb dL_law_1087 (by decide) ?_
  refine lv_iadd hx hb dL_law_1088 ?_
  refine z_i (v := 1) (by decide +kernel) ?_
  refine va_sld hx hb hX hbl hbA w.2.2 (i := 1) (by decide) dL_law_1089 ?_
  refine z_i (v := (xs 1)) rfl ?_
  refine lv_aload_n hx hb dL_law_1090 rfl (lv_at hl 5 rfl) ?_
  refine lv_iload hx hb dL_law_1091 (lv_at hl 1 rfl) ?_
  refine lv_iconst (v := 2) hx hb dL_law_1093 (by decide) ?_
  refine lv_iadd hx hb dL_law_1094 ?_
  refine z_i (v := 2) (by decide +kernel) ?_
  refine va_sld hx hb hX hbl hbA w.2.2 (i := 2) (by decide) dL_law_1095 ?_
  refine z_i (v := (xs 2)) rfl ?_
  refine fin_i C w (run_V C w mv_L_200 (k132_dead C.b0 n64 n65 n66 n67 n68 n69 n70 n71 n72 n73 n74 n75 n76 n77 n78 n79 n80 n81 n82 n83 n84 n85 n86 n87 n88 n89 n90 n91 n92 n93 n94 n95 n96 n97 n98 n99 n100 n101 n102 n103 n104 n105 n106 ((xs 1)) ((xs 2)) g0 H.size) [0] rfl rfl 0 rfl rfl (by decide) rfl hl.1 rfl (Nat.le_of_ble_eq_true rfl) dL_law_1096 (cells2 := 109) (slots2 := 210178) (by decide)) [0] [1] rfl rfl (by decide) (cells2 := 109) (slots2 := 210178) (by decide) (fun u2 H locs w => ?_)
  have w : Wd s G A [(n0, .inr (11, [.ref n1, .ref n2, .ref n3, .ref n7, .ref n8, .ref n12, .ref n16, .ref n21, .ref n22, .ref n37, .int 0, .int (-1), .int 0, .int 0, .null, .null, .null, .null, .null])), (n64, .inr (12, [.int 1, .int 0, .int 0, .int 0, .int 0, .int 0, .int 0, .int (-1), .ref n65, .ref n66, .ref n67, .int 0, .ref n68, .ref n69, .ref n70, .ref n71, .ref n72, .ref n73, .ref n74, .int 0, .ref n75, .ref n76, .ref n77, .ref n78, .ref n79, .ref n80, .ref n81, .int 0, .int (-1), .int 0, .ref n82, .ref n83, .ref n84, .ref n85, .ref n86, .ref n87, .ref n88, .ref n89, .int 0, .ref n90, .ref n91, .ref n92, .ref n93, .ref n94, .int 0, .ref n95, .ref n96, .ref n97, .ref n98, .int 0, .ref n99, .ref n100, .ref n101, .ref n102, .int 0, .int 0, .ref n103, .ref n104, .ref n105, .ref n106]))] H locs := w
  refine lv_istore (lv' := [(6, .int 0), (5, .int 1), (4, .int 0), (3, .ref n107), (2, .ref n64), (1, .ref n0), (0, .ref b)]) hx hb dL_law_1099 hl (by decide) rfl (fun ls hl => ?_)
  refine lv_aload_n hx hb dL_law_1101 rfl (lv_at hl 4 rfl) ?_
  refine fin_i C w (run_V C w mv_L_150 (k20_thrown C.b0 n64 n65 n66 n67 n68 n69 n70 n71 n72 n73 n74 n75 n76 n77 n78 n79 n80 n81 n82 n83 n84 n85 n86 n87 n88 n89 n90 n91 n92 n93 n94 n95 n96 n97 n98 n99 n100 n101 n102 n103 n104 n105 n106 H.size) [1] rfl rfl 1 rfl rfl (by decide) rfl hl.1 rfl (Nat.le_of_ble_eq_true rfl) dL_law_1102 (cells2 := 109) (slots2 := 210178) (by decide)) [1] [0] rfl rfl (by decide) (cells2 := 109) (slots2 := 210178) (by decide) (fun u3 H locs w => ?_)
  have w : Wd s G A [(n0, .inr (11, [.ref n1, .ref n2, .ref n3, .ref n7, .ref n8, .ref n12, .ref n16, .ref n21, .ref n22, .ref n37, .int 0, .int (-1), .int 0, .int 0, .null, .null, .null, .null, .null])), (n64, .inr (12, [.int 1, .int 0, .int 0, .int 0, .int 0, .int 0, .int 0, .int (-1), .ref n65, .ref n66, .ref n67, .int 0, .ref n68, .ref n69, .ref n70, .ref n71, .ref n72, .ref n73, .ref n74, .int 0, .ref n75, .ref n76, .ref n77, .ref n78, .ref n79, .ref n80, .ref n81, .int 0, .int (-1), .int 0, .ref n82, .ref n83, .ref n84, .ref n85, .ref n86, .ref n87, .ref n88, .ref n89, .int 0, .ref n90, .ref n91, .ref n92, .ref n93, .ref n94, .int 0, .ref n95, .ref n96, .ref n97, .ref n98, .int 0, .ref n99, .ref n100, .ref n101, .ref n102, .int 0, .int 0, .ref n103, .ref n104, .ref n105, .ref n106]))] H locs := w
  refine lv_iload hx hb dL_law_1105 (lv_at hl 1 rfl) ?_
  refine lv_icmp_eq (tgt := 1112) hx hb dL_law_1107 (by decide) (fun _ => ?_) (fun h => absurd (by decide) h)
  refine lv_iload hx hb dL_law_1112 (lv_at hl 1 rfl) ?_
  refine lv_if_ne (tgt := 1129) hx hb dL_law_1114 (by decide) (fun _ => ?_) (fun h => h.elim (by decide))
  refine lv_goto (tgt := 3027) hx hb dL_law_1129 (by decide) ?_
  exact lc_end C hr hX hbl hbA w (lv_sub hl [2, 6] rfl) (by decide) (by decide)
set_option maxRecDepth 100000 in
set_option maxHeartbeats 4000000 in
theorem lc_15_1 {l : Launch} {G : GT} {p : Program} {e : Env} {s : State} {m : MethodId} {below : List Frame} {meth : Method} {c : Code} {A : Nat → Prop} {b : Nat} {xs : Nat → Int32} (C : Cx l s #[Value.ref b] G p s m #[Value.ref b] meth c RL cL_law 8 "law" A) (hr : meth.sig.returnType = some .boolean) (hX : va_X b 6 xs s s.heap) (hbl : b < s.heap.size) (hbA : ¬ A b) (n0 n1 n2 n3 n7 n8 n12 n16 n21 n22 n37 n64 n65 n66 n67 n68 n69 n70 n71 n72 n73 n74 n75 n76 n77 n78 n79 n80 n81 n82 n83 n84 n85 n86 n87 n88 n89 n90 n91 n92 n93 n94 n95 n96 n97 n98 n99 n100 n101 n102 n103 n104 n105 n106 n107 : Nat) (g0 : ¬ (xs 1) < 1) (g1 : 3000 < (xs 1)) {H : Heap} {locs : List Loc} {ls : Array Slot} (w : Wd s G A [(n0, .inr (11, [.ref n1, .ref n2, .ref n3, .ref n7, .ref n8, .ref n12, .ref n16, .ref n21, .ref n22, .ref n37, .int 0, .int (-1), .int 0, .int 0, .null, .null, .null, .null, .null])), (n64, .inr (12, [.int 0, .int 0, .int 0, .int 0, .int 0, .int 0, .int 0, .int (-1), .ref n65, .ref n66, .ref n67, .int 0, .ref n68, .ref n69, .ref n70, .ref n71, .ref n72, .ref n73, .ref n74, .int 0, .ref n75, .ref n76, .ref n77, .ref n78, .ref n79, .ref n80, .ref n81, .int 0, .int (-1), .int 0, .ref n82, .ref n83, .ref n84, .ref n85, .ref n86, .ref n87, .ref n88, .ref n89, .int 0, .ref n90, .ref n91, .ref n92, .ref n93, .ref n94, .int 0, .ref n95, .ref n96, .ref n97, .ref n98, .int 0, .ref n99, .ref n100, .ref n101, .ref n102, .int 0, .int 0, .ref n103, .ref n104, .ref n105, .ref n106]))] H locs) (hl : lv_has ls 8 [(4, .int 0), (3, .ref n107), (2, .ref n64), (1, .ref n0), (0, .ref b)]) : W p l e room_1 s m #[Value.ref b] below meth c H locs 108 210172 (lw_Z below #[Value.ref b] s) (F0 m 1064 ls []) := by
  have hx := C.hx
  have hb := C.hb
  refine lv_aload_n hx hb dL_law_1064 rfl (lv_at hl 3 rfl) ?_
  refine lv_aload_n hx hb dL_law_1065 rfl (lv_at hl 4 rfl) ?_
  refine lv_iload hx hb dL_law_1066 (lv_at hl 0 rfl) ?_
  refine lv_iconst (v := 1) hx hb dL_law_1068 (by decide) ?_
  refine lv_iadd hx hb dL_law_1069 ?_
  refine z_i (v := 1) (by decide +kernel) ?_
  refine va_sld hx hb hX hbl hbA w.2.2 (i := 1) (by decide) dL_law_1070 ?_
  refine z_i (v := (xs 1)) rfl ?_
  refine lv_aload_n hx hb dL_law_1071 rfl (lv_at hl 4 rfl) ?_
  refine lv_iload hx hb dL_law_1072 (lv_at hl 0 rfl) ?_
  refine lv_iconst (v := 2) hx hb dL_law_1074 (by decide) ?_
  refine lv_iadd hx hb dL_law_1075 ?_
  refine z_i (v := 2) (by decide +kernel) ?_
  refine va_sld hx hb hX hbl hbA w.2.2 (i := 2) (by decide) dL_law_1076 ?_
  refine z_i (v := (xs 2)) rfl ?_
  refine lv_aload_n hx hb dL_law_1077 rfl (lv_at hl 1 rfl) ?_
  refine fin_i C w (run_H C w mh_L_198 (k134_dead C.b0 n0 n107 n1 n2 n3 n7 n8 n12 n16 n21 n22 n37 ((xs 1)) ((xs 2)) g1 g0 H.size) [0] rfl rfl (by decide) rfl hl.1 rfl (Nat.le_of_ble_eq_true rfl) dL_law_1078 (cells2 := 109) (slots2 := 210178) (by decide)) [0] [1] rfl rfl (by decide) (cells2 := 109) (slots2 := 210178) (by decide) (fun u1 H locs w => ?_)
  have w : Wd s G A [(n64, .inr (12, [.int 0, .int 0, .int 0, .int 0, .int 0, .int 0, .int 0, .int (-1), .ref n65, .ref n66, .ref n67, .int 0, .ref n68, .ref n69, .ref n70, .ref n71, .ref n72, .ref n73, .ref n74, .int 0, .ref n75, .ref n76, .ref n77, .ref n78, .ref n79, .ref n80, .ref n81, .int 0, .int (-1), .int 0, .ref n82, .ref n83, .ref n84, .ref n85, .ref n86, .ref n87, .ref n88, .ref n89, .int 0, .ref n90, .ref n91, .ref n92, .ref n93, .ref n94, .int 0, .ref n95, .ref n96, .ref n97, .ref n98, .int 0, .ref n99, .ref n100, .ref n101, .ref n102, .int 0, .int 0, .ref n103, .ref n104, .ref n105, .ref n106])), (n0, .inr (11, [.ref n1, .ref n2, .ref n3, .ref n7, .ref n8, .ref n12, .ref n16, .ref n21, .ref n22, .ref n37, .int 0, .int (-1), .int 0, .int 0, .null, .null, .null, .null, .null]))] H locs := w
  refine lv_istore (lv' := [(5, .int 1), (4, .int 0), (3, .ref n107), (2, .ref n64), (1, .ref n0), (0, .ref b)]) hx hb dL_law_1081 hl (by decide) rfl (fun ls hl => ?_)
  refine lv_aload_n hx hb dL_law_1083 rfl (lv_at hl 3 rfl) ?_
  refine lv_aload_n hx hb dL_law_1084 rfl (lv_at hl 5 rfl) ?_
  refine lv_iload hx hb dL_law_1085 (lv_at hl 1 rfl) ?_
  refine lv_iconst (v := 1) hx hb dL_law_1087 (by decide) ?_
  refine lv_iadd hx hb dL_law_1088 ?_
  refine z_i (v := 1) (by decide +kernel) ?_
  refine va_sld hx hb hX hbl hbA w.2.2 (i := 1) (by decide) dL_law_1089 ?_
  refine z_i (v := (xs 1)) rfl ?_
  refine lv_aload_n hx hb dL_law_1090 rfl (lv_at hl 5 rfl) ?_
  refine lv_iload hx hb dL_law_1091 (lv_at hl 1 rfl) ?_
  refine lv_iconst (v := 2) hx hb dL_law_1093 (by decide) ?_
  refine lv_iadd hx hb dL_law_1094 ?_
  refine z_i (v := 2) (by decide +kernel) ?_
  refine va_sld hx hb hX hbl hbA w.2.2 (i := 2) (by decide) dL_law_1095 ?_
  refine z_i (v := (xs 2)) rfl ?_
  refine fin_i C w (run_V C w mv_L_200 (k135_dead C.b0 n64 n65 n66 n67 n68 n69 n70 n71 n72 n73 n74 n75 n76 n77 n78 n79 n80 n81 n82 n83 n84 n85 n86 n87 n88 n89 n90 n91 n92 n93 n94 n95 n96 n97 n98 n99 n100 n101 n102 n103 n104 n105 n106 ((xs 1)) ((xs 2)) g1 g0 H.size) [0] rfl rfl 0 rfl rfl (by decide) rfl hl.1 rfl (Nat.le_of_ble_eq_true rfl) dL_law_1096 (cells2 := 109) (slots2 := 210178) (by decide)) [0] [1] rfl rfl (by decide) (cells2 := 109) (slots2 := 210178) (by decide) (fun u2 H locs w => ?_)
  have w : Wd s G A [(n0, .inr (11, [.ref n1, .ref n2, .ref n3, .ref n7, .ref n8, .ref n12, .ref n16, .ref n21, .ref n22, .ref n37, .int 0, .int (-1), .int 0, .int 0, .null, .null, .null, .null, .null])), (n64, .inr (12, [.int 1, .int 0, .int 0, .int 0, .int 0, .int 0, .int 0, .int (-1), .ref n65, .ref n66, .ref n67, .int 0, .ref n68, .ref n69, .ref n70, .ref n71, .ref n72, .ref n73, .ref n74, .int 0, .ref n75, .ref n76, .ref n77, .ref n78, .ref n79, .ref n80, .ref n81, .int 0, .int (-1), .int 0, .ref n82, .ref n83, .ref n84, .ref n85, .ref n86, .ref n87, .ref n88, .ref n89, .int 0, .ref n90, .ref n91, .ref n92, .ref n93, .ref n94, .int 0, .ref n95, .ref n96, .ref n97, .ref n98, .int 0, .ref n99, .ref n100, .ref n101, .ref n102, .int 0, .int 0, .ref n103, .ref n104, .ref n105, .ref n106]))] H locs := w
  refine lv_istore (lv' := [(6, .int 0), (5, .int 1), (4, .int 0), (3, .ref n107), (2, .ref n64), (1, .ref n0), (0, .ref b)]) hx hb dL_law_1099 hl (by decide) rfl (fun ls hl => ?_)
  refine lv_aload_n hx hb dL_law_1101 rfl (lv_at hl 4 rfl) ?_
  refine fin_i C w (run_V C w mv_L_150 (k20_thrown C.b0 n64 n65 n66 n67 n68 n69 n70 n71 n72 n73 n74 n75 n76 n77 n78 n79 n80 n81 n82 n83 n84 n85 n86 n87 n88 n89 n90 n91 n92 n93 n94 n95 n96 n97 n98 n99 n100 n101 n102 n103 n104 n105 n106 H.size) [1] rfl rfl 1 rfl rfl (by decide) rfl hl.1 rfl (Nat.le_of_ble_eq_true rfl) dL_law_1102 (cells2 := 109) (slots2 := 210178) (by decide)) [1] [0] rfl rfl (by decide) (cells2 := 109) (slots2 := 210178) (by decide) (fun u3 H locs w => ?_)
  have w : Wd s G A [(n0, .inr (11, [.ref n1, .ref n2, .ref n3, .ref n7, .ref n8, .ref n12, .ref n16, .ref n21, .ref n22, .ref n37, .int 0, .int (-1), .int 0, .int 0, .null, .null, .null, .null, .null])), (n64, .inr (12, [.int 1, .int 0, .int 0, .int 0, .int 0, .int 0, .int 0, .int (-1), .ref n65, .ref n66, .ref n67, .int 0, .ref n68, .ref n69, .ref n70, .ref n71, .ref n72, .ref n73, .ref n74, .int 0, .ref n75, .ref n76, .ref n77, .ref n78, .ref n79, .ref n80, .ref n81, .int 0, .int (-1), .int 0, .ref n82, .ref n83, .ref n84, .ref n85, .ref n86, .ref n87, .ref n88, .ref n89, .int 0, .ref n90, .ref n91, .ref n92, .ref n93, .ref n94, .int 0, .ref n95, .ref n96, .ref n97, .ref n98, .int 0, .ref n99, .ref n100, .ref n101, .ref n102, .int 0, .int 0, .ref n103, .ref n104, .ref n105, .ref n106]))] H locs := w
  refine lv_iload hx hb dL_law_1105 (lv_at hl 1 rfl) ?_
  refine lv_icmp_eq (tgt := 1112) hx hb dL_law_1107 (by decide) (fun _ => ?_) (fun h => absurd (by decide) h)
  refine lv_iload hx hb dL_law_1112 (lv_at hl 1 rfl) ?_
  refine lv_if_ne (tgt := 1129) hx hb dL_law_1114 (by decide) (fun _ => ?_) (fun h => h.elim (by decide))
  refine lv_goto (tgt := 3027) hx hb dL_law_1129 (by decide) ?_
  exact lc_end C hr hX hbl hbA w (lv_sub hl [2, 6] rfl) (by decide) (by decide)
set_option maxRecDepth 100000 in
set_option maxHeartbeats 4000000 in
theorem lc_15_2 {l : Launch} {G : GT} {p : Program} {e : Env} {s : State} {m : MethodId} {below : List Frame} {meth : Method} {c : Code} {A : Nat → Prop} {b : Nat} {xs : Nat → Int32} (C : Cx l s #[Value.ref b] G p s m #[Value.ref b] meth c RL cL_law 8 "law" A) (hr : meth.sig.returnType = some .boolean) (hX : va_X b 6 xs s s.heap) (hbl : b < s.heap.size) (hbA : ¬ A b) (n0 n1 n2 n3 n4 n5 n6 n7 n8 n12 n16 n21 n22 n23 n24 n25 n26 n27 n28 n29 n30 n31 n32 n33 n34 n35 n36 n37 n64 n65 n66 n67 n68 n69 n70 n71 n72 n73 n74 n75 n76 n77 n78 n79 n80 n81 n82 n83 n84 n85 n86 n87 n88 n89 n90 n91 n92 n93 n94 n95 n96 n97 n98 n99 n100 n101 n102 n103 n104 n105 n106 n107 : Nat) (g0 : ¬ (xs 1) < 1) (g1 : ¬ 3000 < (xs 1)) (g2 : 0 = (xs 2)) {H : Heap} {locs : List Loc} {ls : Array Slot} (w : Wd s G A [(n0, .inr (11, [.ref n1, .ref n2, .ref n3, .ref n7, .ref n8, .ref n12, .ref n16, .ref n21, .ref n22, .ref n37, .int 0, .int (-1), .int 0, .int 0, .null, .null, .null, .null, .null])), (n3, .inr (5, [.ref n4, .ref n5, .ref n6, .int 0])), (n4, .inl (G.2.1, 8, .inl (fun _ => 0))), (n22, .inr (2, [.int 0, .int 0, .ref n23, .ref n24, .ref n25, .ref n26, .ref n27, .ref n28, .ref n29, .ref n30, .ref n31, .ref n32, .ref n33, .ref n34, .ref n35, .ref n36, .int 0])), (n64, .inr (12, [.int 0, .int 0, .int 0, .int 0, .int 0, .int 0, .int 0, .int (-1), .ref n65, .ref n66, .ref n67, .int 0, .ref n68, .ref n69, .ref n70, .ref n71, .ref n72, .ref n73, .ref n74, .int 0, .ref n75, .ref n76, .ref n77, .ref n78, .ref n79, .ref n80, .ref n81, .int 0, .int (-1), .int 0, .ref n82, .ref n83, .ref n84, .ref n85, .ref n86, .ref n87, .ref n88, .ref n89, .int 0, .ref n90, .ref n91, .ref n92, .ref n93, .ref n94, .int 0, .ref n95, .ref n96, .ref n97, .ref n98, .int 0, .ref n99, .ref n100, .ref n101, .ref n102, .int 0, .int 0, .ref n103, .ref n104, .ref n105, .ref n106])), (n66, .inl (G.2.1, 242, .inl (fun _ => 0))), (n73, .inl (G.2.1, 57, .inl (fun _ => 0))), (n75, .inl (G.2.1, 8, .inl (fun _ => 0))), (n76, .inl (G.2.1, 24008, .inl (fun _ => 0))), (n78, .inl (G.2.1, 3000, .inl (fun _ => 0))), (n79, .inl (G.2.1, 3000, .inl (fun _ => 0))), (n80, .inl (G.2.1, 4096, .inl (fun _ => 0))), (n81, .inl (G.2.1, 3000, .inl (fun _ => 0))), (n107, .inl (G.2.2.1, 1, .inr (.inl (fun _ => 0))))] H locs) (hl : lv_has ls 8 [(4, .int 0), (3, .ref n107), (2, .ref n64), (1, .ref n0), (0, .ref b)]) : W p l e room_1 s m #[Value.ref b] below meth c H locs 108 210172 (lw_Z below #[Value.ref b] s) (F0 m 1064 ls []) := by
  have hx := C.hx
  have hb := C.hb
  refine lv_aload_n hx hb dL_law_1064 rfl (lv_at hl 3 rfl) ?_
  refine lv_aload_n hx hb dL_law_1065 rfl (lv_at hl 4 rfl) ?_
  refine lv_iload hx hb dL_law_1066 (lv_at hl 0 rfl) ?_
  refine lv_iconst (v := 1) hx hb dL_law_1068 (by decide) ?_
  refine lv_iadd hx hb dL_law_1069 ?_
  refine z_i (v := 1) (by decide +kernel) ?_
  refine va_sld hx hb hX hbl hbA w.2.2 (i := 1) (by decide) dL_law_1070 ?_
  refine z_i (v := (xs 1)) rfl ?_
  refine lv_aload_n hx hb dL_law_1071 rfl (lv_at hl 4 rfl) ?_
  refine lv_iload hx hb dL_law_1072 (lv_at hl 0 rfl) ?_
  refine lv_iconst (v := 2) hx hb dL_law_1074 (by decide) ?_
  refine lv_iadd hx hb dL_law_1075 ?_
  refine z_i (v := 2) (by decide +kernel) ?_
  refine va_sld hx hb hX hbl hbA w.2.2 (i := 2) (by decide) dL_law_1076 ?_
  refine z_i (v := (xs 2)) rfl ?_
  refine lv_aload_n hx hb dL_law_1077 rfl (lv_at hl 1 rfl) ?_
  refine fin_i C w (run_H C w mh_L_198 (k139_dead C.b0 n0 n3 n22 n4 n107 n1 n2 n7 n8 n12 n16 n21 n37 n5 n6 n23 n24 n25 n26 n27 n28 n29 n30 n31 n32 n33 n34 n35 n36 ((xs 1)) ((xs 2)) g2 g1 g0 H.size) [0, 1, 3, 2, 13] rfl rfl (by decide) rfl hl.1 rfl (Nat.le_of_ble_eq_true rfl) dL_law_1078 (cells2 := 117) (slots2 := 275538) (by decide)) [0, 1, 3, 2, 13] [4, 5, 6, 7, 8, 9, 10, 11, 12] rfl rfl (by decide) (cells2 := 117) (slots2 := 275538) (by decide) (fun u1 H locs w => ?_)
  have w : Wd s G A [(n64, .inr (12, [.int 0, .int 0, .int 0, .int 0, .int 0, .int 0, .int 0, .int (-1), .ref n65, .ref n66, .ref n67, .int 0, .ref n68, .ref n69, .ref n70, .ref n71, .ref n72, .ref n73, .ref n74, .int 0, .ref n75, .ref n76, .ref n77, .ref n78, .ref n79, .ref n80, .ref n81, .int 0, .int (-1), .int 0, .ref n82, .ref n83, .ref n84, .ref n85, .ref n86, .ref n87, .ref n88, .ref n89, .int 0, .ref n90, .ref n91, .ref n92, .ref n93, .ref n94, .int 0, .ref n95, .ref n96, .ref n97, .ref n98, .int 0, .ref n99, .ref n100, .ref n101, .ref n102, .int 0, .int 0, .ref n103, .ref n104, .ref n105, .ref n106])), (n66, .inl (G.2.1, 242, .inl (fun _ => 0))), (n73, .inl (G.2.1, 57, .inl (fun _ => 0))), (n75, .inl (G.2.1, 8, .inl (fun _ => 0))), (n76, .inl (G.2.1, 24008, .inl (fun _ => 0))), (n78, .inl (G.2.1, 3000, .inl (fun _ => 0))), (n79, .inl (G.2.1, 3000, .inl (fun _ => 0))), (n80, .inl (G.2.1, 4096, .inl (fun _ => 0))), (n81, .inl (G.2.1, 3000, .inl (fun _ => 0))), (n0, .inr (11, [.ref n1, .ref n2, .ref n3, .ref n7, .ref n8, .ref n12, .ref n16, .ref n21, .ref n22, .ref n37, .int 0, .int (-1), .int 0, .int 0, .ref (u1 0), .null, .null, .null, .null])), (n3, .inr (5, [.ref n4, .ref n5, .ref n6, .int 0])), (n22, .inr (2, [.int 0, .int 0, .ref n23, .ref n24, .ref n25, .ref n26, .ref n27, .ref n28, .ref n29, .ref n30, .ref n31, .ref n32, .ref n33, .ref n34, .ref n35, .ref n36, .int 0])), (n4, .inl (G.2.1, 8, .inl (fun _ => 0))), (n107, .inl (G.2.2.1, 1, .inr (.inl (fun _ => 0)))), ((u1 0), .inr (1, [.int 0, .ref n22, .ref (u1 1), .ref (u1 2), .ref (u1 5), .ref (u1 6), .ref (u1 7), .ref (u1 8), .int 1])), ((u1 1), .inl (G.2.1, 24064, .inl (fun _ => 0))), ((u1 2), .inr (7, [.ref (u1 3), .int 0, .int 1, .int 3008, .ref (u1 4)])), ((u1 3), .inl (G.2.1, 24064, .inl (fun _ => 0))), ((u1 4), .inl (G.2.1, 8192, .inl (upd (fun _ => (-1)) 7 0))), ((u1 5), .inl (G.2.1, 3008, .inl (fun _ => 0))), ((u1 6), .inl (G.2.1, 3008, .inl (upd (fun _ => 0) 0 (-1)))), ((u1 7), .inl (G.2.1, 3008, .inl (upd (fun _ => 0) 0 (-1)))), ((u1 8), .inl (G.2.1, 8, .inl (fun _ => 0)))] H locs := w
  refine lv_istore (lv' := [(5, .int 0), (4, .int 0), (3, .ref n107), (2, .ref n64), (1, .ref n0), (0, .ref b)]) hx hb dL_law_1081 hl (by decide) rfl (fun ls hl => ?_)
  refine lv_aload_n hx hb dL_law_1083 rfl (lv_at hl 3 rfl) ?_
  refine lv_aload_n hx hb dL_law_1084 rfl (lv_at hl 5 rfl) ?_
  refine lv_iload hx hb dL_law_1085 (lv_at hl 1 rfl) ?_
  refine lv_iconst (v := 1) hx hb dL_law_1087 (by decide) ?_
  refine lv_iadd hx hb dL_law_1088 ?_
  refine z_i (v := 1) (by decide +kernel) ?_
  refine va_sld hx hb hX hbl hbA w.2.2 (i := 1) (by decide) dL_law_1089 ?_
  refine z_i (v := (xs 1)) rfl ?_
  refine lv_aload_n hx hb dL_law_1090 rfl (lv_at hl 5 rfl) ?_
  refine lv_iload hx hb dL_law_1091 (lv_at hl 1 rfl) ?_
  refine lv_iconst (v := 2) hx hb dL_law_1093 (by decide) ?_
  refine lv_iadd hx hb dL_law_1094 ?_
  refine z_i (v := 2) (by decide +kernel) ?_
  refine va_sld hx hb hX hbl hbA w.2.2 (i := 2) (by decide) dL_law_1095 ?_
  refine z_i (v := (xs 2)) rfl ?_
  refine fin_i C w (run_V C w mv_L_200 (k141_dead C.b0 n64 n80 n73 n75 n76 n81 n78 n79 n66 n65 n67 n68 n69 n70 n71 n72 n74 n77 n82 n83 n84 n85 n86 n87 n88 n89 n90 n91 n92 n93 n94 n95 n96 n97 n98 n99 n100 n101 n102 n103 n104 n105 n106 ((xs 1)) ((xs 2)) g2 g1 g0 H.size) [0, 7, 2, 3, 4, 8, 5, 6, 1] rfl rfl 0 rfl rfl (by decide) rfl hl.1 rfl (Nat.le_of_ble_eq_true rfl) dL_law_1096 (cells2 := 117) (slots2 := 275538) (by decide)) [0, 7, 2, 3, 4, 8, 5, 6, 1] [9, 10, 11, 12, 13, 14, 15, 16, 17, 18, 19, 20, 21, 22] rfl rfl (by decide) (cells2 := 117) (slots2 := 275538) (by decide) (fun u2 H locs w => ?_)
  have w : Wd s G A [(n0, .inr (11, [.ref n1, .ref n2, .ref n3, .ref n7, .ref n8, .ref n12, .ref n16, .ref n21, .ref n22, .ref n37, .int 0, .int (-1), .int 0, .int 0, .ref (u1 0), .null, .null, .null, .null])), (n3, .inr (5, [.ref n4, .ref n5, .ref n6, .int 0])), (n22, .inr (2, [.int 0, .int 0, .ref n23, .ref n24, .ref n25, .ref n26, .ref n27, .ref n28, .ref n29, .ref n30, .ref n31, .ref n32, .ref n33, .ref n34, .ref n35, .ref n36, .int 0])), (n4, .inl (G.2.1, 8, .inl (fun _ => 0))), (n107, .inl (G.2.2.1, 1, .inr (.inl (fun _ => 0)))), ((u1 0), .inr (1, [.int 0, .ref n22, .ref (u1 1), .ref (u1 2), .ref (u1 5), .ref (u1 6), .ref (u1 7), .ref (u1 8), .int 1])), ((u1 1), .inl (G.2.1, 24064, .inl (fun _ => 0))), ((u1 2), .inr (7, [.ref (u1 3), .int 0, .int 1, .int 3008, .ref (u1 4)])), ((u1 3), .inl (G.2.1, 24064, .inl (fun _ => 0))), ((u1 4), .inl (G.2.1, 8192, .inl (upd (fun _ => (-1)) 7 0))), ((u1 5), .inl (G.2.1, 3008, .inl (fun _ => 0))), ((u1 6), .inl (G.2.1, 3008, .inl (upd (fun _ => 0) 0 (-1)))), ((u1 7), .inl (G.2.1, 3008, .inl (upd (fun _ => 0) 0 (-1)))), ((u1 8), .inl (G.2.1, 8, .inl (fun _ => 0))), (n64, .inr (12, [.int 0, .int 0, .int 0, .int 0, .int 0, .int 0, .int 0, .int (-1), .ref n65, .ref n66, .ref n67, .int 0, .ref n68, .ref n69, .ref n70, .ref n71, .ref n72, .ref n73, .ref n74, .int 0, .ref n75, .ref n76, .ref n77, .ref n78, .ref n79, .ref n80, .ref n81, .int 1, .int (-1), .int 0, .ref n82, .ref n83, .ref n84, .ref n85, .ref n86, .ref n87, .ref n88, .ref n89, .int 0, .ref n90, .ref n91, .ref n92, .ref n93, .ref n94, .int 0, .ref n95, .ref n96, .ref n97, .ref n98, .int 0, .ref n99, .ref n100, .ref n101, .ref n102, .int 0, .int 0, .ref n103, .ref n104, .ref n105, .ref n106])), (n80, .inl (G.2.1, 4096, .inl (upd (fun _ => (-1)) 0 0))), (n73, .inl (G.2.1, 57, .inl (fun _ => 0))), (n75, .inl (G.2.1, 8, .inl (fun _ => 0))), (n76, .inl (G.2.1, 24008, .inl (fun _ => 0))), (n81, .inl (G.2.1, 3000, .inl (upd (fun _ => 0) 0 (-1)))), (n78, .inl (G.2.1, 3000, .inl (upd (fun _ => 0) 0 (-1)))), (n79, .inl (G.2.1, 3000, .inl (upd (fun _ => 0) 0 (-1)))), (n66, .inl (G.2.1, 242, .inl (fun _ => 0)))] H locs := w
  refine lv_istore (lv' := [(6, .int 0), (5, .int 0), (4, .int 0), (3, .ref n107), (2, .ref n64), (1, .ref n0), (0, .ref b)]) hx hb dL_law_1099 hl (by decide) rfl (fun ls hl => ?_)
  refine lv_aload_n hx hb dL_law_1101 rfl (lv_at hl 4 rfl) ?_
  refine fin_i C w (run_V C w mv_L_150 (k126_thrown C.b0 n64 n65 n66 n67 n68 n69 n70 n71 n72 n73 n74 n75 n76 n77 n78 n79 n80 n81 n82 n83 n84 n85 n86 n87 n88 n89 n90 n91 n92 n93 n94 n95 n96 n97 n98 n99 n100 n101 n102 n103 n104 n105 n106 H.size) [14] rfl rfl 14 rfl rfl (by decide) rfl hl.1 rfl (Nat.le_of_ble_eq_true rfl) dL_law_1102 (cells2 := 117) (slots2 := 275538) (by decide)) [14] [0, 1, 2, 3, 4, 5, 6, 7, 8, 9, 10, 11, 12, 13, 15, 16, 17, 18, 19, 20, 21, 22] rfl rfl (by decide) (cells2 := 117) (slots2 := 275538) (by decide) (fun u3 H locs w => ?_)
  have w : Wd s G A [(n0, .inr (11, [.ref n1, .ref n2, .ref n3, .ref n7, .ref n8, .ref n12, .ref n16, .ref n21, .ref n22, .ref n37, .int 0, .int (-1), .int 0, .int 0, .ref (u1 0), .null, .null, .null, .null])), (n3, .inr (5, [.ref n4, .ref n5, .ref n6, .int 0])), (n22, .inr (2, [.int 0, .int 0, .ref n23, .ref n24, .ref n25, .ref n26, .ref n27, .ref n28, .ref n29, .ref n30, .ref n31, .ref n32, .ref n33, .ref n34, .ref n35, .ref n36, .int 0])), (n4, .inl (G.2.1, 8, .inl (fun _ => 0))), (n107, .inl (G.2.2.1, 1, .inr (.inl (fun _ => 0)))), ((u1 0), .inr (1, [.int 0, .ref n22, .ref (u1 1), .ref (u1 2), .ref (u1 5), .ref (u1 6), .ref (u1 7), .ref (u1 8), .int 1])), ((u1 1), .inl (G.2.1, 24064, .inl (fun _ => 0))), ((u1 2), .inr (7, [.ref (u1 3), .int 0, .int 1, .int 3008, .ref (u1 4)])), ((u1 3), .inl (G.2.1, 24064, .inl (fun _ => 0))), ((u1 4), .inl (G.2.1, 8192, .inl (upd (fun _ => (-1)) 7 0))), ((u1 5), .inl (G.2.1, 3008, .inl (fun _ => 0))), ((u1 6), .inl (G.2.1, 3008, .inl (upd (fun _ => 0) 0 (-1)))), ((u1 7), .inl (G.2.1, 3008, .inl (upd (fun _ => 0) 0 (-1)))), ((u1 8), .inl (G.2.1, 8, .inl (fun _ => 0))), (n80, .inl (G.2.1, 4096, .inl (upd (fun _ => (-1)) 0 0))), (n73, .inl (G.2.1, 57, .inl (fun _ => 0))), (n75, .inl (G.2.1, 8, .inl (fun _ => 0))), (n76, .inl (G.2.1, 24008, .inl (fun _ => 0))), (n81, .inl (G.2.1, 3000, .inl (upd (fun _ => 0) 0 (-1)))), (n78, .inl (G.2.1, 3000, .inl (upd (fun _ => 0) 0 (-1)))), (n79, .inl (G.2.1, 3000, .inl (upd (fun _ => 0) 0 (-1)))), (n66, .inl (G.2.1, 242, .inl (fun _ => 0))), (n64, .inr (12, [.int 0, .int 0, .int 0, .int 0, .int 0, .int 0, .int 0, .int (-1), .ref n65, .ref n66, .ref n67, .int 0, .ref n68, .ref n69, .ref n70, .ref n71, .ref n72, .ref n73, .ref n74, .int 0, .ref n75, .ref n76, .ref n77, .ref n78, .ref n79, .ref n80, .ref n81, .int 1, .int (-1), .int 0, .ref n82, .ref n83, .ref n84, .ref n85, .ref n86, .ref n87, .ref n88, .ref n89, .int 0, .ref n90, .ref n91, .ref n92, .ref n93, .ref n94, .int 0, .ref n95, .ref n96, .ref n97, .ref n98, .int 0, .ref n99, .ref n100, .ref n101, .ref n102, .int 0, .int 0, .ref n103, .ref n104, .ref n105, .ref n106]))] H locs := w
  refine lv_iload hx hb dL_law_1105 (lv_at hl 1 rfl) ?_
  refine lv_icmp_eq (tgt := 1112) hx hb dL_law_1107 (by decide) (fun _ => ?_) (fun h => absurd (by decide) h)
  refine lv_iload hx hb dL_law_1112 (lv_at hl 1 rfl) ?_
  refine lv_if_ne (tgt := 1129) hx hb dL_law_1114 (by decide) (fun h => absurd (by decide) h) (fun _ => ?_)
  refine lv_aload_n hx hb dL_law_1117 rfl (lv_at hl 3 rfl) ?_
  refine lv_iconst (v := 0) hx hb dL_law_1118 (by decide) ?_
  refine r_lald C w 4 rfl (IX.of (k := 0) (by decide +kernel)) (v := 0) rfl dL_law_1119 ?_
  refine lv_iload hx hb dL_law_1120 (lv_at hl 0 rfl) ?_
  refine lv_i2l (v := 0) hx hb dL_law_1122 (by decide +kernel) ?_
  refine W.lcmp hx hb dL_law_1123 ?_
  refine z_i (v := 0) (by decide +kernel) ?_
  refine lv_if_eq (tgt := 1129) hx hb dL_law_1124 (by decide) (fun _ => ?_) (fun h => absurd (by decide) h)
  refine lv_goto (tgt := 3027) hx hb dL_law_1129 (by decide) ?_
  exact lc_end C hr hX hbl hbA w (lv_sub hl [2, 6] rfl) (by decide) (by decide)
set_option maxRecDepth 100000 in
set_option maxHeartbeats 4000000 in
theorem lc_15_3 {l : Launch} {G : GT} {p : Program} {e : Env} {s : State} {m : MethodId} {below : List Frame} {meth : Method} {c : Code} {A : Nat → Prop} {b : Nat} {xs : Nat → Int32} (C : Cx l s #[Value.ref b] G p s m #[Value.ref b] meth c RL cL_law 8 "law" A) (hr : meth.sig.returnType = some .boolean) (hX : va_X b 6 xs s s.heap) (hbl : b < s.heap.size) (hbA : ¬ A b) (n0 n1 n2 n3 n4 n5 n6 n7 n8 n12 n16 n21 n22 n23 n24 n25 n26 n27 n28 n29 n30 n31 n32 n33 n34 n35 n36 n37 n64 n65 n66 n67 n68 n69 n70 n71 n72 n73 n74 n75 n76 n77 n78 n79 n80 n81 n82 n83 n84 n85 n86 n87 n88 n89 n90 n91 n92 n93 n94 n95 n96 n97 n98 n99 n100 n101 n102 n103 n104 n105 n106 n107 : Nat) (g0 : ¬ (xs 1) < 1) (g1 : ¬ 3000 < (xs 1)) (g2 : ¬ 0 = (xs 2)) {H : Heap} {locs : List Loc} {ls : Array Slot} (w : Wd s G A [(n0, .inr (11, [.ref n1, .ref n2, .ref n3, .ref n7, .ref n8, .ref n12, .ref n16, .ref n21, .ref n22, .ref n37, .int 0, .int (-1), .int 0, .int 0, .null, .null, .null, .null, .null])), (n3, .inr (5, [.ref n4, .ref n5, .ref n6, .int 0])), (n4, .inl (G.2.1, 8, .inl (fun _ => 0))), (n22, .inr (2, [.int 0, .int 0, .ref n23, .ref n24, .ref n25, .ref n26, .ref n27, .ref n28, .ref n29, .ref n30, .ref n31, .ref n32, .ref n33, .ref n34, .ref n35, .ref n36, .int 0])), (n64, .inr (12, [.int 0, .int 0, .int 0, .int 0, .int 0, .int 0, .int 0, .int (-1), .ref n65, .ref n66, .ref n67, .int 0, .ref n68, .ref n69, .ref n70, .ref n71, .ref n72, .ref n73, .ref n74, .int 0, .ref n75, .ref n76, .ref n77, .ref n78, .ref n79, .ref n80, .ref n81, .int 0, .int (-1), .int 0, .ref n82, .ref n83, .ref n84, .ref n85, .ref n86, .ref n87, .ref n88, .ref n89, .int 0, .ref n90, .ref n91, .ref n92, .ref n93, .ref n94, .int 0, .ref n95, .ref n96, .ref n97, .ref n98, .int 0, .ref n99, .ref n100, .ref n101, .ref n102, .int 0, .int 0, .ref n103, .ref n104, .ref n105, .ref n106])), (n66, .inl (G.2.1, 242, .inl (fun _ => 0))), (n73, .inl (G.2.1, 57, .inl (fun _ => 0))), (n75, .inl (G.2.1, 8, .inl (fun _ => 0))), (n76, .inl (G.2.1, 24008, .inl (fun _ => 0))), (n78, .inl (G.2.1, 3000, .inl (fun _ => 0))), (n79, .inl (G.2.1, 3000, .inl (fun _ => 0))), (n80, .inl (G.2.1, 4096, .inl (fun _ => 0))), (n81, .inl (G.2.1, 3000, .inl (fun _ => 0))), (n107, .inl (G.2.2.1, 1, .inr (.inl (fun _ => 0))))] H locs) (hl : lv_has ls 8 [(4, .int 0), (3, .ref n107), (2, .ref n64), (1, .ref n0), (0, .ref b)]) : W p l e room_1 s m #[Value.ref b] below meth c H locs 108 210172 (lw_Z below #[Value.ref b] s) (F0 m 1064 ls []) := by
  have hx := C.hx
  have hb := C.hb
  refine lv_aload_n hx hb dL_law_1064 rfl (lv_at hl 3 rfl) ?_
  refine lv_aload_n hx hb dL_law_1065 rfl (lv_at hl 4 rfl) ?_
  refine lv_iload hx hb dL_law_1066 (lv_at hl 0 rfl) ?_
  refine lv_iconst (v := 1) hx hb dL_law_1068 (by decide) ?_
  refine lv_iadd hx hb dL_law_1069 ?_
  refine z_i (v := 1) (by decide +kernel) ?_
  refine va_sld hx hb hX hbl hbA w.2.2 (i := 1) (by decide) dL_law_1070 ?_
  refine z_i (v := (xs 1)) rfl ?_
  refine lv_aload_n hx hb dL_law_1071 rfl (lv_at hl 4 rfl) ?_
  refine lv_iload hx hb dL_law_1072 (lv_at hl 0 rfl) ?_
  refine lv_iconst (v := 2) hx hb dL_law_1074 (by decide) ?_
  refine lv_iadd hx hb dL_law_1075 ?_
  refine z_i (v := 2) (by decide +kernel) ?_
  refine va_sld hx hb hX hbl hbA w.2.2 (i := 2) (by decide) dL_law_1076 ?_
  refine z_i (v := (xs 2)) rfl ?_
  refine lv_aload_n hx hb dL_law_1077 rfl (lv_at hl 1 rfl) ?_
  refine fin_i C w (run_H C w mh_L_198 (k144_dead C.b0 n0 n3 n22 n4 n107 n1 n2 n7 n8 n12 n16 n21 n37 n5 n6 n23 n24 n25 n26 n27 n28 n29 n30 n31 n32 n33 n34 n35 n36 ((xs 1)) ((xs 2)) g2 g1 g0 H.size) [0, 1, 3, 2, 13] rfl rfl (by decide) rfl hl.1 rfl (Nat.le_of_ble_eq_true rfl) dL_law_1078 (cells2 := 117) (slots2 := 275538) (by decide)) [0, 1, 3, 2, 13] [4, 5, 6, 7, 8, 9, 10, 11, 12] rfl rfl (by decide) (cells2 := 117) (slots2 := 275538) (by decide) (fun u1 H locs w => ?_)
  have w : Wd s G A [(n64, .inr (12, [.int 0, .int 0, .int 0, .int 0, .int 0, .int 0, .int 0, .int (-1), .ref n65, .ref n66, .ref n67, .int 0, .ref n68, .ref n69, .ref n70, .ref n71, .ref n72, .ref n73, .ref n74, .int 0, .ref n75, .ref n76, .ref n77, .ref n78, .ref n79, .ref n80, .ref n81, .int 0, .int (-1), .int 0, .ref n82, .ref n83, .ref n84, .ref n85, .ref n86, .ref n87, .ref n88, .ref n89, .int 0, .ref n90, .ref n91, .ref n92, .ref n93, .ref n94, .int 0, .ref n95, .ref n96, .ref n97, .ref n98, .int 0, .ref n99, .ref n100, .ref n101, .ref n102, .int 0, .int 0, .ref n103, .ref n104, .ref n105, .ref n106])), (n66, .inl (G.2.1, 242, .inl (fun _ => 0))), (n73, .inl (G.2.1, 57, .inl (fun _ => 0))), (n75, .inl (G.2.1, 8, .inl (fun _ => 0))), (n76, .inl (G.2.1, 24008, .inl (fun _ => 0))), (n78, .inl (G.2.1, 3000, .inl (fun _ => 0))), (n79, .inl (G.2.1, 3000, .inl (fun _ => 0))), (n80, .inl (G.2.1, 4096, .inl (fun _ => 0))), (n81, .inl (G.2.1, 3000, .inl (fun _ => 0))), (n0, .inr (11, [.ref n1, .ref n2, .ref n3, .ref n7, .ref n8, .ref n12, .ref n16, .ref n21, .ref n22, .ref n37, .int 0, .int (-1), .int 0, .int 0, .ref (u1 0), .null, .null, .null, .null])), (n3, .inr (5, [.ref n4, .ref n5, .ref n6, .int 0])), (n22, .inr (2, [.int 0, .int 0, .ref n23, .ref n24, .ref n25, .ref n26, .ref n27, .ref n28, .ref n29, .ref n30, .ref n31, .ref n32, .ref n33, .ref n34, .ref n35, .ref n36, .int 0])), (n4, .inl (G.2.1, 8, .inl (fun _ => 0))), (n107, .inl (G.2.2.1, 1, .inr (.inl (vp_updL (fun _ => 0) 0 (-1))))), ((u1 0), .inr (1, [.int 0, .ref n22, .ref (u1 1), .ref (u1 2), .ref (u1 5), .ref (u1 6), .ref (u1 7), .ref (u1 8), .int 1])), ((u1 1), .inl (G.2.1, 24064, .inl (fun _ => 0))), ((u1 2), .inr (7, [.ref (u1 3), .int 0, .int 1, .int 3008, .ref (u1 4)])), ((u1 3), .inl (G.2.1, 24064, .inl (fun _ => 0))), ((u1 4), .inl (G.2.1, 8192, .inl (upd (fun _ => (-1)) 7 0))), ((u1 5), .inl (G.2.1, 3008, .inl (fun _ => 0))), ((u1 6), .inl (G.2.1, 3008, .inl (upd (fun _ => 0) 0 (-1)))), ((u1 7), .inl (G.2.1, 3008, .inl (upd (fun _ => 0) 0 (-1)))), ((u1 8), .inl (G.2.1, 8, .inl (fun _ => 0)))] H locs := w
  refine lv_istore (lv' := [(5, .int 0), (4, .int 0), (3, .ref n107), (2, .ref n64), (1, .ref n0), (0, .ref b)]) hx hb dL_law_1081 hl (by decide) rfl (fun ls hl => ?_)
  refine lv_aload_n hx hb dL_law_1083 rfl (lv_at hl 3 rfl) ?_
  refine lv_aload_n hx hb dL_law_1084 rfl (lv_at hl 5 rfl) ?_
  refine lv_iload hx hb dL_law_1085 (lv_at hl 1 rfl) ?_
  refine lv_iconst (v := 1) hx hb dL_law_1087 (by decide) ?_
  refine lv_iadd hx hb dL_law_1088 ?_
  refine z_i (v := 1) (by decide +kernel) ?_
  refine va_sld hx hb hX hbl hbA w.2.2 (i := 1) (by decide) dL_law_1089 ?_
  refine z_i (v := (xs 1)) rfl ?_
  refine lv_aload_n hx hb dL_law_1090 rfl (lv_at hl 5 rfl) ?_
  refine lv_iload hx hb dL_law_1091 (lv_at hl 1 rfl) ?_
  refine lv_iconst (v := 2) hx hb dL_law_1093 (by decide) ?_
  refine lv_iadd hx hb dL_law_1094 ?_
  refine z_i (v := 2) (by decide +kernel) ?_
  refine va_sld hx hb hX hbl hbA w.2.2 (i := 2) (by decide) dL_law_1095 ?_
  refine z_i (v := (xs 2)) rfl ?_
  refine fin_i C w (run_V C w mv_L_200 (k145_dead C.b0 n64 n80 n73 n75 n76 n81 n78 n79 n66 n65 n67 n68 n69 n70 n71 n72 n74 n77 n82 n83 n84 n85 n86 n87 n88 n89 n90 n91 n92 n93 n94 n95 n96 n97 n98 n99 n100 n101 n102 n103 n104 n105 n106 ((xs 1)) ((xs 2)) g2 g1 g0 H.size) [0, 7, 2, 3, 4, 8, 5, 6, 1] rfl rfl 0 rfl rfl (by decide) rfl hl.1 rfl (Nat.le_of_ble_eq_true rfl) dL_law_1096 (cells2 := 117) (slots2 := 275538) (by decide)) [0, 7, 2, 3, 4, 8, 5, 6, 1] [9, 10, 11, 12, 13, 14, 15, 16, 17, 18, 19, 20, 21, 22] rfl rfl (by decide) (cells2 := 117) (slots2 := 275538) (by decide) (fun u2 H locs w => ?_)
  have w : Wd s G A [(n0, .inr (11, [.ref n1, .ref n2, .ref n3, .ref n7, .ref n8, .ref n12, .ref n16, .ref n21, .ref n22, .ref n37, .int 0, .int (-1), .int 0, .int 0, .ref (u1 0), .null, .null, .null, .null])), (n3, .inr (5, [.ref n4, .ref n5, .ref n6, .int 0])), (n22, .inr (2, [.int 0, .int 0, .ref n23, .ref n24, .ref n25, .ref n26, .ref n27, .ref n28, .ref n29, .ref n30, .ref n31, .ref n32, .ref n33, .ref n34, .ref n35, .ref n36, .int 0])), (n4, .inl (G.2.1, 8, .inl (fun _ => 0))), (n107, .inl (G.2.2.1, 1, .inr (.inl (vp_updL (fun _ => 0) 0 (-1))))), ((u1 0), .inr (1, [.int 0, .ref n22, .ref (u1 1), .ref (u1 2), .ref (u1 5), .ref (u1 6), .ref (u1 7), .ref (u1 8), .int 1])), ((u1 1), .inl (G.2.1, 24064, .inl (fun _ => 0))), ((u1 2), .inr (7, [.ref (u1 3), .int 0, .int 1, .int 3008, .ref (u1 4)])), ((u1 3), .inl (G.2.1, 24064, .inl (fun _ => 0))), ((u1 4), .inl (G.2.1, 8192, .inl (upd (fun _ => (-1)) 7 0))), ((u1 5), .inl (G.2.1, 3008, .inl (fun _ => 0))), ((u1 6), .inl (G.2.1, 3008, .inl (upd (fun _ => 0) 0 (-1)))), ((u1 7), .inl (G.2.1, 3008, .inl (upd (fun _ => 0) 0 (-1)))), ((u1 8), .inl (G.2.1, 8, .inl (fun _ => 0))), (n64, .inr (12, [.int 0, .int 0, .int 0, .int 0, .int 0, .int 0, .int 0, .int (-1), .ref n65, .ref n66, .ref n67, .int 0, .ref n68, .ref n69, .ref n70, .ref n71, .ref n72, .ref n73, .ref n74, .int 0, .ref n75, .ref n76, .ref n77, .ref n78, .ref n79, .ref n80, .ref n81, .int 1, .int (-1), .int 0, .ref n82, .ref n83, .ref n84, .ref n85, .ref n86, .ref n87, .ref n88, .ref n89, .int 0, .ref n90, .ref n91, .ref n92, .ref n93, .ref n94, .int 0, .ref n95, .ref n96, .ref n97, .ref n98, .int 0, .ref n99, .ref n100, .ref n101, .ref n102, .int 0, .int 0, .ref n103, .ref n104, .ref n105, .ref n106])), (n80, .inl (G.2.1, 4096, .inl (upd (fun _ => (-1)) 0 0))), (n73, .inl (G.2.1, 57, .inl (fun _ => 0))), (n75, .inl (G.2.1, 8, .inl (fun _ => 0))), (n76, .inl (G.2.1, 24008, .inl (fun _ => 0))), (n81, .inl (G.2.1, 3000, .inl (upd (fun _ => 0) 0 (-1)))), (n78, .inl (G.2.1, 3000, .inl (upd (fun _ => 0) 0 (-1)))), (n79, .inl (G.2.1, 3000, .inl (upd (fun _ => 0) 0 (-1)))), (n66, .inl (G.2.1, 242, .inl (fun _ => 0)))] H locs := w
  refine lv_istore (lv' := [(6, .int (-1)), (5, .int 0), (4, .int 0), (3, .ref n107), (2, .ref n64), (1, .ref n0), (0, .ref b)]) hx hb dL_law_1099 hl (by decide) rfl (fun ls hl => ?_)
  refine lv_aload_n hx hb dL_law_1101 rfl (lv_at hl 4 rfl) ?_
  refine fin_i C w (run_V C w mv_L_150 (k126_thrown C.b0 n64 n65 n66 n67 n68 n69 n70 n71 n72 n73 n74 n75 n76 n77 n78 n79 n80 n81 n82 n83 n84 n85 n86 n87 n88 n89 n90 n91 n92 n93 n94 n95 n96 n97 n98 n99 n100 n101 n102 n103 n104 n105 n106 H.size) [14] rfl rfl 14 rfl rfl (by decide) rfl hl.1 rfl (Nat.le_of_ble_eq_true rfl) dL_law_1102 (cells2 := 117) (slots2 := 275538) (by decide)) [14] [0, 1, 2, 3, 4, 5, 6, 7, 8, 9, 10, 11, 12, 13, 15, 16, 17, 18, 19, 20, 21, 22] rfl rfl (by decide) (cells2 := 117) (slots2 := 275538) (by decide) (fun u3 H locs w => ?_)
  have w : Wd s G A [(n0, .inr (11, [.ref n1, .ref n2, .ref n3, .ref n7, .ref n8, .ref n12, .ref n16, .ref n21, .ref n22, .ref n37, .int 0, .int (-1), .int 0, .int 0, .ref (u1 0), .null, .null, .null, .null])), (n3, .inr (5, [.ref n4, .ref n5, .ref n6, .int 0])), (n22, .inr (2, [.int 0, .int 0, .ref n23, .ref n24, .ref n25, .ref n26, .ref n27, .ref n28, .ref n29, .ref n30, .ref n31, .ref n32, .ref n33, .ref n34, .ref n35, .ref n36, .int 0])), (n4, .inl (G.2.1, 8, .inl (fun _ => 0))), (n107, .inl (G.2.2.1, 1, .inr (.inl (vp_updL (fun _ => 0) 0 (-1))))), ((u1 0), .inr (1, [.int 0, .ref n22, .ref (u1 1), .ref (u1 2), .ref (u1 5), .ref (u1 6), .ref (u1 7), .ref (u1 8), .int 1])), ((u1 1), .inl (G.2.1, 24064, .inl (fun _ => 0))), ((u1 2), .inr (7, [.ref (u1 3), .int 0, .int 1, .int 3008, .ref (u1 4)])), ((u1 3), .inl (G.2.1, 24064, .inl (fun _ => 0))), ((u1 4), .inl (G.2.1, 8192, .inl (upd (fun _ => (-1)) 7 0))), ((u1 5), .inl (G.2.1, 3008, .inl (fun _ => 0))), ((u1 6), .inl (G.2.1, 3008, .inl (upd (fun _ => 0) 0 (-1)))), ((u1 7), .inl (G.2.1, 3008, .inl (upd (fun _ => 0) 0 (-1)))), ((u1 8), .inl (G.2.1, 8, .inl (fun _ => 0))), (n80, .inl (G.2.1, 4096, .inl (upd (fun _ => (-1)) 0 0))), (n73, .inl (G.2.1, 57, .inl (fun _ => 0))), (n75, .inl (G.2.1, 8, .inl (fun _ => 0))), (n76, .inl (G.2.1, 24008, .inl (fun _ => 0))), (n81, .inl (G.2.1, 3000, .inl (upd (fun _ => 0) 0 (-1)))), (n78, .inl (G.2.1, 3000, .inl (upd (fun _ => 0) 0 (-1)))), (n79, .inl (G.2.1, 3000, .inl (upd (fun _ => 0) 0 (-1)))), (n66, .inl (G.2.1, 242, .inl (fun _ => 0))), (n64, .inr (12, [.int 0, .int 0, .int 0, .int 0, .int 0, .int 0, .int 0, .int (-1), .ref n65, .ref n66, .ref n67, .int 0, .ref n68, .ref n69, .ref n70, .ref n71, .ref n72, .ref n73, .ref n74, .int 0, .ref n75, .ref n76, .ref n77, .ref n78, .ref n79, .ref n80, .ref n81, .int 1, .int (-1), .int 0, .ref n82, .ref n83, .ref n84, .ref n85, .ref n86, .ref n87, .ref n88, .ref n89, .int 0, .ref n90, .ref n91, .ref n92, .ref n93, .ref n94, .int 0, .ref n95, .ref n96, .ref n97, .ref n98, .int 0, .ref n99, .ref n100, .ref n101, .ref n102, .int 0, .int 0, .ref n103, .ref n104, .ref n105, .ref n106]))] H locs := w
  refine lv_iload hx hb dL_law_1105 (lv_at hl 1 rfl) ?_
  refine lv_icmp_eq (tgt := 1112) hx hb dL_law_1107 (by decide) (fun _ => ?_) (fun h => absurd (by decide) h)
  refine lv_iload hx hb dL_law_1112 (lv_at hl 1 rfl) ?_
  refine lv_if_ne (tgt := 1129) hx hb dL_law_1114 (by decide) (fun h => absurd (by decide) h) (fun _ => ?_)
  refine lv_aload_n hx hb dL_law_1117 rfl (lv_at hl 3 rfl) ?_
  refine lv_iconst (v := 0) hx hb dL_law_1118 (by decide) ?_
  refine r_lald C w 4 rfl (IX.of (k := 0) (by decide +kernel)) (v := (-1)) rfl dL_law_1119 ?_
  refine lv_iload hx hb dL_law_1120 (lv_at hl 0 rfl) ?_
  refine lv_i2l (v := (-1)) hx hb dL_law_1122 (by decide +kernel) ?_
  refine W.lcmp hx hb dL_law_1123 ?_
  refine z_i (v := 0) (by decide +kernel) ?_
  refine lv_if_eq (tgt := 1129) hx hb dL_law_1124 (by decide) (fun _ => ?_) (fun h => absurd (by decide) h)
  refine lv_goto (tgt := 3027) hx hb dL_law_1129 (by decide) ?_
  exact lc_end C hr hX hbl hbA w (lv_sub hl [2, 6] rfl) (by decide) (by decide)
set_option maxRecDepth 100000 in
set_option maxHeartbeats 4000000 in
theorem lc_16_0 {l : Launch} {G : GT} {p : Program} {e : Env} {s : State} {m : MethodId} {below : List Frame} {meth : Method} {c : Code} {A : Nat → Prop} {b : Nat} {xs : Nat → Int32} (C : Cx l s #[Value.ref b] G p s m #[Value.ref b] meth c RL cL_law 8 "law" A) (hr : meth.sig.returnType = some .boolean) (hX : va_X b 6 xs s s.heap) (hbl : b < s.heap.size) (hbA : ¬ A b) (n0 n1 n2 n3 n7 n8 n12 n16 n21 n22 n23 n24 n25 n26 n27 n28 n29 n30 n31 n32 n33 n34 n35 n36 n37 n64 n65 n66 n67 n68 n69 n70 n71 n72 n73 n74 n75 n76 n77 n78 n79 n80 n81 n82 n83 n84 n85 n86 n87 n88 n89 n90 n91 n92 n93 n94 n95 n96 n97 n98 n99 n100 n101 n102 n103 n104 n105 n106 n107 : Nat) {H : Heap} {locs : List Loc} {ls : Array Slot} (w : Wd s G A [(n0, .inr (11, [.ref n1, .ref n2, .ref n3, .ref n7, .ref n8, .ref n12, .ref n16, .ref n21, .ref n22, .ref n37, .int 0, .int (-1), .int 0, .int 0, .null, .null, .null, .null, .null])), (n22, .inr (2, [.int 0, .int 0, .ref n23, .ref n24, .ref n25, .ref n26, .ref n27, .ref n28, .ref n29, .ref n30, .ref n31, .ref n32, .ref n33, .ref n34, .ref n35, .ref n36, .int 0])), (n64, .inr (12, [.int 0, .int 0, .int 0, .int 0, .int 0, .int 0, .int 0, .int (-1), .ref n65, .ref n66, .ref n67, .int 0, .ref n68, .ref n69, .ref n70, .ref n71, .ref n72, .ref n73, .ref n74, .int 0, .ref n75, .ref n76, .ref n77, .ref n78, .ref n79, .ref n80, .ref n81, .int 0, .int (-1), .int 0, .ref n82, .ref n83, .ref n84, .ref n85, .ref n86, .ref n87, .ref n88, .ref n89, .int 0, .ref n90, .ref n91, .ref n92, .ref n93, .ref n94, .int 0, .ref n95, .ref n96, .ref n97, .ref n98, .int 0, .ref n99, .ref n100, .ref n101, .ref n102, .int 0, .int 0, .ref n103, .ref n104, .ref n105, .ref n106])), (n66, .inl (G.2.1, 242, .inl (fun _ => 0)))] H locs) (hl : lv_has ls 8 [(4, .int 0), (3, .ref n107), (2, .ref n64), (1, .ref n0), (0, .ref b)]) : W p l e room_1 s m #[Value.ref b] below meth c H locs 108 210172 (lw_Z below #[Value.ref b] s) (F0 m 1132 ls []) := by
  have hx := C.hx
  have hb := C.hb
  refine lv_aload_n hx hb dL_law_1132 rfl (lv_at hl 3 rfl) ?_
  refine lv_aload_n hx hb dL_law_1133 rfl (lv_at hl 4 rfl) ?_
  refine lv_iload hx hb dL_law_1134 (lv_at hl 0 rfl) ?_
  refine lv_iconst (v := 1) hx hb dL_law_1136 (by decide) ?_
  refine lv_iadd hx hb dL_law_1137 ?_
  refine z_i (v := 1) (by decide +kernel) ?_
  refine va_sld hx hb hX hbl hbA w.2.2 (i := 1) (by decide) dL_law_1138 ?_
  refine z_i (v := (xs 1)) rfl ?_
  refine lv_aload_n hx hb dL_law_1139 rfl (lv_at hl 4 rfl) ?_
  refine lv_iload hx hb dL_law_1140 (lv_at hl 0 rfl) ?_
  refine lv_iconst (v := 2) hx hb dL_law_1142 (by decide) ?_
  refine lv_iadd hx hb dL_law_1143 ?_
  refine z_i (v := 2) (by decide +kernel) ?_
  refine va_sld hx hb hX hbl hbA w.2.2 (i := 2) (by decide) dL_law_1144 ?_
  refine z_i (v := (xs 2)) rfl ?_
  refine lv_aload_n hx hb dL_law_1145 rfl (lv_at hl 1 rfl) ?_
  refine fin_i C w (run_H C w mh_L_201 (k147_lives C.b0 n0 n22 n107 n1 n2 n3 n7 n8 n12 n16 n21 n37 n23 n24 n25 n26 n27 n28 n29 n30 n31 n32 n33 n34 n35 n36 ((xs 1)) ((xs 2)) H.size) [0, 1] rfl rfl (by decide) rfl hl.1 rfl (Nat.le_of_ble_eq_true rfl) dL_law_1146 (cells2 := 109) (slots2 := 210178) (by decide)) [0, 1] [2, 3] rfl rfl (by decide) (cells2 := 109) (slots2 := 210178) (by decide) (fun u1 H locs w => ?_)
  have w : Wd s G A [(n64, .inr (12, [.int 0, .int 0, .int 0, .int 0, .int 0, .int 0, .int 0, .int (-1), .ref n65, .ref n66, .ref n67, .int 0, .ref n68, .ref n69, .ref n70, .ref n71, .ref n72, .ref n73, .ref n74, .int 0, .ref n75, .ref n76, .ref n77, .ref n78, .ref n79, .ref n80, .ref n81, .int 0, .int (-1), .int 0, .ref n82, .ref n83, .ref n84, .ref n85, .ref n86, .ref n87, .ref n88, .ref n89, .int 0, .ref n90, .ref n91, .ref n92, .ref n93, .ref n94, .int 0, .ref n95, .ref n96, .ref n97, .ref n98, .int 0, .ref n99, .ref n100, .ref n101, .ref n102, .int 0, .int 0, .ref n103, .ref n104, .ref n105, .ref n106])), (n66, .inl (G.2.1, 242, .inl (fun _ => 0))), (n0, .inr (11, [.ref n1, .ref n2, .ref n3, .ref n7, .ref n8, .ref n12, .ref n16, .ref n21, .ref n22, .ref n37, .int 0, .int (-1), .int 0, .int 0, .null, .null, .null, .null, .null])), (n22, .inr (2, [.int 0, .int 0, .ref n23, .ref n24, .ref n25, .ref n26, .ref n27, .ref n28, .ref n29, .ref n30, .ref n31, .ref n32, .ref n33, .ref n34, .ref n35, .ref n36, .int 0]))] H locs := w
  refine lv_istore (lv' := [(5, .int 1), (4, .int 0), (3, .ref n107), (2, .ref n64), (1, .ref n0), (0, .ref b)]) hx hb dL_law_1149 hl (by decide) rfl (fun ls hl => ?_)
  refine lv_aload_n hx hb dL_law_1151 rfl (lv_at hl 3 rfl) ?_
  refine lv_aload_n hx hb dL_law_1152 rfl (lv_at hl 5 rfl) ?_
  refine lv_iload hx hb dL_law_1153 (lv_at hl 1 rfl) ?_
  refine lv_iconst (v := 1) hx hb dL_law_1155 (by decide) ?_
  refine lv_iadd hx hb dL_law_1156 ?_
  refine z_i (v := 1) (by decide +kernel) ?_
  refine va_sld hx hb hX hbl hbA w.2.2 (i := 1) (by decide) dL_law_1157 ?_
  refine z_i (v := (xs 1)) rfl ?_
  refine lv_aload_n hx hb dL_law_1158 rfl (lv_at hl 5 rfl) ?_
  refine lv_iload hx hb dL_law_1159 (lv_at hl 1 rfl) ?_
  refine lv_iconst (v := 2) hx hb dL_law_1161 (by decide) ?_
  refine lv_iadd hx hb dL_law_1162 ?_
  refine z_i (v := 2) (by decide +kernel) ?_
  refine va_sld hx hb hX hbl hbA w.2.2 (i := 2) (by decide) dL_law_1163 ?_
  refine z_i (v := (xs 2)) rfl ?_
  refine fin_i C w (run_V C w mv_L_203 (k148_lives C.b0 n64 n66 n65 n67 n68 n69 n70 n71 n72 n73 n74 n75 n76 n77 n78 n79 n80 n81 n82 n83 n84 n85 n86 n87 n88 n89 n90 n91 n92 n93 n94 n95 n96 n97 n98 n99 n100 n101 n102 n103 n104 n105 n106 ((xs 1)) ((xs 2)) H.size) [0, 1] rfl rfl 0 rfl rfl (by decide) rfl hl.1 rfl (Nat.le_of_ble_eq_true rfl) dL_law_1164 (cells2 := 109) (slots2 := 210178) (by decide)) [0, 1] [2, 3] rfl rfl (by decide) (cells2 := 109) (slots2 := 210178) (by decide) (fun u2 H locs w => ?_)
  have w : Wd s G A [(n0, .inr (11, [.ref n1, .ref n2, .ref n3, .ref n7, .ref n8, .ref n12, .ref n16, .ref n21, .ref n22, .ref n37, .int 0, .int (-1), .int 0, .int 0, .null, .null, .null, .null, .null])), (n22, .inr (2, [.int 0, .int 0, .ref n23, .ref n24, .ref n25, .ref n26, .ref n27, .ref n28, .ref n29, .ref n30, .ref n31, .ref n32, .ref n33, .ref n34, .ref n35, .ref n36, .int 0])), (n64, .inr (12, [.int 1, .int 0, .int 0, .int 0, .int 0, .int 0, .int 0, .int (-1), .ref n65, .ref n66, .ref n67, .int 0, .ref n68, .ref n69, .ref n70, .ref n71, .ref n72, .ref n73, .ref n74, .int 0, .ref n75, .ref n76, .ref n77, .ref n78, .ref n79, .ref n80, .ref n81, .int 0, .int (-1), .int 0, .ref n82, .ref n83, .ref n84, .ref n85, .ref n86, .ref n87, .ref n88, .ref n89, .int 0, .ref n90, .ref n91, .ref n92, .ref n93, .ref n94, .int 0, .ref n95, .ref n96, .ref n97, .ref n98, .int 0, .ref n99, .ref n100, .ref n101, .ref n102, .int 0, .int 0, .ref n103, .ref n104, .ref n105, .ref n106])), (n66, .inl (G.2.1, 242, .inl (fun _ => 0)))] H locs := w
  refine lv_istore (lv' := [(6, .int 0), (5, .int 1), (4, .int 0), (3, .ref n107), (2, .ref n64), (1, .ref n0), (0, .ref b)]) hx hb dL_law_1167 hl (by decide) rfl (fun ls hl => ?_)
  refine lv_aload_n hx hb dL_law_1169 rfl (lv_at hl 4 rfl) ?_
  refine fin_i C w (run_V C w mv_L_150 (k20_thrown C.b0 n64 n65 n66 n67 n68 n69 n70 n71 n72 n73 n74 n75 n76 n77 n78 n79 n80 n81 n82 n83 n84 n85 n86 n87 n88 n89 n90 n91 n92 n93 n94 n95 n96 n97 n98 n99 n100 n101 n102 n103 n104 n105 n106 H.size) [2] rfl rfl 2 rfl rfl (by decide) rfl hl.1 rfl (Nat.le_of_ble_eq_true rfl) dL_law_1170 (cells2 := 109) (slots2 := 210178) (by decide)) [2] [0, 1, 3] rfl rfl (by decide) (cells2 := 109) (slots2 := 210178) (by decide) (fun u3 H locs w => ?_)
  have w : Wd s G A [(n0, .inr (11, [.ref n1, .ref n2, .ref n3, .ref n7, .ref n8, .ref n12, .ref n16, .ref n21, .ref n22, .ref n37, .int 0, .int (-1), .int 0, .int 0, .null, .null, .null, .null, .null])), (n22, .inr (2, [.int 0, .int 0, .ref n23, .ref n24, .ref n25, .ref n26, .ref n27, .ref n28, .ref n29, .ref n30, .ref n31, .ref n32, .ref n33, .ref n34, .ref n35, .ref n36, .int 0])), (n66, .inl (G.2.1, 242, .inl (fun _ => 0))), (n64, .inr (12, [.int 1, .int 0, .int 0, .int 0, .int 0, .int 0, .int 0, .int (-1), .ref n65, .ref n66, .ref n67, .int 0, .ref n68, .ref n69, .ref n70, .ref n71, .ref n72, .ref n73, .ref n74, .int 0, .ref n75, .ref n76, .ref n77, .ref n78, .ref n79, .ref n80, .ref n81, .int 0, .int (-1), .int 0, .ref n82, .ref n83, .ref n84, .ref n85, .ref n86, .ref n87, .ref n88, .ref n89, .int 0, .ref n90, .ref n91, .ref n92, .ref n93, .ref n94, .int 0, .ref n95, .ref n96, .ref n97, .ref n98, .int 0, .ref n99, .ref n100, .ref n101, .ref n102, .int 0, .int 0, .ref n103, .ref n104, .ref n105, .ref n106]))] H locs := w
  refine lv_iload hx hb dL_law_1173 (lv_at hl 1 rfl) ?_
  refine lv_icmp_eq (tgt := 1180) hx hb dL_law_1175 (by decide) (fun _ => ?_) (fun h => absurd (by decide) h)
  refine lv_iload hx hb dL_law_1180 (lv_at hl 1 rfl) ?_
  refine lv_if_ne (tgt := 1197) hx hb dL_law_1182 (by decide) (fun _ => ?_) (fun h => h.elim (by decide))
  refine lv_goto (tgt := 3027) hx hb dL_law_1197 (by decide) ?_
  exact lc_end C hr hX hbl hbA w (lv_sub hl [2, 6] rfl) (by decide) (by decide)
set_option maxRecDepth 100000 in
set_option maxHeartbeats 4000000 in
theorem lc_17_0 {l : Launch} {G : GT} {p : Program} {e : Env} {s : State} {m : MethodId} {below : List Frame} {meth : Method} {c : Code} {A : Nat → Prop} {b : Nat} {xs : Nat → Int32} (C : Cx l s #[Value.ref b] G p s m #[Value.ref b] meth c RL cL_law 8 "law" A) (hr : meth.sig.returnType = some .boolean) (hX : va_X b 6 xs s s.heap) (hbl : b < s.heap.size) (hbA : ¬ A b) (n0 n1 n2 n3 n7 n8 n12 n16 n21 n22 n37 n64 n65 n66 n67 n68 n69 n70 n71 n72 n73 n74 n75 n76 n77 n78 n79 n80 n81 n82 n83 n84 n85 n86 n87 n88 n89 n90 n91 n92 n93 n94 n95 n96 n97 n98 n99 n100 n101 n102 n103 n104 n105 n106 n107 : Nat) (g0 : (xs 1) < 1) {H : Heap} {locs : List Loc} {ls : Array Slot} (w : Wd s G A [(n0, .inr (11, [.ref n1, .ref n2, .ref n3, .ref n7, .ref n8, .ref n12, .ref n16, .ref n21, .ref n22, .ref n37, .int 0, .int (-1), .int 0, .int 0, .null, .null, .null, .null, .null])), (n64, .inr (12, [.int 0, .int 0, .int 0, .int 0, .int 0, .int 0, .int 0, .int (-1), .ref n65, .ref n66, .ref n67, .int 0, .ref n68, .ref n69, .ref n70, .ref n71, .ref n72, .ref n73, .ref n74, .int 0, .ref n75, .ref n76, .ref n77, .ref n78, .ref n79, .ref n80, .ref n81, .int 0, .int (-1), .int 0, .ref n82, .ref n83, .ref n84, .ref n85, .ref n86, .ref n87, .ref n88, .ref n89, .int 0, .ref n90, .ref n91, .ref n92, .ref n93, .ref n94, .int 0, .ref n95, .ref n96, .ref n97, .ref n98, .int 0, .ref n99, .ref n100, .ref n101, .ref n102, .int 0, .int 0, .ref n103, .ref n104, .ref n105, .ref n106]))] H locs) (hl : lv_has ls 8 [(4, .int 0), (3, .ref n107), (2, .ref n64), (1, .ref n0), (0, .ref b)]) : W p l e room_1 s m #[Value.ref b] below meth c H locs 108 210172 (lw_Z below #[Value.ref b] s) (F0 m 1200 ls []) := by
  have hx := C.hx
  have hb := C.hb
  refine lv_aload_n hx hb dL_law_1200 rfl (lv_at hl 3 rfl) ?_
  refine lv_aload_n hx hb dL_law_1201 rfl (lv_at hl 4 rfl) ?_
  refine lv_iload hx hb dL_law_1202 (lv_at hl 0 rfl) ?_
  refine lv_iconst (v := 1) hx hb dL_law_1204 (by decide) ?_
  refine lv_iadd hx hb dL_law_1205 ?_
  refine z_i (v := 1) (by decide +kernel) ?_
  refine va_sld hx hb hX hbl hbA w.2.2 (i := 1) (by decide) dL_law_1206 ?_
  refine z_i (v := (xs 1)) rfl ?_
  refine lv_aload_n hx hb dL_law_1207 rfl (lv_at hl 4 rfl) ?_
  refine lv_iload hx hb dL_law_1208 (lv_at hl 0 rfl) ?_
  refine lv_iconst (v := 2) hx hb dL_law_1210 (by decide) ?_
  refine lv_iadd hx hb dL_law_1211 ?_
  refine z_i (v := 2) (by decide +kernel) ?_
  refine va_sld hx hb hX hbl hbA w.2.2 (i := 2) (by decide) dL_law_1212 ?_
  refine z_i (v := (xs 2)) rfl ?_
  refine lv_aload_n hx hb dL_law_1213 rfl (lv_at hl 1 rfl) ?_
  refine fin_i C w (run_H C w mh_L_204 (k150_home C.b0 n0 n107 n1 n2 n3 n7 n8 n12 n16 n21 n22 n37 ((xs 1)) ((xs 2)) g0 H.size) [0] rfl rfl (by decide) rfl hl.1 rfl (Nat.le_of_ble_eq_true rfl) dL_law_1214 (cells2 := 109) (slots2 := 210178) (by decide)) [0] [1] rfl rfl (by decide) (cells2 := 109) (slots2 := 210178) (by decide) (fun u1 H locs w => ?_)
  have w : Wd s G A [(n64, .inr (12, [.int 0, .int 0, .int 0, .int 0, .int 0, .int 0, .int 0, .int (-1), .ref n65, .ref n66, .ref n67, .int 0, .ref n68, .ref n69, .ref n70, .ref n71, .ref n72, .ref n73, .ref n74, .int 0, .ref n75, .ref n76, .ref n77, .ref n78, .ref n79, .ref n80, .ref n81, .int 0, .int (-1), .int 0, .ref n82, .ref n83, .ref n84, .ref n85, .ref n86, .ref n87, .ref n88, .ref n89, .int 0, .ref n90, .ref n91, .ref n92, .ref n93, .ref n94, .int 0, .ref n95, .ref n96, .ref n97, .ref n98, .int 0, .ref n99, .ref n100, .ref n101, .ref n102, .int 0, .int 0, .ref n103, .ref n104, .ref n105, .ref n106])), (n0, .inr (11, [.ref n1, .ref n2, .ref n3, .ref n7, .ref n8, .ref n12, .ref n16, .ref n21, .ref n22, .ref n37, .int 0, .int (-1), .int 0, .int 0, .null, .null, .null, .null, .null]))] H locs := w
  refine lv_istore (lv' := [(5, .int 1), (4, .int 0), (3, .ref n107), (2, .ref n64), (1, .ref n0), (0, .ref b)]) hx hb dL_law_1217 hl (by decide) rfl (fun ls hl => ?_)
  refine lv_aload_n hx hb dL_law_1219 rfl (lv_at hl 3 rfl) ?_
  refine lv_aload_n hx hb dL_law_1220 rfl (lv_at hl 5 rfl) ?_
  refine lv_iload hx hb dL_law_1221 (lv_at hl 1 rfl) ?_
  refine lv_iconst (v := 1) hx hb dL_law_1223 (by decide) ?_
  refine lv_iadd hx hb dL_law_1224 ?_
  refine z_i (v := 1) (by decide +kernel) ?_
  refine va_sld hx hb hX hbl hbA w.2.2 (i := 1) (by decide) dL_law_1225 ?_
  refine z_i (v := (xs 1)) rfl ?_
  refine lv_aload_n hx hb dL_law_1226 rfl (lv_at hl 5 rfl) ?_
  refine lv_iload hx hb dL_law_1227 (lv_at hl 1 rfl) ?_
  refine lv_iconst (v := 2) hx hb dL_law_1229 (by decide) ?_
  refine lv_iadd hx hb dL_law_1230 ?_
  refine z_i (v := 2) (by decide +kernel) ?_
  refine va_sld hx hb hX hbl hbA w.2.2 (i := 2) (by decide) dL_law_1231 ?_
  refine z_i (v := (xs 2)) rfl ?_
  refine fin_i C w (run_V C w mv_L_206 (k151_home C.b0 n64 n65 n66 n67 n68 n69 n70 n71 n72 n73 n74 n75 n76 n77 n78 n79 n80 n81 n82 n83 n84 n85 n86 n87 n88 n89 n90 n91 n92 n93 n94 n95 n96 n97 n98 n99 n100 n101 n102 n103 n104 n105 n106 ((xs 1)) ((xs 2)) g0 H.size) [0] rfl rfl 0 rfl rfl (by decide) rfl hl.1 rfl (Nat.le_of_ble_eq_true rfl) dL_law_1232 (cells2 := 109) (slots2 := 210178) (by decide)) [0] [1] rfl rfl (by decide) (cells2 := 109) (slots2 := 210178) (by decide) (fun u2 H locs w => ?_)
  have w : Wd s G A [(n0, .inr (11, [.ref n1, .ref n2, .ref n3, .ref n7, .ref n8, .ref n12, .ref n16, .ref n21, .ref n22, .ref n37, .int 0, .int (-1), .int 0, .int 0, .null, .null, .null, .null, .null])), (n64, .inr (12, [.int 1, .int 0, .int 0, .int 0, .int 0, .int 0, .int 0, .int (-1), .ref n65, .ref n66, .ref n67, .int 0, .ref n68, .ref n69, .ref n70, .ref n71, .ref n72, .ref n73, .ref n74, .int 0, .ref n75, .ref n76, .ref n77, .ref n78, .ref n79, .ref n80, .ref n81, .int 0, .int (-1), .int 0, .ref n82, .ref n83, .ref n84, .ref n85, .ref n86, .ref n87, .ref n88, .ref n89, .int 0, .ref n90, .ref n91, .ref n92, .ref n93, .ref n94, .int 0, .ref n95, .ref n96, .ref n97, .ref n98, .int 0, .ref n99, .ref n100, .ref n101, .ref n102, .int 0, .int 0, .ref n103, .ref n104, .ref n105, .ref n106]))] H locs := w
  refine lv_istore (lv' := [(6, .int 0), (5, .int 1), (4, .int 0), (3, .ref n107), (2, .ref n64), (1, .ref n0), (0, .ref b)]) hx hb dL_law_1235 hl (by decide) rfl (fun ls hl => ?_)
  refine lv_aload_n hx hb dL_law_1237 rfl (lv_at hl 4 rfl) ?_
  refine fin_i C w (run_V C w mv_L_150 (k20_thrown C.b0 n64 n65 n66 n67 n68 n69 n70 n71 n72 n73 n74 n75 n76 n77 n78 n79 n80 n81 n82 n83 n84 n85 n86 n87 n88 n89 n90 n91 n92 n93 n94 n95 n96 n97 n98 n99 n100 n101 n102 n103 n104 n105 n106 H.size) [1] rfl rfl 1 rfl rfl (by decide) rfl hl.1 rfl (Nat.le_of_ble_eq_true rfl) dL_law_1238 (cells2 := 109) (slots2 := 210178) (by decide)) [1] [0] rfl rfl (by decide) (cells2 := 109) (slots2 := 210178) (by decide) (fun u3 H locs w => ?_)
  have w : Wd s G A [(n0, .inr (11, [.ref n1, .ref n2, .ref n3, .ref n7, .ref n8, .ref n12, .ref n16, .ref n21, .ref n22, .ref n37, .int 0, .int (-1), .int 0, .int 0, .null, .null, .null, .null, .null])), (n64, .inr (12, [.int 1, .int 0, .int 0, .int 0, .int 0, .int 0, .int 0, .int (-1), .ref n65, .ref n66, .ref n67, .int 0, .ref n68, .ref n69, .ref n70, .ref n71, .ref n72, .ref n73, .ref n74, .int 0, .ref n75, .ref n76, .ref n77, .ref n78, .ref n79, .ref n80, .ref n81, .int 0, .int (-1), .int 0, .ref n82, .ref n83, .ref n84, .ref n85, .ref n86, .ref n87, .ref n88, .ref n89, .int 0, .ref n90, .ref n91, .ref n92, .ref n93, .ref n94, .int 0, .ref n95, .ref n96, .ref n97, .ref n98, .int 0, .ref n99, .ref n100, .ref n101, .ref n102, .int 0, .int 0, .ref n103, .ref n104, .ref n105, .ref n106]))] H locs := w
  refine lv_iload hx hb dL_law_1241 (lv_at hl 1 rfl) ?_
  refine lv_icmp_eq (tgt := 1248) hx hb dL_law_1243 (by decide) (fun _ => ?_) (fun h => absurd (by decide) h)
  refine lv_iload hx hb dL_law_1248 (lv_at hl 1 rfl) ?_
  refine lv_if_ne (tgt := 1265) hx hb dL_law_1250 (by decide) (fun _ => ?_) (fun h => h.elim (by decide))
  refine lv_goto (tgt := 3027) hx hb dL_law_1265 (by decide) ?_
  exact lc_end C hr hX hbl hbA w (lv_sub hl [2, 6] rfl) (by decide) (by decide)
set_option maxRecDepth 100000 in
set_option maxHeartbeats 4000000 in
theorem lc_17_1 {l : Launch} {G : GT} {p : Program} {e : Env} {s : State} {m : MethodId} {below : List Frame} {meth : Method} {c : Code} {A : Nat → Prop} {b : Nat} {xs : Nat → Int32} (C : Cx l s #[Value.ref b] G p s m #[Value.ref b] meth c RL cL_law 8 "law" A) (hr : meth.sig.returnType = some .boolean) (hX : va_X b 6 xs s s.heap) (hbl : b < s.heap.size) (hbA : ¬ A b) (n0 n1 n2 n3 n7 n8 n12 n16 n21 n22 n37 n64 n65 n66 n67 n68 n69 n70 n71 n72 n73 n74 n75 n76 n77 n78 n79 n80 n81 n82 n83 n84 n85 n86 n87 n88 n89 n90 n91 n92 n93 n94 n95 n96 n97 n98 n99 n100 n101 n102 n103 n104 n105 n106 n107 : Nat) (g0 : ¬ (xs 1) < 1) (g1 : 3000 < (xs 1)) {H : Heap} {locs : List Loc} {ls : Array Slot} (w : Wd s G A [(n0, .inr (11, [.ref n1, .ref n2, .ref n3, .ref n7, .ref n8, .ref n12, .ref n16, .ref n21, .ref n22, .ref n37, .int 0, .int (-1), .int 0, .int 0, .null, .null, .null, .null, .null])), (n64, .inr (12, [.int 0, .int 0, .int 0, .int 0, .int 0, .int 0, .int 0, .int (-1), .ref n65, .ref n66, .ref n67, .int 0, .ref n68, .ref n69, .ref n70, .ref n71, .ref n72, .ref n73, .ref n74, .int 0, .ref n75, .ref n76, .ref n77, .ref n78, .ref n79, .ref n80, .ref n81, .int 0, .int (-1), .int 0, .ref n82, .ref n83, .ref n84, .ref n85, .ref n86, .ref n87, .ref n88, .ref n89, .int 0, .ref n90, .ref n91, .ref n92, .ref n93, .ref n94, .int 0, .ref n95, .ref n96, .ref n97, .ref n98, .int 0, .ref n99, .ref n100, .ref n101, .ref n102, .int 0, .int 0, .ref n103, .ref n104, .ref n105, .ref n106]))] H locs) (hl : lv_has ls 8 [(4, .int 0), (3, .ref n107), (2, .ref n64), (1, .ref n0), (0, .ref b)]) : W p l e room_1 s m #[Value.ref b] below meth c H locs 108 210172 (lw_Z below #[Value.ref b] s) (F0 m 1200 ls []) := by
  have hx := C.hx
  have hb := C.hb
  refine lv_aload_n hx hb dL_law_1200 rfl (lv_at hl 3 rfl) ?_
  refine lv_aload_n hx hb dL_law_1201 rfl (lv_at hl 4 rfl) ?_
  refine lv_iload hx hb dL_law_1202 (lv_at hl 0 rfl) ?_
  refine lv_iconst (v := 1) hx hb dL_law_1204 (by decide) ?_
  refine lv_iadd hx hb dL_law_1205 ?_
  refine z_i (v := 1) (by decide +kernel) ?_
  refine va_sld hx hb hX hbl hbA w.2.2 (i := 1) (by decide) dL_law_1206 ?_
  refine z_i (v := (xs 1)) rfl ?_
  refine lv_aload_n hx hb dL_law_1207 rfl (lv_at hl 4 rfl) ?_
  refine lv_iload hx hb dL_law_1208 (lv_at hl 0 rfl) ?_
  refine lv_iconst (v := 2) hx hb dL_law_1210 (by decide) ?_
  refine lv_iadd hx hb dL_law_1211 ?_
  refine z_i (v := 2) (by decide +kernel) ?_
  refine va_sld hx hb hX hbl hbA w.2.2 (i := 2) (by decide) dL_law_1212 ?_
  refine z_i (v := (xs 2)) rfl ?_
  refine lv_aload_n hx hb dL_law_1213 rfl (lv_at hl 1 rfl) ?_
  refine fin_i C w (run_H C w mh_L_204 (k153_home C.b0 n0 n107 n1 n2 n3 n7 n8 n12 n16 n21 n22 n37 ((xs 1)) ((xs 2)) g1 g0 H.size) [0] rfl rfl (by decide) rfl hl.1 rfl (Nat.le_of_ble_eq_true rfl) dL_law_1214 (cells2 := 109) (slots2 := 210178) (by decide)) [0] [1] rfl rfl (by decide) (cells2 := 109) (slots2 := 210178) (by decide) (fun u1 H locs w => ?_)
  have w : Wd s G A [(n64, .inr (12, [.int 0, .int 0, .int 0, .int 0, .int 0, .int 0, .int 0, .int (-1), .ref n65, .ref n66, .ref n67, .int 0, .ref n68, .ref n69, .ref n70, .ref n71, .ref n72, .ref n73, .ref n74, .int 0, .ref n75, .ref n76, .ref n77, .ref n78, .ref n79, .ref n80, .ref n81, .int 0, .int (-1), .int 0, .ref n82, .ref n83, .ref n84, .ref n85, .ref n86, .ref n87, .ref n88, .ref n89, .int 0, .ref n90, .ref n91, .ref n92, .ref n93, .ref n94, .int 0, .ref n95, .ref n96, .ref n97, .ref n98, .int 0, .ref n99, .ref n100, .ref n101, .ref n102, .int 0, .int 0, .ref n103, .ref n104, .ref n105, .ref n106])), (n0, .inr (11, [.ref n1, .ref n2, .ref n3, .ref n7, .ref n8, .ref n12, .ref n16, .ref n21, .ref n22, .ref n37, .int 0, .int (-1), .int 0, .int 0, .null, .null, .null, .null, .null]))] H locs := w
  refine lv_istore (lv' := [(5, .int 1), (4, .int 0), (3, .ref n107), (2, .ref n64), (1, .ref n0), (0, .ref b)]) hx hb dL_law_1217 hl (by decide) rfl (fun ls hl => ?_)
  refine lv_aload_n hx hb dL_law_1219 rfl (lv_at hl 3 rfl) ?_
  refine lv_aload_n hx hb dL_law_1220 rfl (lv_at hl 5 rfl) ?_
  refine lv_iload hx hb dL_law_1221 (lv_at hl 1 rfl) ?_
  refine lv_iconst (v := 1) hx hb dL_law_1223 (by decide) ?_
  refine lv_iadd hx hb dL_law_1224 ?_
  refine z_i (v := 1) (by decide +kernel) ?_
  refine va_sld hx hb hX hbl hbA w.2.2 (i := 1) (by decide) dL_law_1225 ?_
  refine z_i (v := (xs 1)) rfl ?_
  refine lv_aload_n hx hb dL_law_1226 rfl (lv_at hl 5 rfl) ?_
  refine lv_iload hx hb dL_law_1227 (lv_at hl 1 rfl) ?_
  refine lv_iconst (v := 2) hx hb dL_law_1229 (by decide) ?_
  refine lv_iadd hx hb dL_law_1230 ?_
  refine z_i (v := 2) (by decide +kernel) ?_
  refine va_sld hx hb hX hbl hbA w.2.2 (i := 2) (by decide) dL_law_1231 ?_
  refine z_i (v := (xs 2)) rfl ?_
  refine fin_i C w (run_V C w mv_L_206 (k154_home C.b0 n64 n65 n66 n67 n68 n69 n70 n71 n72 n73 n74 n75 n76 n77 n78 n79 n80 n81 n82 n83 n84 n85 n86 n87 n88 n89 n90 n91 n92 n93 n94 n95 n96 n97 n98 n99 n100 n101 n102 n103 n104 n105 n106 ((xs 1)) ((xs 2)) g1 g0 H.size) [0] rfl rfl 0 rfl rfl (by decide) rfl hl.1 rfl (Nat.le_of_ble_eq_true rfl) dL_law_1232 (cells2 := 109) (slots2 := 210178) (by decide)) [0] [1] rfl rfl (by decide) (cells2 := 109) (slots2 := 210178) (by decide) (fun u2 H locs w => ?_)
  have w : Wd s G A [(n0, .inr (11, [.ref n1, .ref n2, .ref n3, .ref n7, .ref n8, .ref n12, .ref n16, .ref n21, .ref n22, .ref n37, .int 0, .int (-1), .int 0, .int 0, .null, .null, .null, .null, .null])), (n64, .inr (12, [.int 1, .int 0, .int 0, .int 0, .int 0, .int 0, .int 0, .int (-1), .ref n65, .ref n66, .ref n67, .int 0, .ref n68, .ref n69, .ref n70, .ref n71, .ref n72, .ref n73, .ref n74, .int 0, .ref n75, .ref n76, .ref n77, .ref n78, .ref n79, .ref n80, .ref n81, .int 0, .int (-1), .int 0, .ref n82, .ref n83, .ref n84, .ref n85, .ref n86, .ref n87, .ref n88, .ref n89, .int 0, .ref n90, .ref n91, .ref n92, .ref n93, .ref n94, .int 0, .ref n95, .ref n96, .ref n97, .ref n98, .int 0, .ref n99, .ref n100, .ref n101, .ref n102, .int 0, .int 0, .ref n103, .ref n104, .ref n105, .ref n106]))] H locs := w
  refine lv_istore (lv' := [(6, .int 0), (5, .int 1), (4, .int 0), (3, .ref n107), (2, .ref n64), (1, .ref n0), (0, .ref b)]) hx hb dL_law_1235 hl (by decide) rfl (fun ls hl => ?_)
  refine lv_aload_n hx hb dL_law_1237 rfl (lv_at hl 4 rfl) ?_
  refine fin_i C w (run_V C w mv_L_150 (k20_thrown C.b0 n64 n65 n66 n67 n68 n69 n70 n71 n72 n73 n74 n75 n76 n77 n78 n79 n80 n81 n82 n83 n84 n85 n86 n87 n88 n89 n90 n91 n92 n93 n94 n95 n96 n97 n98 n99 n100 n101 n102 n103 n104 n105 n106 H.size) [1] rfl rfl 1 rfl rfl (by decide) rfl hl.1 rfl (Nat.le_of_ble_eq_true rfl) dL_law_1238 (cells2 := 109) (slots2 := 210178) (by decide)) [1] [0] rfl rfl (by decide) (cells2 := 109) (slots2 := 210178) (by decide) (fun u3 H locs w => ?_)
  have w : Wd s G A [(n0, .inr (11, [.ref n1, .ref n2, .ref n3, .ref n7, .ref n8, .ref n12, .ref n16, .ref n21, .ref n22, .ref n37, .int 0, .int (-1), .int 0, .int 0, .null, .null, .null, .null, .null])), (n64, .inr (12, [.int 1, .int 0, .int 0, .int 0, .int 0, .int 0, .int 0, .int (-1), .ref n65, .ref n66, .ref n67, .int 0, .ref n68, .ref n69, .ref n70, .ref n71, .ref n72, .ref n73, .ref n74, .int 0, .ref n75, .ref n76, .ref n77, .ref n78, .ref n79, .ref n80, .ref n81, .int 0, .int (-1), .int 0, .ref n82, .ref n83, .ref n84, .ref n85, .ref n86, .ref n87, .ref n88, .ref n89, .int 0, .ref n90, .ref n91, .ref n92, .ref n93, .ref n94, .int 0, .ref n95, .ref n96, .ref n97, .ref n98, .int 0, .ref n99, .ref n100, .ref n101, .ref n102, .int 0, .int 0, .ref n103, .ref n104, .ref n105, .ref n106]))] H locs := w
  refine lv_iload hx hb dL_law_1241 (lv_at hl 1 rfl) ?_
  refine lv_icmp_eq (tgt := 1248) hx hb dL_law_1243 (by decide) (fun _ => ?_) (fun h => absurd (by decide) h)
  refine lv_iload hx hb dL_law_1248 (lv_at hl 1 rfl) ?_
  refine lv_if_ne (tgt := 1265) hx hb dL_law_1250 (by decide) (fun _ => ?_) (fun h => h.elim (by decide))
  refine lv_goto (tgt := 3027) hx hb dL_law_1265 (by decide) ?_
  exact lc_end C hr hX hbl hbA w (lv_sub hl [2, 6] rfl) (by decide) (by decide)
set_option maxRecDepth 100000 in
set_option maxHeartbeats 4000000 in
theorem lc_17_2 {l : Launch} {G : GT} {p : Program} {e : Env} {s : State} {m : MethodId} {below : List Frame} {meth : Method} {c : Code} {A : Nat → Prop} {b : Nat} {xs : Nat → Int32} (C : Cx l s #[Value.ref b] G p s m #[Value.ref b] meth c RL cL_law 8 "law" A) (hr : meth.sig.returnType = some .boolean) (hX : va_X b 6 xs s s.heap) (hbl : b < s.heap.size) (hbA : ¬ A b) (n0 n1 n2 n3 n7 n8 n12 n16 n21 n22 n37 n64 n65 n66 n67 n68 n69 n70 n71 n72 n73 n74 n75 n76 n77 n78 n79 n80 n81 n82 n83 n84 n85 n86 n87 n88 n89 n90 n91 n92 n93 n94 n95 n96 n97 n98 n99 n100 n101 n102 n103 n104 n105 n106 n107 : Nat) (g0 : ¬ (xs 1) < 1) (g1 : ¬ 3000 < (xs 1)) (g2 : (xs 2) < 0) {H : Heap} {locs : List Loc} {ls : Array Slot} (w : Wd s G A [(n0, .inr (11, [.ref n1, .ref n2, .ref n3, .ref n7, .ref n8, .ref n12, .ref n16, .ref n21, .ref n22, .ref n37, .int 0, .int (-1), .int 0, .int 0, .null, .null, .null, .null, .null])), (n64, .inr (12, [.int 0, .int 0, .int 0, .int 0, .int 0, .int 0, .int 0, .int (-1), .ref n65, .ref n66, .ref n67, .int 0, .ref n68, .ref n69, .ref n70, .ref n71, .ref n72, .ref n73, .ref n74, .int 0, .ref n75, .ref n76, .ref n77, .ref n78, .ref n79, .ref n80, .ref n81, .int 0, .int (-1), .int 0, .ref n82, .ref n83, .ref n84, .ref n85, .ref n86, .ref n87, .ref n88, .ref n89, .int 0, .ref n90, .ref n91, .ref n92, .ref n93, .ref n94, .int 0, .ref n95, .ref n96, .ref n97, .ref n98, .int 0, .ref n99, .ref n100, .ref n101, .ref n102, .int 0, .int 0, .ref n103, .ref n104, .ref n105, .ref n106]))] H locs) (hl : lv_has ls 8 [(4, .int 0), (3, .ref n107), (2, .ref n64), (1, .ref n0), (0, .ref b)]) : W p l e room_1 s m #[Value.ref b] below meth c H locs 108 210172 (lw_Z below #[Value.ref b] s) (F0 m 1200 ls []) := by
  have hx := C.hx
  have hb := C.hb
  refine lv_aload_n hx hb dL_law_1200 rfl (lv_at hl 3 rfl) ?_
  refine lv_aload_n hx hb dL_law_1201 rfl (lv_at hl 4 rfl) ?_
  refine lv_iload hx hb dL_law_1202 (lv_at hl 0 rfl) ?_
  refine lv_iconst (v := 1) hx hb dL_law_1204 (by decide) ?_
  refine lv_iadd hx hb dL_law_1205 ?_
  refine z_i (v := 1) (by decide +kernel) ?_
  refine va_sld hx hb hX hbl hbA w.2.2 (i := 1) (by decide) dL_law_1206 ?_
  refine z_i (v := (xs 1)) rfl ?_
  refine lv_aload_n hx hb dL_law_1207 rfl (lv_at hl 4 rfl) ?_
  refine lv_iload hx hb dL_law_1208 (lv_at hl 0 rfl) ?_
  refine lv_iconst (v := 2) hx hb dL_law_1210 (by decide) ?_
  refine lv_iadd hx hb dL_law_1211 ?_
  refine z_i (v := 2) (by decide +kernel) ?_
  refine va_sld hx hb hX hbl hbA w.2.2 (i := 2) (by decide) dL_law_1212 ?_
  refine z_i (v := (xs 2)) rfl ?_
  refine lv_aload_n hx hb dL_law_1213 rfl (lv_at hl 1 rfl) ?_
  refine fin_i C w (run_H C w mh_L_204 (k157_home C.b0 n0 n107 n1 n2 n3 n7 n8 n12 n16 n21 n22 n37 ((xs 1)) ((xs 2)) g1 g0 g2 H.size) [0] rfl rfl (by decide) rfl hl.1 rfl (Nat.le_of_ble_eq_true rfl) dL_law_1214 (cells2 := 109) (slots2 := 210178) (by decide)) [0] [1] rfl rfl (by decide) (cells2 := 109) (slots2 := 210178) (by decide) (fun u1 H locs w => ?_)
  have w : Wd s G A [(n64, .inr (12, [.int 0, .int 0, .int 0, .int 0, .int 0, .int 0, .int 0, .int (-1), .ref n65, .ref n66, .ref n67, .int 0, .ref n68, .ref n69, .ref n70, .ref n71, .ref n72, .ref n73, .ref n74, .int 0, .ref n75, .ref n76, .ref n77, .ref n78, .ref n79, .ref n80, .ref n81, .int 0, .int (-1), .int 0, .ref n82, .ref n83, .ref n84, .ref n85, .ref n86, .ref n87, .ref n88, .ref n89, .int 0, .ref n90, .ref n91, .ref n92, .ref n93, .ref n94, .int 0, .ref n95, .ref n96, .ref n97, .ref n98, .int 0, .ref n99, .ref n100, .ref n101, .ref n102, .int 0, .int 0, .ref n103, .ref n104, .ref n105, .ref n106])), (n0, .inr (11, [.ref n1, .ref n2, .ref n3, .ref n7, .ref n8, .ref n12, .ref n16, .ref n21, .ref n22, .ref n37, .int 0, .int (-1), .int 0, .int 0, .null, .null, .null, .null, .null]))] H locs := w
  refine lv_istore (lv' := [(5, .int 1), (4, .int 0), (3, .ref n107), (2, .ref n64), (1, .ref n0), (0, .ref b)]) hx hb dL_law_1217 hl (by decide) rfl (fun ls hl => ?_)
  refine lv_aload_n hx hb dL_law_1219 rfl (lv_at hl 3 rfl) ?_
  refine lv_aload_n hx hb dL_law_1220 rfl (lv_at hl 5 rfl) ?_
  refine lv_iload hx hb dL_law_1221 (lv_at hl 1 rfl) ?_
  refine lv_iconst (v := 1) hx hb dL_law_1223 (by decide) ?_
  refine lv_iadd hx hb dL_law_1224 ?_
  refine z_i (v := 1) (by decide +kernel) ?_
  refine va_sld hx hb hX hbl hbA w.2.2 (i := 1) (by decide) dL_law_1225 ?_
  refine z_i (v := (xs 1)) rfl ?_
  refine lv_aload_n hx hb dL_law_1226 rfl (lv_at hl 5 rfl) ?_
  refine lv_iload hx hb dL_law_1227 (lv_at hl 1 rfl) ?_
  refine lv_iconst (v := 2) hx hb dL_law_1229 (by decide) ?_
  refine lv_iadd hx hb dL_law_1230 ?_
  refine z_i (v := 2) (by decide +kernel) ?_
  refine va_sld hx hb hX hbl hbA w.2.2 (i := 2) (by decide) dL_law_1231 ?_
  refine z_i (v := (xs 2)) rfl ?_
  refine fin_i C w (run_V C w mv_L_206 (k159_home C.b0 n64 n65 n66 n67 n68 n69 n70 n71 n72 n73 n74 n75 n76 n77 n78 n79 n80 n81 n82 n83 n84 n85 n86 n87 n88 n89 n90 n91 n92 n93 n94 n95 n96 n97 n98 n99 n100 n101 n102 n103 n104 n105 n106 ((xs 1)) ((xs 2)) g1 g0 g2 H.size) [0] rfl rfl 0 rfl rfl (by decide) rfl hl.1 rfl (Nat.le_of_ble_eq_true rfl) dL_law_1232 (cells2 := 109) (slots2 := 210178) (by decide)) [0] [1] rfl rfl (by decide) (cells2 := 109) (slots2 := 210178) (by decide) (fun u2 H locs w => ?_)
  have w : Wd s G A [(n0, .inr (11, [.ref n1, .ref n2, .ref n3, .ref n7, .ref n8, .ref n12, .ref n16, .ref n21, .ref n22, .ref n37, .int 0, .int (-1), .int 0, .int 0, .null, .null, .null, .null, .null])), (n64, .inr (12, [.int 1, .int 0, .int 0, .int 0, .int 0, .int 0, .int 0, .int (-1), .ref n65, .ref n66, .ref n67, .int 0, .ref n68, .ref n69, .ref n70, .ref n71, .ref n72, .ref n73, .ref n74, .int 0, .ref n75, .ref n76, .ref n77, .ref n78, .ref n79, .ref n80, .ref n81, .int 0, .int (-1), .int 0, .ref n82, .ref n83, .ref n84, .ref n85, .ref n86, .ref n87, .ref n88, .ref n89, .int 0, .ref n90, .ref n91, .ref n92, .ref n93, .ref n94, .int 0, .ref n95, .ref n96, .ref n97, .ref n98, .int 0, .ref n99, .ref n100, .ref n101, .ref n102, .int 0, .int 0, .ref n103, .ref n104, .ref n105, .ref n106]))] H locs := w
  refine lv_istore (lv' := [(6, .int 0), (5, .int 1), (4, .int 0), (3, .ref n107), (2, .ref n64), (1, .ref n0), (0, .ref b)]) hx hb dL_law_1235 hl (by decide) rfl (fun ls hl => ?_)
  refine lv_aload_n hx hb dL_law_1237 rfl (lv_at hl 4 rfl) ?_
  refine fin_i C w (run_V C w mv_L_150 (k20_thrown C.b0 n64 n65 n66 n67 n68 n69 n70 n71 n72 n73 n74 n75 n76 n77 n78 n79 n80 n81 n82 n83 n84 n85 n86 n87 n88 n89 n90 n91 n92 n93 n94 n95 n96 n97 n98 n99 n100 n101 n102 n103 n104 n105 n106 H.size) [1] rfl rfl 1 rfl rfl (by decide) rfl hl.1 rfl (Nat.le_of_ble_eq_true rfl) dL_law_1238 (cells2 := 109) (slots2 := 210178) (by decide)) [1] [0] rfl rfl (by decide) (cells2 := 109) (slots2 := 210178) (by decide) (fun u3 H locs w => ?_)
  have w : Wd s G A [(n0, .inr (11, [.ref n1, .ref n2, .ref n3, .ref n7, .ref n8, .ref n12, .ref n16, .ref n21, .ref n22, .ref n37, .int 0, .int (-1), .int 0, .int 0, .null, .null, .null, .null, .null])), (n64, .inr (12, [.int 1, .int 0, .int 0, .int 0, .int 0, .int 0, .int 0, .int (-1), .ref n65, .ref n66, .ref n67, .int 0, .ref n68, .ref n69, .ref n70, .ref n71, .ref n72, .ref n73, .ref n74, .int 0, .ref n75, .ref n76, .ref n77, .ref n78, .ref n79, .ref n80, .ref n81, .int 0, .int (-1), .int 0, .ref n82, .ref n83, .ref n84, .ref n85, .ref n86, .ref n87, .ref n88, .ref n89, .int 0, .ref n90, .ref n91, .ref n92, .ref n93, .ref n94, .int 0, .ref n95, .ref n96, .ref n97, .ref n98, .int 0, .ref n99, .ref n100, .ref n101, .ref n102, .int 0, .int 0, .ref n103, .ref n104, .ref n105, .ref n106]))] H locs := w
  refine lv_iload hx hb dL_law_1241 (lv_at hl 1 rfl) ?_
  refine lv_icmp_eq (tgt := 1248) hx hb dL_law_1243 (by decide) (fun _ => ?_) (fun h => absurd (by decide) h)
  refine lv_iload hx hb dL_law_1248 (lv_at hl 1 rfl) ?_
  refine lv_if_ne (tgt := 1265) hx hb dL_law_1250 (by decide) (fun _ => ?_) (fun h => h.elim (by decide))
  refine lv_goto (tgt := 3027) hx hb dL_law_1265 (by decide) ?_
  exact lc_end C hr hX hbl hbA w (lv_sub hl [2, 6] rfl) (by decide) (by decide)
set_option maxRecDepth 100000 in
set_option maxHeartbeats 4000000 in
theorem lc_17_3 {l : Launch} {G : GT} {p : Program} {e : Env} {s : State} {m : MethodId} {below : List Frame} {meth : Method} {c : Code} {A : Nat → Prop} {b : Nat} {xs : Nat → Int32} (C : Cx l s #[Value.ref b] G p s m #[Value.ref b] meth c RL cL_law 8 "law" A) (hr : meth.sig.returnType = some .boolean) (hX : va_X b 6 xs s s.heap) (hbl : b < s.heap.size) (hbA : ¬ A b) (n0 n1 n2 n3 n7 n8 n12 n16 n21 n22 n37 n64 n65 n66 n67 n68 n69 n70 n71 n72 n73 n74 n75 n76 n77 n78 n79 n80 n81 n82 n83 n84 n85 n86 n87 n88 n89 n90 n91 n92 n93 n94 n95 n96 n97 n98 n99 n100 n101 n102 n103 n104 n105 n106 n107 : Nat) (g0 : ¬ (xs 1) < 1) (g1 : ¬ 3000 < (xs 1)) (g2 : ¬ (xs 2) < 0) (g3 : 2 < (xs 2)) {H : Heap} {locs : List Loc} {ls : Array Slot} (w : Wd s G A [(n0, .inr (11, [.ref n1, .ref n2, .ref n3, .ref n7, .ref n8, .ref n12, .ref n16, .ref n21, .ref n22, .ref n37, .int 0, .int (-1), .int 0, .int 0, .null, .null, .null, .null, .null])), (n64, .inr (12, [.int 0, .int 0, .int 0, .int 0, .int 0, .int 0, .int 0, .int (-1), .ref n65, .ref n66, .ref n67, .int 0, .ref n68, .ref n69, .ref n70, .ref n71, .ref n72, .ref n73, .ref n74, .int 0, .ref n75, .ref n76, .ref n77, .ref n78, .ref n79, .ref n80, .ref n81, .int 0, .int (-1), .int 0, .ref n82, .ref n83, .ref n84, .ref n85, .ref n86, .ref n87, .ref n88, .ref n89, .int 0, .ref n90, .ref n91, .ref n92, .ref n93, .ref n94, .int 0, .ref n95, .ref n96, .ref n97, .ref n98, .int 0, .ref n99, .ref n100, .ref n101, .ref n102, .int 0, .int 0, .ref n103, .ref n104, .ref n105, .ref n106]))] H locs) (hl : lv_has ls 8 [(4, .int 0), (3, .ref n107), (2, .ref n64), (1, .ref n0), (0, .ref b)]) : W p l e room_1 s m #[Value.ref b] below meth c H locs 108 210172 (lw_Z below #[Value.ref b] s) (F0 m 1200 ls []) := by
  have hx := C.hx
  have hb := C.hb
  refine lv_aload_n hx hb dL_law_1200 rfl (lv_at hl 3 rfl) ?_
  refine lv_aload_n hx hb dL_law_1201 rfl (lv_at hl 4 rfl) ?_
  refine lv_iload hx hb dL_law_1202 (lv_at hl 0 rfl) ?_
  refine lv_iconst (v := 1) hx hb dL_law_1204 (by decide) ?_
  refine lv_iadd hx hb dL_law_1205 ?_
  refine z_i (v := 1) (by decide +kernel) ?_
  refine va_sld hx hb hX hbl hbA w.2.2 (i := 1) (by decide) dL_law_1206 ?_
  refine z_i (v := (xs 1)) rfl ?_
  refine lv_aload_n hx hb dL_law_1207 rfl (lv_at hl 4 rfl) ?_
  refine lv_iload hx hb dL_law_1208 (lv_at hl 0 rfl) ?_
  refine lv_iconst (v := 2) hx hb dL_law_1210 (by decide) ?_
  refine lv_iadd hx hb dL_law_1211 ?_
  refine z_i (v := 2) (by decide +kernel) ?_
  refine va_sld hx hb hX hbl hbA w.2.2 (i := 2) (by decide) dL_law_1212 ?_
  refine z_i (v := (xs 2)) rfl ?_
  refine lv_aload_n hx hb dL_law_1213 rfl (lv_at hl 1 rfl) ?_
  refine fin_i C w (run_H C w mh_L_204 (k162_home C.b0 n0 n107 n1 n2 n3 n7 n8 n12 n16 n21 n22 n37 ((xs 1)) ((xs 2)) g3 g1 g0 g2 H.size) [0] rfl rfl (by decide) rfl hl.1 rfl (Nat.le_of_ble_eq_true rfl) dL_law_1214 (cells2 := 109) (slots2 := 210178) (by decide)) [0] [1] rfl rfl (by decide) (cells2 := 109) (slots2 := 210178) (by decide) (fun u1 H locs w => ?_)
  have w : Wd s G A [(n64, .inr (12, [.int 0, .int 0, .int 0, .int 0, .int 0, .int 0, .int 0, .int (-1), .ref n65, .ref n66, .ref n67, .int 0, .ref n68, .ref n69, .ref n70, .ref n71, .ref n72, .ref n73, .ref n74, .int 0, .ref n75, .ref n76, .ref n77, .ref n78, .ref n79, .ref n80, .ref n81, .int 0, .int (-1), .int 0, .ref n82, .ref n83, .ref n84, .ref n85, .ref n86, .ref n87, .ref n88, .ref n89, .int 0, .ref n90, .ref n91, .ref n92, .ref n93, .ref n94, .int 0, .ref n95, .ref n96, .ref n97, .ref n98, .int 0, .ref n99, .ref n100, .ref n101, .ref n102, .int 0, .int 0, .ref n103, .ref n104, .ref n105, .ref n106])), (n0, .inr (11, [.ref n1, .ref n2, .ref n3, .ref n7, .ref n8, .ref n12, .ref n16, .ref n21, .ref n22, .ref n37, .int 0, .int (-1), .int 0, .int 0, .null, .null, .null, .null, .null]))] H locs := w
  refine lv_istore (lv' := [(5, .int 1), (4, .int 0), (3, .ref n107), (2, .ref n64), (1, .ref n0), (0, .ref b)]) hx hb dL_law_1217 hl (by decide) rfl (fun ls hl => ?_)
  refine lv_aload_n hx hb dL_law_1219 rfl (lv_at hl 3 rfl) ?_
  refine lv_aload_n hx hb dL_law_1220 rfl (lv_at hl 5 rfl) ?_
  refine lv_iload hx hb dL_law_1221 (lv_at hl 1 rfl) ?_
  refine lv_iconst (v := 1) hx hb dL_law_1223 (by decide) ?_
  refine lv_iadd hx hb dL_law_1224 ?_
  refine z_i (v := 1) (by decide +kernel) ?_
  refine va_sld hx hb hX hbl hbA w.2.2 (i := 1) (by decide) dL_law_1225 ?_
  refine z_i (v := (xs 1)) rfl ?_
  refine lv_aload_n hx hb dL_law_1226 rfl (lv_at hl 5 rfl) ?_
  refine lv_iload hx hb dL_law_1227 (lv_at hl 1 rfl) ?_
  refine lv_iconst (v := 2) hx hb dL_law_1229 (by decide) ?_
  refine lv_iadd hx hb dL_law_1230 ?_
  refine z_i (v := 2) (by decide +kernel) ?_
  refine va_sld hx hb hX hbl hbA w.2.2 (i := 2) (by decide) dL_law_1231 ?_
  refine z_i (v := (xs 2)) rfl ?_
  refine fin_i C w (run_V C w mv_L_206 (k164_home C.b0 n64 n65 n66 n67 n68 n69 n70 n71 n72 n73 n74 n75 n76 n77 n78 n79 n80 n81 n82 n83 n84 n85 n86 n87 n88 n89 n90 n91 n92 n93 n94 n95 n96 n97 n98 n99 n100 n101 n102 n103 n104 n105 n106 ((xs 1)) ((xs 2)) g3 g1 g0 g2 H.size) [0] rfl rfl 0 rfl rfl (by decide) rfl hl.1 rfl (Nat.le_of_ble_eq_true rfl) dL_law_1232 (cells2 := 109) (slots2 := 210178) (by decide)) [0] [1] rfl rfl (by decide) (cells2 := 109) (slots2 := 210178) (by decide) (fun u2 H locs w => ?_)
  have w : Wd s G A [(n0, .inr (11, [.ref n1, .ref n2, .ref n3, .ref n7, .ref n8, .ref n12, .ref n16, .ref n21, .ref n22, .ref n37, .int 0, .int (-1), .int 0, .int 0, .null, .null, .null, .null, .null])), (n64, .inr (12, [.int 1, .int 0, .int 0, .int 0, .int 0, .int 0, .int 0, .int (-1), .ref n65, .ref n66, .ref n67, .int 0, .ref n68, .ref n69, .ref n70, .ref n71, .ref n72, .ref n73, .ref n74, .int 0, .ref n75, .ref n76, .ref n77, .ref n78, .ref n79, .ref n80, .ref n81, .int 0, .int (-1), .int 0, .ref n82, .ref n83, .ref n84, .ref n85, .ref n86, .ref n87, .ref n88, .ref n89, .int 0, .ref n90, .ref n91, .ref n92, .ref n93, .ref n94, .int 0, .ref n95, .ref n96, .ref n97, .ref n98, .int 0, .ref n99, .ref n100, .ref n101, .ref n102, .int 0, .int 0, .ref n103, .ref n104, .ref n105, .ref n106]))] H locs := w
  refine lv_istore (lv' := [(6, .int 0), (5, .int 1), (4, .int 0), (3, .ref n107), (2, .ref n64), (1, .ref n0), (0, .ref b)]) hx hb dL_law_1235 hl (by decide) rfl (fun ls hl => ?_)
  refine lv_aload_n hx hb dL_law_1237 rfl (lv_at hl 4 rfl) ?_
  refine fin_i C w (run_V C w mv_L_150 (k20_thrown C.b0 n64 n65 n66 n67 n68 n69 n70 n71 n72 n73 n74 n75 n76 n77 n78 n79 n80 n81 n82 n83 n84 n85 n86 n87 n88 n89 n90 n91 n92 n93 n94 n95 n96 n97 n98 n99 n100 n101 n102 n103 n104 n105 n106 H.size) [1] rfl rfl 1 rfl rfl (by decide) rfl hl.1 rfl (Nat.le_of_ble_eq_true rfl) dL_law_1238 (cells2 := 109) (slots2 := 210178) (by decide)) [1] [0] rfl rfl (by decide) (cells2 := 109) (slots2 := 210178) (by decide) (fun u3 H locs w => ?_)
  have w : Wd s G A [(n0, .inr (11, [.ref n1, .ref n2, .ref n3, .ref n7, .ref n8, .ref n12, .ref n16, .ref n21, .ref n22, .ref n37, .int 0, .int (-1), .int 0, .int 0, .null, .null, .null, .null, .null])), (n64, .inr (12, [.int 1, .int 0, .int 0, .int 0, .int 0, .int 0, .int 0, .int (-1), .ref n65, .ref n66, .ref n67, .int 0, .ref n68, .ref n69, .ref n70, .ref n71, .ref n72, .ref n73, .ref n74, .int 0, .ref n75, .ref n76, .ref n77, .ref n78, .ref n79, .ref n80, .ref n81, .int 0, .int (-1), .int 0, .ref n82, .ref n83, .ref n84, .ref n85, .ref n86, .ref n87, .ref n88, .ref n89, .int 0, .ref n90, .ref n91, .ref n92, .ref n93, .ref n94, .int 0, .ref n95, .ref n96, .ref n97, .ref n98, .int 0, .ref n99, .ref n100, .ref n101, .ref n102, .int 0, .int 0, .ref n103, .ref n104, .ref n105, .ref n106]))] H locs := w
  refine lv_iload hx hb dL_law_1241 (lv_at hl 1 rfl) ?_
  refine lv_icmp_eq (tgt := 1248) hx hb dL_law_1243 (by decide) (fun _ => ?_) (fun h => absurd (by decide) h)
  refine lv_iload hx hb dL_law_1248 (lv_at hl 1 rfl) ?_
  refine lv_if_ne (tgt := 1265) hx hb dL_law_1250 (by decide) (fun _ => ?_) (fun h => h.elim (by decide))
  refine lv_goto (tgt := 3027) hx hb dL_law_1265 (by decide) ?_
  exact lc_end C hr hX hbl hbA w (lv_sub hl [2, 6] rfl) (by decide) (by decide)
set_option maxRecDepth 100000 in
set_option maxHeartbeats 4000000 in
theorem lc_17_4 {l : Launch} {G : GT} {p : Program} {e : Env} {s : State} {m : MethodId} {below : List Frame} {meth : Method} {c : Code} {A : Nat → Prop} {b : Nat} {xs : Nat → Int32} (C : Cx l s #[Value.ref b] G p s m #[Value.ref b] meth c RL cL_law 8 "law" A) (hr : meth.sig.returnType = some .boolean) (hX : va_X b 6 xs s s.heap) (hbl : b < s.heap.size) (hbA : ¬ A b) (n0 n1 n2 n3 n4 n5 n6 n7 n8 n12 n16 n21 n22 n23 n24 n25 n26 n27 n28 n29 n30 n31 n32 n33 n34 n35 n36 n37 n64 n65 n66 n67 n68 n69 n70 n71 n72 n73 n74 n75 n76 n77 n78 n79 n80 n81 n82 n83 n84 n85 n86 n87 n88 n89 n90 n91 n92 n93 n94 n95 n96 n97 n98 n99 n100 n101 n102 n103 n104 n105 n106 n107 : Nat) (g0 : ¬ (xs 1) < 1) (g1 : ¬ 3000 < (xs 1)) (g2 : ¬ (xs 2) < 0) (g3 : ¬ 2 < (xs 2)) {H : Heap} {locs : List Loc} {ls : Array Slot} (w : Wd s G A [(n0, .inr (11, [.ref n1, .ref n2, .ref n3, .ref n7, .ref n8, .ref n12, .ref n16, .ref n21, .ref n22, .ref n37, .int 0, .int (-1), .int 0, .int 0, .null, .null, .null, .null, .null])), (n3, .inr (5, [.ref n4, .ref n5, .ref n6, .int 0])), (n4, .inl (G.2.1, 8, .inl (fun _ => 0))), (n22, .inr (2, [.int 0, .int 0, .ref n23, .ref n24, .ref n25, .ref n26, .ref n27, .ref n28, .ref n29, .ref n30, .ref n31, .ref n32, .ref n33, .ref n34, .ref n35, .ref n36, .int 0])), (n64, .inr (12, [.int 0, .int 0, .int 0, .int 0, .int 0, .int 0, .int 0, .int (-1), .ref n65, .ref n66, .ref n67, .int 0, .ref n68, .ref n69, .ref n70, .ref n71, .ref n72, .ref n73, .ref n74, .int 0, .ref n75, .ref n76, .ref n77, .ref n78, .ref n79, .ref n80, .ref n81, .int 0, .int (-1), .int 0, .ref n82, .ref n83, .ref n84, .ref n85, .ref n86, .ref n87, .ref n88, .ref n89, .int 0, .ref n90, .ref n91, .ref n92, .ref n93, .ref n94, .int 0, .ref n95, .ref n96, .ref n97, .ref n98, .int 0, .ref n99, .ref n100, .ref n101, .ref n102, .int 0, .int 0, .ref n103, .ref n104, .ref n105, .ref n106])), (n66, .inl (G.2.1, 242, .inl (fun _ => 0))), (n73, .inl (G.2.1, 57, .inl (fun _ => 0))), (n75, .inl (G.2.1, 8, .inl (fun _ => 0))), (n76, .inl (G.2.1, 24008, .inl (fun _ => 0))), (n78, .inl (G.2.1, 3000, .inl (fun _ => 0))), (n79, .inl (G.2.1, 3000, .inl (fun _ => 0))), (n80, .inl (G.2.1, 4096, .inl (fun _ => 0))), (n81, .inl (G.2.1, 3000, .inl (fun _ => 0))), (n82, .inl (G.2.1, 3000, .inl (fun _ => 0))), (n85, .inl (G.2.1, 3000, .inl (fun _ => 0))), (n86, .inl (G.2.2.2.1, 3000, .inl (fun _ => 0))), (n87, .inl (G.2.1, 3000, .inl (fun _ => 0))), (n88, .inl (G.2.1, 3000, .inl (fun _ => 0))), (n89, .inl (G.2.1, 3000, .inl (fun _ => 0))), (n107, .inl (G.2.2.1, 1, .inr (.inl (fun _ => 0))))] H locs) (hl : lv_has ls 8 [(4, .int 0), (3, .ref n107), (2, .ref n64), (1, .ref n0), (0, .ref b)]) : W p l e room_1 s m #[Value.ref b] below meth c H locs 108 210172 (lw_Z below #[Value.ref b] s) (F0 m 1200 ls []) := by
  have hx := C.hx
  have hb := C.hb
  refine lv_aload_n hx hb dL_law_1200 rfl (lv_at hl 3 rfl) ?_
  refine lv_aload_n hx hb dL_law_1201 rfl (lv_at hl 4 rfl) ?_
  refine lv_iload hx hb dL_law_1202 (lv_at hl 0 rfl) ?_
  refine lv_iconst (v := 1) hx hb dL_law_1204 (by decide) ?_
  refine lv_iadd hx hb dL_law_1205 ?_
  refine z_i (v := 1) (by decide +kernel) ?_
  refine va_sld hx hb hX hbl hbA w.2.2 (i := 1) (by decide) dL_law_1206 ?_
  refine z_i (v := (xs 1)) rfl ?_
  refine lv_aload_n hx hb dL_law_1207 rfl (lv_at hl 4 rfl) ?_
  refine lv_iload hx hb dL_law_1208 (lv_at hl 0 rfl) ?_
  refine lv_iconst (v := 2) hx hb dL_law_1210 (by decide) ?_
  refine lv_iadd hx hb dL_law_1211 ?_
  refine z_i (v := 2) (by decide +kernel) ?_
  refine va_sld hx hb hX hbl hbA w.2.2 (i := 2) (by decide) dL_law_1212 ?_
  refine z_i (v := (xs 2)) rfl ?_
  refine lv_aload_n hx hb dL_law_1213 rfl (lv_at hl 1 rfl) ?_
  refine fin_i C w (run_H C w mh_L_204 (k176_home C.b0 n0 n3 n22 n4 n107 n1 n2 n7 n8 n12 n16 n21 n37 n5 n6 n23 n24 n25 n26 n27 n28 n29 n30 n31 n32 n33 n34 n35 n36 ((xs 1)) ((xs 2)) g3 g1 g0 g2 H.size) [0, 1, 3, 2, 19] rfl rfl (by decide) rfl hl.1 rfl (Nat.le_of_ble_eq_true rfl) dL_law_1214 (cells2 := 132) (slots2 := 314762) (by decide)) [0, 1, 3, 2, 19] [4, 5, 6, 7, 8, 9, 10, 11, 12, 13, 14, 15, 16, 17, 18] rfl rfl (by decide) (cells2 := 132) (slots2 := 314762) (by decide) (fun u1 H locs w => ?_)
  have w : Wd s G A [(n64, .inr (12, [.int 0, .int 0, .int 0, .int 0, .int 0, .int 0, .int 0, .int (-1), .ref n65, .ref n66, .ref n67, .int 0, .ref n68, .ref n69, .ref n70, .ref n71, .ref n72, .ref n73, .ref n74, .int 0, .ref n75, .ref n76, .ref n77, .ref n78, .ref n79, .ref n80, .ref n81, .int 0, .int (-1), .int 0, .ref n82, .ref n83, .ref n84, .ref n85, .ref n86, .ref n87, .ref n88, .ref n89, .int 0, .ref n90, .ref n91, .ref n92, .ref n93, .ref n94, .int 0, .ref n95, .ref n96, .ref n97, .ref n98, .int 0, .ref n99, .ref n100, .ref n101, .ref n102, .int 0, .int 0, .ref n103, .ref n104, .ref n105, .ref n106])), (n66, .inl (G.2.1, 242, .inl (fun _ => 0))), (n73, .inl (G.2.1, 57, .inl (fun _ => 0))), (n75, .inl (G.2.1, 8, .inl (fun _ => 0))), (n76, .inl (G.2.1, 24008, .inl (fun _ => 0))), (n78, .inl (G.2.1, 3000, .inl (fun _ => 0))), (n79, .inl (G.2.1, 3000, .inl (fun _ => 0))), (n80, .inl (G.2.1, 4096, .inl (fun _ => 0))), (n81, .inl (G.2.1, 3000, .inl (fun _ => 0))), (n82, .inl (G.2.1, 3000, .inl (fun _ => 0))), (n85, .inl (G.2.1, 3000, .inl (fun _ => 0))), (n86, .inl (G.2.2.2.1, 3000, .inl (fun _ => 0))), (n87, .inl (G.2.1, 3000, .inl (fun _ => 0))), (n88, .inl (G.2.1, 3000, .inl (fun _ => 0))), (n89, .inl (G.2.1, 3000, .inl (fun _ => 0))), (n0, .inr (11, [.ref n1, .ref n2, .ref n3, .ref n7, .ref n8, .ref n12, .ref n16, .ref n21, .ref n22, .ref n37, .int 0, .int (-1), .int 0, .int 0, .ref (u1 0), .ref (u1 9), .null, .null, .null])), (n3, .inr (5, [.ref n4, .ref n5, .ref n6, .int 0])), (n22, .inr (2, [.int 0, .int 0, .ref n23, .ref n24, .ref n25, .ref n26, .ref n27, .ref n28, .ref n29, .ref n30, .ref n31, .ref n32, .ref n33, .ref n34, .ref n35, .ref n36, .int 0])), (n4, .inl (G.2.1, 8, .inl (fun _ => 0))), (n107, .inl (G.2.2.1, 1, .inr (.inl (vp_updL (fun _ => 0) 0 1)))), ((u1 0), .inr (1, [.int 0, .ref n22, .ref (u1 1), .ref (u1 2), .ref (u1 5), .ref (u1 6), .ref (u1 7), .ref (u1 8), .int 1])), ((u1 1), .inl (G.2.1, 24064, .inl (fun _ => 0))), ((u1 2), .inr (7, [.ref (u1 3), .int 0, .int 1, .int 3008, .ref (u1 4)])), ((u1 3), .inl (G.2.1, 24064, .inl (fun _ => 0))), ((u1 4), .inl (G.2.1, 8192, .inl (upd (fun _ => (-1)) 7 0))), ((u1 5), .inl (G.2.1, 3008, .inl (fun _ => 0))), ((u1 6), .inl (G.2.1, 3008, .inl (upd (fun _ => 0) 0 (-1)))), ((u1 7), .inl (G.2.1, 3008, .inl (upd (fun _ => 0) 0 (-1)))), ((u1 8), .inl (G.2.1, 8, .inl (fun _ => 0))), ((u1 9), .inr (6, [.int 0, .ref (u1 0), .ref (u1 10), .ref (u1 11), .ref (u1 12), .ref (u1 13), .ref (u1 14), .ref (u1 15), .ref (u1 16), .ref (u1 17), .ref (u1 18), .ref (u1 19), .ref (u1 20), .ref (u1 21), .ref (u1 22), .ref (u1 23), .int 1, .int 1, .int 0, .int 0])), ((u1 10), .inl (G.2.1, 3008, .inl (upd (fun _ => 0) 0 1))), ((u1 11), .inl (G.2.1, 3008, .inl (upd (fun _ => 0) 0 1))), ((u1 12), .inl (G.2.1, 3008, .inl (fun _ => 0))), ((u1 13), .inl (G.2.1, 3008, .inl (fun _ => 0))), ((u1 14), .inl (G.2.1, 3008, .inl (fun _ => 0))), ((u1 15), .inl (G.2.1, 3008, .inl (upd (upd (fun _ => 0) 0 (-1)) 0 0))), ((u1 16), .inl (G.2.1, 3008, .inl (fun _ => 0))), ((u1 17), .inl (G.2.1, 3008, .inl (fun _ => 0))), ((u1 18), .inl (G.2.1, 3008, .inl (fun _ => 0))), ((u1 19), .inl (G.2.1, 3008, .inl (fun _ => 0))), ((u1 20), .inl (G.2.1, 3008, .inl (fun _ => 0))), ((u1 21), .inl (G.2.1, 100, .inl (fun _ => 0))), ((u1 22), .inl (G.2.2.1, 3008, .inr (.inl (fun _ => 0)))), ((u1 23), .inl (G.2.2.1, 3008, .inr (.inl (fun _ => 0))))] H locs := w
  refine lv_istore (lv' := [(5, .int 0), (4, .int 0), (3, .ref n107), (2, .ref n64), (1, .ref n0), (0, .ref b)]) hx hb dL_law_1217 hl (by decide) rfl (fun ls hl => ?_)
  refine lv_aload_n hx hb dL_law_1219 rfl (lv_at hl 3 rfl) ?_
  refine lv_aload_n hx hb dL_law_1220 rfl (lv_at hl 5 rfl) ?_
  refine lv_iload hx hb dL_law_1221 (lv_at hl 1 rfl) ?_
  refine lv_iconst (v := 1) hx hb dL_law_1223 (by decide) ?_
  refine lv_iadd hx hb dL_law_1224 ?_
  refine z_i (v := 1) (by decide +kernel) ?_
  refine va_sld hx hb hX hbl hbA w.2.2 (i := 1) (by decide) dL_law_1225 ?_
  refine z_i (v := (xs 1)) rfl ?_
  refine lv_aload_n hx hb dL_law_1226 rfl (lv_at hl 5 rfl) ?_
  refine lv_iload hx hb dL_law_1227 (lv_at hl 1 rfl) ?_
  refine lv_iconst (v := 2) hx hb dL_law_1229 (by decide) ?_
  refine lv_iadd hx hb dL_law_1230 ?_
  refine z_i (v := 2) (by decide +kernel) ?_
  refine va_sld hx hb hX hbl hbA w.2.2 (i := 2) (by decide) dL_law_1231 ?_
  refine z_i (v := (xs 2)) rfl ?_
  refine fin_i C w (run_V C w mv_L_206 (k182_home C.b0 n64 n80 n73 n75 n76 n81 n78 n79 n66 n86 n88 n85 n87 n82 n89 n65 n67 n68 n69 n70 n71 n72 n74 n77 n83 n84 n90 n91 n92 n93 n94 n95 n96 n97 n98 n99 n100 n101 n102 n103 n104 n105 n106 ((xs 1)) ((xs 2)) g3 g1 g0 g2 H.size) [0, 7, 2, 3, 4, 8, 5, 6, 1, 11, 13, 10, 12, 9, 14] rfl rfl 0 rfl rfl (by decide) rfl hl.1 rfl (Nat.le_of_ble_eq_true rfl) dL_law_1232 (cells2 := 132) (slots2 := 314762) (by decide)) [0, 7, 2, 3, 4, 8, 5, 6, 1, 11, 13, 10, 12, 9, 14] [15, 16, 17, 18, 19, 20, 21, 22, 23, 24, 25, 26, 27, 28, 29, 30, 31, 32, 33, 34, 35, 36, 37, 38, 39, 40, 41, 42, 43] rfl rfl (by decide) (cells2 := 132) (slots2 := 314762) (by decide) (fun u2 H locs w => ?_)
  have w : Wd s G A [(n0, .inr (11, [.ref n1, .ref n2, .ref n3, .ref n7, .ref n8, .ref n12, .ref n16, .ref n21, .ref n22, .ref n37, .int 0, .int (-1), .int 0, .int 0, .ref (u1 0), .ref (u1 9), .null, .null, .null])), (n3, .inr (5, [.ref n4, .ref n5, .ref n6, .int 0])), (n22, .inr (2, [.int 0, .int 0, .ref n23, .ref n24, .ref n25, .ref n26, .ref n27, .ref n28, .ref n29, .ref n30, .ref n31, .ref n32, .ref n33, .ref n34, .ref n35, .ref n36, .int 0])), (n4, .inl (G.2.1, 8, .inl (fun _ => 0))), (n107, .inl (G.2.2.1, 1, .inr (.inl (vp_updL (fun _ => 0) 0 1)))), ((u1 0), .inr (1, [.int 0, .ref n22, .ref (u1 1), .ref (u1 2), .ref (u1 5), .ref (u1 6), .ref (u1 7), .ref (u1 8), .int 1])), ((u1 1), .inl (G.2.1, 24064, .inl (fun _ => 0))), ((u1 2), .inr (7, [.ref (u1 3), .int 0, .int 1, .int 3008, .ref (u1 4)])), ((u1 3), .inl (G.2.1, 24064, .inl (fun _ => 0))), ((u1 4), .inl (G.2.1, 8192, .inl (upd (fun _ => (-1)) 7 0))), ((u1 5), .inl (G.2.1, 3008, .inl (fun _ => 0))), ((u1 6), .inl (G.2.1, 3008, .inl (upd (fun _ => 0) 0 (-1)))), ((u1 7), .inl (G.2.1, 3008, .inl (upd (fun _ => 0) 0 (-1)))), ((u1 8), .inl (G.2.1, 8, .inl (fun _ => 0))), ((u1 9), .inr (6, [.int 0, .ref (u1 0), .ref (u1 10), .ref (u1 11), .ref (u1 12), .ref (u1 13), .ref (u1 14), .ref (u1 15), .ref (u1 16), .ref (u1 17), .ref (u1 18), .ref (u1 19), .ref (u1 20), .ref (u1 21), .ref (u1 22), .ref (u1 23), .int 1, .int 1, .int 0, .int 0])), ((u1 10), .inl (G.2.1, 3008, .inl (upd (fun _ => 0) 0 1))), ((u1 11), .inl (G.2.1, 3008, .inl (upd (fun _ => 0) 0 1))), ((u1 12), .inl (G.2.1, 3008, .inl (fun _ => 0))), ((u1 13), .inl (G.2.1, 3008, .inl (fun _ => 0))), ((u1 14), .inl (G.2.1, 3008, .inl (fun _ => 0))), ((u1 15), .inl (G.2.1, 3008, .inl (upd (upd (fun _ => 0) 0 (-1)) 0 0))), ((u1 16), .inl (G.2.1, 3008, .inl (fun _ => 0))), ((u1 17), .inl (G.2.1, 3008, .inl (fun _ => 0))), ((u1 18), .inl (G.2.1, 3008, .inl (fun _ => 0))), ((u1 19), .inl (G.2.1, 3008, .inl (fun _ => 0))), ((u1 20), .inl (G.2.1, 3008, .inl (fun _ => 0))), ((u1 21), .inl (G.2.1, 100, .inl (fun _ => 0))), ((u1 22), .inl (G.2.2.1, 3008, .inr (.inl (fun _ => 0)))), ((u1 23), .inl (G.2.2.1, 3008, .inr (.inl (fun _ => 0)))), (n64, .inr (12, [.int 0, .int 0, .int 0, .int 0, .int 0, .int 0, .int 0, .int (-1), .ref n65, .ref n66, .ref n67, .int 0, .ref n68, .ref n69, .ref n70, .ref n71, .ref n72, .ref n73, .ref n74, .int 0, .ref n75, .ref n76, .ref n77, .ref n78, .ref n79, .ref n80, .ref n81, .int 1, .int (-1), .int 0, .ref n82, .ref n83, .ref n84, .ref n85, .ref n86, .ref n87, .ref n88, .ref n89, .int 1, .ref n90, .ref n91, .ref n92, .ref n93, .ref n94, .int 0, .ref n95, .ref n96, .ref n97, .ref n98, .int 0, .ref n99, .ref n100, .ref n101, .ref n102, .int 0, .int 0, .ref n103, .ref n104, .ref n105, .ref n106])), (n80, .inl (G.2.1, 4096, .inl (upd (fun _ => (-1)) 0 0))), (n73, .inl (G.2.1, 57, .inl (fun _ => 0))), (n75, .inl (G.2.1, 8, .inl (fun _ => 0))), (n76, .inl (G.2.1, 24008, .inl (fun _ => 0))), (n81, .inl (G.2.1, 3000, .inl (upd (fun _ => 0) 0 (-1)))), (n78, .inl (G.2.1, 3000, .inl (upd (fun _ => 0) 0 (-1)))), (n79, .inl (G.2.1, 3000, .inl (upd (fun _ => 0) 0 (-1)))), (n66, .inl (G.2.1, 242, .inl (fun _ => 0))), (n86, .inl (G.2.2.2.1, 3000, .inl (upd (upd (fun _ => 0) 0 1) 0 1))), (n88, .inl (G.2.1, 3000, .inl (fun _ => 0))), (n85, .inl (G.2.1, 3000, .inl (fun _ => 0))), (n87, .inl (G.2.1, 3000, .inl (fun _ => 0))), (n82, .inl (G.2.1, 3000, .inl (upd (fun _ => 0) 0 (-1)))), (n89, .inl (G.2.1, 3000, .inl (upd (upd (fun _ => 0) 0 (-1)) 0 0)))] H locs := w
  refine lv_istore (lv' := [(6, .int 1), (5, .int 0), (4, .int 0), (3, .ref n107), (2, .ref n64), (1, .ref n0), (0, .ref b)]) hx hb dL_law_1235 hl (by decide) rfl (fun ls hl => ?_)
  refine lv_aload_n hx hb dL_law_1237 rfl (lv_at hl 4 rfl) ?_
  refine fin_i C w (run_V C w mv_L_150 (k183_thrown C.b0 n64 n65 n66 n67 n68 n69 n70 n71 n72 n73 n74 n75 n76 n77 n78 n79 n80 n81 n82 n83 n84 n85 n86 n87 n88 n89 n90 n91 n92 n93 n94 n95 n96 n97 n98 n99 n100 n101 n102 n103 n104 n105 n106 H.size) [29] rfl rfl 29 rfl rfl (by decide) rfl hl.1 rfl (Nat.le_of_ble_eq_true rfl) dL_law_1238 (cells2 := 132) (slots2 := 314762) (by decide)) [29] [0, 1, 2, 3, 4, 5, 6, 7, 8, 9, 10, 11, 12, 13, 14, 15, 16, 17, 18, 19, 20, 21, 22, 23, 24, 25, 26, 27, 28, 30, 31, 32, 33, 34, 35, 36, 37, 38, 39, 40, 41, 42, 43] rfl rfl (by decide) (cells2 := 132) (slots2 := 314762) (by decide) (fun u3 H locs w => ?_)
  have w : Wd s G A [(n0, .inr (11, [.ref n1, .ref n2, .ref n3, .ref n7, .ref n8, .ref n12, .ref n16, .ref n21, .ref n22, .ref n37, .int 0, .int (-1), .int 0, .int 0, .ref (u1 0), .ref (u1 9), .null, .null, .null])), (n3, .inr (5, [.ref n4, .ref n5, .ref n6, .int 0])), (n22, .inr (2, [.int 0, .int 0, .ref n23, .ref n24, .ref n25, .ref n26, .ref n27, .ref n28, .ref n29, .ref n30, .ref n31, .ref n32, .ref n33, .ref n34, .ref n35, .ref n36, .int 0])), (n4, .inl (G.2.1, 8, .inl (fun _ => 0))), (n107, .inl (G.2.2.1, 1, .inr (.inl (vp_updL (fun _ => 0) 0 1)))), ((u1 0), .inr (1, [.int 0, .ref n22, .ref (u1 1), .ref (u1 2), .ref (u1 5), .ref (u1 6), .ref (u1 7), .ref (u1 8), .int 1])), ((u1 1), .inl (G.2.1, 24064, .inl (fun _ => 0))), ((u1 2), .inr (7, [.ref (u1 3), .int 0, .int 1, .int 3008, .ref (u1 4)])), ((u1 3), .inl (G.2.1, 24064, .inl (fun _ => 0))), ((u1 4), .inl (G.2.1, 8192, .inl (upd (fun _ => (-1)) 7 0))), ((u1 5), .inl (G.2.1, 3008, .inl (fun _ => 0))), ((u1 6), .inl (G.2.1, 3008, .inl (upd (fun _ => 0) 0 (-1)))), ((u1 7), .inl (G.2.1, 3008, .inl (upd (fun _ => 0) 0 (-1)))), ((u1 8), .inl (G.2.1, 8, .inl (fun _ => 0))), ((u1 9), .inr (6, [.int 0, .ref (u1 0), .ref (u1 10), .ref (u1 11), .ref (u1 12), .ref (u1 13), .ref (u1 14), .ref (u1 15), .ref (u1 16), .ref (u1 17), .ref (u1 18), .ref (u1 19), .ref (u1 20), .ref (u1 21), .ref (u1 22), .ref (u1 23), .int 1, .int 1, .int 0, .int 0])), ((u1 10), .inl (G.2.1, 3008, .inl (upd (fun _ => 0) 0 1))), ((u1 11), .inl (G.2.1, 3008, .inl (upd (fun _ => 0) 0 1))), ((u1 12), .inl (G.2.1, 3008, .inl (fun _ => 0))), ((u1 13), .inl (G.2.1, 3008, .inl (fun _ => 0))), ((u1 14), .inl (G.2.1, 3008, .inl (fun _ => 0))), ((u1 15), .inl (G.2.1, 3008, .inl (upd (upd (fun _ => 0) 0 (-1)) 0 0))), ((u1 16), .inl (G.2.1, 3008, .inl (fun _ => 0))), ((u1 17), .inl (G.2.1, 3008, .inl (fun _ => 0))), ((u1 18), .inl (G.2.1, 3008, .inl (fun _ => 0))), ((u1 19), .inl (G.2.1, 3008, .inl (fun _ => 0))), ((u1 20), .inl (G.2.1, 3008, .inl (fun _ => 0))), ((u1 21), .inl (G.2.1, 100, .inl (fun _ => 0))), ((u1 22), .inl (G.2.2.1, 3008, .inr (.inl (fun _ => 0)))), ((u1 23), .inl (G.2.2.1, 3008, .inr (.inl (fun _ => 0)))), (n80, .inl (G.2.1, 4096, .inl (upd (fun _ => (-1)) 0 0))), (n73, .inl (G.2.1, 57, .inl (fun _ => 0))), (n75, .inl (G.2.1, 8, .inl (fun _ => 0))), (n76, .inl (G.2.1, 24008, .inl (fun _ => 0))), (n81, .inl (G.2.1, 3000, .inl (upd (fun _ => 0) 0 (-1)))), (n78, .inl (G.2.1, 3000, .inl (upd (fun _ => 0) 0 (-1)))), (n79, .inl (G.2.1, 3000, .inl (upd (fun _ => 0) 0 (-1)))), (n66, .inl (G.2.1, 242, .inl (fun _ => 0))), (n86, .inl (G.2.2.2.1, 3000, .inl (upd (upd (fun _ => 0) 0 1) 0 1))), (n88, .inl (G.2.1, 3000, .inl (fun _ => 0))), (n85, .inl (G.2.1, 3000, .inl (fun _ => 0))), (n87, .inl (G.2.1, 3000, .inl (fun _ => 0))), (n82, .inl (G.2.1, 3000, .inl (upd (fun _ => 0) 0 (-1)))), (n89, .inl (G.2.1, 3000, .inl (upd (upd (fun _ => 0) 0 (-1)) 0 0))), (n64, .inr (12, [.int 0, .int 0, .int 0, .int 0, .int 0, .int 0, .int 0, .int (-1), .ref n65, .ref n66, .ref n67, .int 0, .ref n68, .ref n69, .ref n70, .ref n71, .ref n72, .ref n73, .ref n74, .int 0, .ref n75, .ref n76, .ref n77, .ref n78, .ref n79, .ref n80, .ref n81, .int 1, .int (-1), .int 0, .ref n82, .ref n83, .ref n84, .ref n85, .ref n86, .ref n87, .ref n88, .ref n89, .int 1, .ref n90, .ref n91, .ref n92, .ref n93, .ref n94, .int 0, .ref n95, .ref n96, .ref n97, .ref n98, .int 0, .ref n99, .ref n100, .ref n101, .ref n102, .int 0, .int 0, .ref n103, .ref n104, .ref n105, .ref n106]))] H locs := w
  refine lv_iload hx hb dL_law_1241 (lv_at hl 1 rfl) ?_
  refine lv_icmp_eq (tgt := 1248) hx hb dL_law_1243 (by decide) (fun _ => ?_) (fun h => absurd (by decide) h)
  refine lv_iload hx hb dL_law_1248 (lv_at hl 1 rfl) ?_
  refine lv_if_ne (tgt := 1265) hx hb dL_law_1250 (by decide) (fun h => absurd (by decide) h) (fun _ => ?_)
  refine lv_aload_n hx hb dL_law_1253 rfl (lv_at hl 3 rfl) ?_
  refine lv_iconst (v := 0) hx hb dL_law_1254 (by decide) ?_
  refine r_lald C w 4 rfl (IX.of (k := 0) (by decide +kernel)) (v := 1) rfl dL_law_1255 ?_
  refine lv_iload hx hb dL_law_1256 (lv_at hl 0 rfl) ?_
  refine lv_i2l (v := 1) hx hb dL_law_1258 (by decide +kernel) ?_
  refine W.lcmp hx hb dL_law_1259 ?_
  refine z_i (v := 0) (by decide +kernel) ?_
  refine lv_if_eq (tgt := 1265) hx hb dL_law_1260 (by decide) (fun _ => ?_) (fun h => absurd (by decide) h)
  refine lv_goto (tgt := 3027) hx hb dL_law_1265 (by decide) ?_
  exact lc_end C hr hX hbl hbA w (lv_sub hl [2, 6] rfl) (by decide) (by decide)
set_option maxRecDepth 100000 in
set_option maxHeartbeats 4000000 in
theorem lc_18_0 {l : Launch} {G : GT} {p : Program} {e : Env} {s : State} {m : MethodId} {below : List Frame} {meth : Method} {c : Code} {A : Nat → Prop} {b : Nat} {xs : Nat → Int32} (C : Cx l s #[Value.ref b] G p s m #[Value.ref b] meth c RL cL_law 8 "law" A) (hr : meth.sig.returnType = some .boolean) (hX : va_X b 6 xs s s.heap) (hbl : b < s.heap.size) (hbA : ¬ A b) (n0 n1 n2 n3 n7 n8 n12 n16 n21 n22 n23 n24 n25 n26 n27 n28 n29 n30 n31 n32 n33 n34 n35 n36 n37 n64 n65 n66 n67 n68 n69 n70 n71 n72 n73 n74 n75 n76 n77 n78 n79 n80 n81 n82 n83 n84 n85 n86 n87 n88 n89 n90 n91 n92 n93 n94 n95 n96 n97 n98 n99 n100 n101 n102 n103 n104 n105 n106 n107 : Nat) {H : Heap} {locs : List Loc} {ls : Array Slot} (w : Wd s G A [(n0, .inr (11, [.ref n1, .ref n2, .ref n3, .ref n7, .ref n8, .ref n12, .ref n16, .ref n21, .ref n22, .ref n37, .int 0, .int (-1), .int 0, .int 0, .null, .null, .null, .null, .null])), (n22, .inr (2, [.int 0, .int 0, .ref n23, .ref n24, .ref n25, .ref n26, .ref n27, .ref n28, .ref n29, .ref n30, .ref n31, .ref n32, .ref n33, .ref n34, .ref n35, .ref n36, .int 0])), (n64, .inr (12, [.int 0, .int 0, .int 0, .int 0, .int 0, .int 0, .int 0, .int (-1), .ref n65, .ref n66, .ref n67, .int 0, .ref n68, .ref n69, .ref n70, .ref n71, .ref n72, .ref n73, .ref n74, .int 0, .ref n75, .ref n76, .ref n77, .ref n78, .ref n79, .ref n80, .ref n81, .int 0, .int (-1), .int 0, .ref n82, .ref n83, .ref n84, .ref n85, .ref n86, .ref n87, .ref n88, .ref n89, .int 0, .ref n90, .ref n91, .ref n92, .ref n93, .ref n94, .int 0, .ref n95, .ref n96, .ref n97, .ref n98, .int 0, .ref n99, .ref n100, .ref n101, .ref n102, .int 0, .int 0, .ref n103, .ref n104, .ref n105, .ref n106])), (n66, .inl (G.2.1, 242, .inl (fun _ => 0)))] H locs) (hl : lv_has ls 8 [(4, .int 0), (3, .ref n107), (2, .ref n64), (1, .ref n0), (0, .ref b)]) : W p l e room_1 s m #[Value.ref b] below meth c H locs 108 210172 (lw_Z below #[Value.ref b] s) (F0 m 1268 ls []) := by
  have hx := C.hx
  have hb := C.hb
  refine lv_aload_n hx hb dL_law_1268 rfl (lv_at hl 3 rfl) ?_
  refine lv_aload_n hx hb dL_law_1269 rfl (lv_at hl 4 rfl) ?_
  refine lv_iload hx hb dL_law_1270 (lv_at hl 0 rfl) ?_
  refine lv_iconst (v := 1) hx hb dL_law_1272 (by decide) ?_
  refine lv_iadd hx hb dL_law_1273 ?_
  refine z_i (v := 1) (by decide +kernel) ?_
  refine va_sld hx hb hX hbl hbA w.2.2 (i := 1) (by decide) dL_law_1274 ?_
  refine z_i (v := (xs 1)) rfl ?_
  refine lv_aload_n hx hb dL_law_1275 rfl (lv_at hl 4 rfl) ?_
  refine lv_iload hx hb dL_law_1276 (lv_at hl 0 rfl) ?_
  refine lv_iconst (v := 2) hx hb dL_law_1278 (by decide) ?_
  refine lv_iadd hx hb dL_law_1279 ?_
  refine z_i (v := 2) (by decide +kernel) ?_
  refine va_sld hx hb hX hbl hbA w.2.2 (i := 2) (by decide) dL_law_1280 ?_
  refine z_i (v := (xs 2)) rfl ?_
  refine lv_aload_n hx hb dL_law_1281 rfl (lv_at hl 1 rfl) ?_
  refine fin_i C w (run_H C w mh_L_207 (k185_most C.b0 n0 n22 n107 n1 n2 n3 n7 n8 n12 n16 n21 n37 n23 n24 n25 n26 n27 n28 n29 n30 n31 n32 n33 n34 n35 n36 ((xs 1)) ((xs 2)) H.size) [0, 1] rfl rfl (by decide) rfl hl.1 rfl (Nat.le_of_ble_eq_true rfl) dL_law_1282 (cells2 := 109) (slots2 := 210178) (by decide)) [0, 1] [2, 3] rfl rfl (by decide) (cells2 := 109) (slots2 := 210178) (by decide) (fun u1 H locs w => ?_)
  have w : Wd s G A [(n64, .inr (12, [.int 0, .int 0, .int 0, .int 0, .int 0, .int 0, .int 0, .int (-1), .ref n65, .ref n66, .ref n67, .int 0, .ref n68, .ref n69, .ref n70, .ref n71, .ref n72, .ref n73, .ref n74, .int 0, .ref n75, .ref n76, .ref n77, .ref n78, .ref n79, .ref n80, .ref n81, .int 0, .int (-1), .int 0, .ref n82, .ref n83, .ref n84, .ref n85, .ref n86, .ref n87, .ref n88, .ref n89, .int 0, .ref n90, .ref n91, .ref n92, .ref n93, .ref n94, .int 0, .ref n95, .ref n96, .ref n97, .ref n98, .int 0, .ref n99, .ref n100, .ref n101, .ref n102, .int 0, .int 0, .ref n103, .ref n104, .ref n105, .ref n106])), (n66, .inl (G.2.1, 242, .inl (fun _ => 0))), (n0, .inr (11, [.ref n1, .ref n2, .ref n3, .ref n7, .ref n8, .ref n12, .ref n16, .ref n21, .ref n22, .ref n37, .int 0, .int (-1), .int 0, .int 0, .null, .null, .null, .null, .null])), (n22, .inr (2, [.int 0, .int 0, .ref n23, .ref n24, .ref n25, .ref n26, .ref n27, .ref n28, .ref n29, .ref n30, .ref n31, .ref n32, .ref n33, .ref n34, .ref n35, .ref n36, .int 0]))] H locs := w
  refine lv_istore (lv' := [(5, .int 1), (4, .int 0), (3, .ref n107), (2, .ref n64), (1, .ref n0), (0, .ref b)]) hx hb dL_law_1285 hl (by decide) rfl (fun ls hl => ?_)
  refine lv_aload_n hx hb dL_law_1287 rfl (lv_at hl 3 rfl) ?_
  refine lv_aload_n hx hb dL_law_1288 rfl (lv_at hl 5 rfl) ?_
  refine lv_iload hx hb dL_law_1289 (lv_at hl 1 rfl) ?_
  refine lv_iconst (v := 1) hx hb dL_law_1291 (by decide) ?_
  refine lv_iadd hx hb dL_law_1292 ?_
  refine z_i (v := 1) (by decide +kernel) ?_
  refine va_sld hx hb hX hbl hbA w.2.2 (i := 1) (by decide) dL_law_1293 ?_
  refine z_i (v := (xs 1)) rfl ?_
  refine lv_aload_n hx hb dL_law_1294 rfl (lv_at hl 5 rfl) ?_
  refine lv_iload hx hb dL_law_1295 (lv_at hl 1 rfl) ?_
  refine lv_iconst (v := 2) hx hb dL_law_1297 (by decide) ?_
  refine lv_iadd hx hb dL_law_1298 ?_
  refine z_i (v := 2) (by decide +kernel) ?_
  refine va_sld hx hb hX hbl hbA w.2.2 (i := 2) (by decide) dL_law_1299 ?_
  refine z_i (v := (xs 2)) rfl ?_
  refine fin_i C w (run_V C w mv_L_209 (k186_most C.b0 n64 n66 n65 n67 n68 n69 n70 n71 n72 n73 n74 n75 n76 n77 n78 n79 n80 n81 n82 n83 n84 n85 n86 n87 n88 n89 n90 n91 n92 n93 n94 n95 n96 n97 n98 n99 n100 n101 n102 n103 n104 n105 n106 ((xs 1)) ((xs 2)) H.size) [0, 1] rfl rfl 0 rfl rfl (by decide) rfl hl.1 rfl (Nat.le_of_ble_eq_true rfl) dL_law_1300 (cells2 := 109) (slots2 := 210178) (by decide)) [0, 1] [2, 3] rfl rfl (by decide) (cells2 := 109) (slots2 := 210178) (by decide) (fun u2 H locs w => ?_)
  have w : Wd s G A [(n0, .inr (11, [.ref n1, .ref n2, .ref n3, .ref n7, .ref n8, .ref n12, .ref n16, .ref n21, .ref n22, .ref n37, .int 0, .int (-1), .int 0, .int 0, .null, .null, .null, .null, .null])), (n22, .inr (2, [.int 0, .int 0, .ref n23, .ref n24, .ref n25, .ref n26, .ref n27, .ref n28, .ref n29, .ref n30, .ref n31, .ref n32, .ref n33, .ref n34, .ref n35, .ref n36, .int 0])), (n64, .inr (12, [.int 1, .int 0, .int 0, .int 0, .int 0, .int 0, .int 0, .int (-1), .ref n65, .ref n66, .ref n67, .int 0, .ref n68, .ref n69, .ref n70, .ref n71, .ref n72, .ref n73, .ref n74, .int 0, .ref n75, .ref n76, .ref n77, .ref n78, .ref n79, .ref n80, .ref n81, .int 0, .int (-1), .int 0, .ref n82, .ref n83, .ref n84, .ref n85, .ref n86, .ref n87, .ref n88, .ref n89, .int 0, .ref n90, .ref n91, .ref n92, .ref n93, .ref n94, .int 0, .ref n95, .ref n96, .ref n97, .ref n98, .int 0, .ref n99, .ref n100, .ref n101, .ref n102, .int 0, .int 0, .ref n103, .ref n104, .ref n105, .ref n106])), (n66, .inl (G.2.1, 242, .inl (fun _ => 0)))] H locs := w
  refine lv_istore (lv' := [(6, .int 0), (5, .int 1), (4, .int 0), (3, .ref n107), (2, .ref n64), (1, .ref n0), (0, .ref b)]) hx hb dL_law_1303 hl (by decide) rfl (fun ls hl => ?_)
  refine lv_aload_n hx hb dL_law_1305 rfl (lv_at hl 4 rfl) ?_
  refine fin_i C w (run_V C w mv_L_150 (k20_thrown C.b0 n64 n65 n66 n67 n68 n69 n70 n71 n72 n73 n74 n75 n76 n77 n78 n79 n80 n81 n82 n83 n84 n85 n86 n87 n88 n89 n90 n91 n92 n93 n94 n95 n96 n97 n98 n99 n100 n101 n102 n103 n104 n105 n106 H.size) [2] rfl rfl 2 rfl rfl (by decide) rfl hl.1 rfl (Nat.le_of_ble_eq_true rfl) dL_law_1306 (cells2 := 109) (slots2 := 210178) (by decide)) [2] [0, 1, 3] rfl rfl (by decide) (cells2 := 109) (slots2 := 210178) (by decide) (fun u3 H locs w => ?_)
  have w : Wd s G A [(n0, .inr (11, [.ref n1, .ref n2, .ref n3, .ref n7, .ref n8, .ref n12, .ref n16, .ref n21, .ref n22, .ref n37, .int 0, .int (-1), .int 0, .int 0, .null, .null, .null, .null, .null])), (n22, .inr (2, [.int 0, .int 0, .ref n23, .ref n24, .ref n25, .ref n26, .ref n27, .ref n28, .ref n29, .ref n30, .ref n31, .ref n32, .ref n33, .ref n34, .ref n35, .ref n36, .int 0])), (n66, .inl (G.2.1, 242, .inl (fun _ => 0))), (n64, .inr (12, [.int 1, .int 0, .int 0, .int 0, .int 0, .int 0, .int 0, .int (-1), .ref n65, .ref n66, .ref n67, .int 0, .ref n68, .ref n69, .ref n70, .ref n71, .ref n72, .ref n73, .ref n74, .int 0, .ref n75, .ref n76, .ref n77, .ref n78, .ref n79, .ref n80, .ref n81, .int 0, .int (-1), .int 0, .ref n82, .ref n83, .ref n84, .ref n85, .ref n86, .ref n87, .ref n88, .ref n89, .int 0, .ref n90, .ref n91, .ref n92, .ref n93, .ref n94, .int 0, .ref n95, .ref n96, .ref n97, .ref n98, .int 0, .ref n99, .ref n100, .ref n101, .ref n102, .int 0, .int 0, .ref n103, .ref n104, .ref n105, .ref n106]))] H locs := w
  refine lv_iload hx hb dL_law_1309 (lv_at hl 1 rfl) ?_
  refine lv_icmp_eq (tgt := 1316) hx hb dL_law_1311 (by decide) (fun _ => ?_) (fun h => absurd (by decide) h)
  refine lv_iload hx hb dL_law_1316 (lv_at hl 1 rfl) ?_
  refine lv_if_ne (tgt := 1333) hx hb dL_law_1318 (by decide) (fun _ => ?_) (fun h => h.elim (by decide))
  refine lv_goto (tgt := 3027) hx hb dL_law_1333 (by decide) ?_
  exact lc_end C hr hX hbl hbA w (lv_sub hl [2, 6] rfl) (by decide) (by decide)
set_option maxRecDepth 100000 in
set_option maxHeartbeats 4000000 in
theorem lc_19_0 {l : Launch} {G : GT} {p : Program} {e : Env} {s : State} {m : MethodId} {below : List Frame} {meth : Method} {c : Code} {A : Nat → Prop} {b : Nat} {xs : Nat → Int32} (C : Cx l s #[Value.ref b] G p s m #[Value.ref b] meth c RL cL_law 8 "law" A) (hr : meth.sig.returnType = some .boolean) (hX : va_X b 6 xs s s.heap) (hbl : b < s.heap.size) (hbA : ¬ A b) (n0 n1 n2 n3 n7 n8 n12 n16 n21 n22 n23 n24 n25 n26 n27 n28 n29 n30 n31 n32 n33 n34 n35 n36 n37 n64 n65 n66 n67 n68 n69 n70 n71 n72 n73 n74 n75 n76 n77 n78 n79 n80 n81 n82 n83 n84 n85 n86 n87 n88 n89 n90 n91 n92 n93 n94 n95 n96 n97 n98 n99 n100 n101 n102 n103 n104 n105 n106 n107 : Nat) {H : Heap} {locs : List Loc} {ls : Array Slot} (w : Wd s G A [(n0, .inr (11, [.ref n1, .ref n2, .ref n3, .ref n7, .ref n8, .ref n12, .ref n16, .ref n21, .ref n22, .ref n37, .int 0, .int (-1), .int 0, .int 0, .null, .null, .null, .null, .null])), (n22, .inr (2, [.int 0, .int 0, .ref n23, .ref n24, .ref n25, .ref n26, .ref n27, .ref n28, .ref n29, .ref n30, .ref n31, .ref n32, .ref n33, .ref n34, .ref n35, .ref n36, .int 0])), (n64, .inr (12, [.int 0, .int 0, .int 0, .int 0, .int 0, .int 0, .int 0, .int (-1), .ref n65, .ref n66, .ref n67, .int 0, .ref n68, .ref n69, .ref n70, .ref n71, .ref n72, .ref n73, .ref n74, .int 0, .ref n75, .ref n76, .ref n77, .ref n78, .ref n79, .ref n80, .ref n81, .int 0, .int (-1), .int 0, .ref n82, .ref n83, .ref n84, .ref n85, .ref n86, .ref n87, .ref n88, .ref n89, .int 0, .ref n90, .ref n91, .ref n92, .ref n93, .ref n94, .int 0, .ref n95, .ref n96, .ref n97, .ref n98, .int 0, .ref n99, .ref n100, .ref n101, .ref n102, .int 0, .int 0, .ref n103, .ref n104, .ref n105, .ref n106])), (n66, .inl (G.2.1, 242, .inl (fun _ => 0)))] H locs) (hl : lv_has ls 8 [(4, .int 0), (3, .ref n107), (2, .ref n64), (1, .ref n0), (0, .ref b)]) : W p l e room_1 s m #[Value.ref b] below meth c H locs 108 210172 (lw_Z below #[Value.ref b] s) (F0 m 1336 ls []) := by
  have hx := C.hx
  have hb := C.hb
  refine lv_aload_n hx hb dL_law_1336 rfl (lv_at hl 3 rfl) ?_
  refine lv_aload_n hx hb dL_law_1337 rfl (lv_at hl 4 rfl) ?_
  refine lv_iload hx hb dL_law_1338 (lv_at hl 0 rfl) ?_
  refine lv_iconst (v := 1) hx hb dL_law_1340 (by decide) ?_
  refine lv_iadd hx hb dL_law_1341 ?_
  refine z_i (v := 1) (by decide +kernel) ?_
  refine va_sld hx hb hX hbl hbA w.2.2 (i := 1) (by decide) dL_law_1342 ?_
  refine z_i (v := (xs 1)) rfl ?_
  refine lv_aload_n hx hb dL_law_1343 rfl (lv_at hl 4 rfl) ?_
  refine lv_iload hx hb dL_law_1344 (lv_at hl 0 rfl) ?_
  refine lv_iconst (v := 2) hx hb dL_law_1346 (by decide) ?_
  refine lv_iadd hx hb dL_law_1347 ?_
  refine z_i (v := 2) (by decide +kernel) ?_
  refine va_sld hx hb hX hbl hbA w.2.2 (i := 2) (by decide) dL_law_1348 ?_
  refine z_i (v := (xs 2)) rfl ?_
  refine lv_aload_n hx hb dL_law_1349 rfl (lv_at hl 1 rfl) ?_
  refine fin_i C w (run_H C w mh_L_210 (k188_goal C.b0 n0 n22 n107 n1 n2 n3 n7 n8 n12 n16 n21 n37 n23 n24 n25 n26 n27 n28 n29 n30 n31 n32 n33 n34 n35 n36 ((xs 1)) ((xs 2)) H.size) [0, 1] rfl rfl (by decide) rfl hl.1 rfl (Nat.le_of_ble_eq_true rfl) dL_law_1350 (cells2 := 109) (slots2 := 210178) (by decide)) [0, 1] [2, 3] rfl rfl (by decide) (cells2 := 109) (slots2 := 210178) (by decide) (fun u1 H locs w => ?_)
  have w : Wd s G A [(n64, .inr (12, [.int 0, .int 0, .int 0, .int 0, .int 0, .int 0, .int 0, .int (-1), .ref n65, .ref n66, .ref n67, .int 0, .ref n68, .ref n69, .ref n70, .ref n71, .ref n72, .ref n73, .ref n74, .int 0, .ref n75, .ref n76, .ref n77, .ref n78, .ref n79, .ref n80, .ref n81, .int 0, .int (-1), .int 0, .ref n82, .ref n83, .ref n84, .ref n85, .ref n86, .ref n87, .ref n88, .ref n89, .int 0, .ref n90, .ref n91, .ref n92, .ref n93, .ref n94, .int 0, .ref n95, .ref n96, .ref n97, .ref n98, .int 0, .ref n99, .ref n100, .ref n101, .ref n102, .int 0, .int 0, .ref n103, .ref n104, .ref n105, .ref n106])), (n66, .inl (G.2.1, 242, .inl (fun _ => 0))), (n0, .inr (11, [.ref n1, .ref n2, .ref n3, .ref n7, .ref n8, .ref n12, .ref n16, .ref n21, .ref n22, .ref n37, .int 0, .int (-1), .int 0, .int 0, .null, .null, .null, .null, .null])), (n22, .inr (2, [.int 0, .int 0, .ref n23, .ref n24, .ref n25, .ref n26, .ref n27, .ref n28, .ref n29, .ref n30, .ref n31, .ref n32, .ref n33, .ref n34, .ref n35, .ref n36, .int 0]))] H locs := w
  refine lv_istore (lv' := [(5, .int 1), (4, .int 0), (3, .ref n107), (2, .ref n64), (1, .ref n0), (0, .ref b)]) hx hb dL_law_1353 hl (by decide) rfl (fun ls hl => ?_)
  refine lv_aload_n hx hb dL_law_1355 rfl (lv_at hl 3 rfl) ?_
  refine lv_aload_n hx hb dL_law_1356 rfl (lv_at hl 5 rfl) ?_
  refine lv_iload hx hb dL_law_1357 (lv_at hl 1 rfl) ?_
  refine lv_iconst (v := 1) hx hb dL_law_1359 (by decide) ?_
  refine lv_iadd hx hb dL_law_1360 ?_
  refine z_i (v := 1) (by decide +kernel) ?_
  refine va_sld hx hb hX hbl hbA w.2.2 (i := 1) (by decide) dL_law_1361 ?_
  refine z_i (v := (xs 1)) rfl ?_
  refine lv_aload_n hx hb dL_law_1362 rfl (lv_at hl 5 rfl) ?_
  refine lv_iload hx hb dL_law_1363 (lv_at hl 1 rfl) ?_
  refine lv_iconst (v := 2) hx hb dL_law_1365 (by decide) ?_
  refine lv_iadd hx hb dL_law_1366 ?_
  refine z_i (v := 2) (by decide +kernel) ?_
  refine va_sld hx hb hX hbl hbA w.2.2 (i := 2) (by decide) dL_law_1367 ?_
  refine z_i (v := (xs 2)) rfl ?_
  refine fin_i C w (run_V C w mv_L_212 (k189_goal C.b0 n64 n66 n65 n67 n68 n69 n70 n71 n72 n73 n74 n75 n76 n77 n78 n79 n80 n81 n82 n83 n84 n85 n86 n87 n88 n89 n90 n91 n92 n93 n94 n95 n96 n97 n98 n99 n100 n101 n102 n103 n104 n105 n106 ((xs 1)) ((xs 2)) H.size) [0, 1] rfl rfl 0 rfl rfl (by decide) rfl hl.1 rfl (Nat.le_of_ble_eq_true rfl) dL_law_1368 (cells2 := 109) (slots2 := 210178) (by decide)) [0, 1] [2, 3] rfl rfl (by decide) (cells2 := 109) (slots2 := 210178) (by decide) (fun u2 H locs w => ?_)
  have w : Wd s G A [(n0, .inr (11, [.ref n1, .ref n2, .ref n3, .ref n7, .ref n8, .ref n12, .ref n16, .ref n21, .ref n22, .ref n37, .int 0, .int (-1), .int 0, .int 0, .null, .null, .null, .null, .null])), (n22, .inr (2, [.int 0, .int 0, .ref n23, .ref n24, .ref n25, .ref n26, .ref n27, .ref n28, .ref n29, .ref n30, .ref n31, .ref n32, .ref n33, .ref n34, .ref n35, .ref n36, .int 0])), (n64, .inr (12, [.int 1, .int 0, .int 0, .int 0, .int 0, .int 0, .int 0, .int (-1), .ref n65, .ref n66, .ref n67, .int 0, .ref n68, .ref n69, .ref n70, .ref n71, .ref n72, .ref n73, .ref n74, .int 0, .ref n75, .ref n76, .ref n77, .ref n78, .ref n79, .ref n80, .ref n81, .int 0, .int (-1), .int 0, .ref n82, .ref n83, .ref n84, .ref n85, .ref n86, .ref n87, .ref n88, .ref n89, .int 0, .ref n90, .ref n91, .ref n92, .ref n93, .ref n94, .int 0, .ref n95, .ref n96, .ref n97, .ref n98, .int 0, .ref n99, .ref n100, .ref n101, .ref n102, .int 0, .int 0, .ref n103, .ref n104, .ref n105, .ref n106])), (n66, .inl (G.2.1, 242, .inl (fun _ => 0)))] H locs := w
  refine lv_istore (lv' := [(6, .int 0), (5, .int 1), (4, .int 0), (3, .ref n107), (2, .ref n64), (1, .ref n0), (0, .ref b)]) hx hb dL_law_1371 hl (by decide) rfl (fun ls hl => ?_)
  refine lv_aload_n hx hb dL_law_1373 rfl (lv_at hl 4 rfl) ?_
  refine fin_i C w (run_V C w mv_L_150 (k20_thrown C.b0 n64 n65 n66 n67 n68 n69 n70 n71 n72 n73 n74 n75 n76 n77 n78 n79 n80 n81 n82 n83 n84 n85 n86 n87 n88 n89 n90 n91 n92 n93 n94 n95 n96 n97 n98 n99 n100 n101 n102 n103 n104 n105 n106 H.size) [2] rfl rfl 2 rfl rfl (by decide) rfl hl.1 rfl (Nat.le_of_ble_eq_true rfl) dL_law_1374 (cells2 := 109) (slots2 := 210178) (by decide)) [2] [0, 1, 3] rfl rfl (by decide) (cells2 := 109) (slots2 := 210178) (by decide) (fun u3 H locs w => ?_)
  have w : Wd s G A [(n0, .inr (11, [.ref n1, .ref n2, .ref n3, .ref n7, .ref n8, .ref n12, .ref n16, .ref n21, .ref n22, .ref n37, .int 0, .int (-1), .int 0, .int 0, .null, .null, .null, .null, .null])), (n22, .inr (2, [.int 0, .int 0, .ref n23, .ref n24, .ref n25, .ref n26, .ref n27, .ref n28, .ref n29, .ref n30, .ref n31, .ref n32, .ref n33, .ref n34, .ref n35, .ref n36, .int 0])), (n66, .inl (G.2.1, 242, .inl (fun _ => 0))), (n64, .inr (12, [.int 1, .int 0, .int 0, .int 0, .int 0, .int 0, .int 0, .int (-1), .ref n65, .ref n66, .ref n67, .int 0, .ref n68, .ref n69, .ref n70, .ref n71, .ref n72, .ref n73, .ref n74, .int 0, .ref n75, .ref n76, .ref n77, .ref n78, .ref n79, .ref n80, .ref n81, .int 0, .int (-1), .int 0, .ref n82, .ref n83, .ref n84, .ref n85, .ref n86, .ref n87, .ref n88, .ref n89, .int 0, .ref n90, .ref n91, .ref n92, .ref n93, .ref n94, .int 0, .ref n95, .ref n96, .ref n97, .ref n98, .int 0, .ref n99, .ref n100, .ref n101, .ref n102, .int 0, .int 0, .ref n103, .ref n104, .ref n105, .ref n106]))] H locs := w
  refine lv_iload hx hb dL_law_1377 (lv_at hl 1 rfl) ?_
  refine lv_icmp_eq (tgt := 1384) hx hb dL_law_1379 (by decide) (fun _ => ?_) (fun h => absurd (by decide) h)
  refine lv_iload hx hb dL_law_1384 (lv_at hl 1 rfl) ?_
  refine lv_if_ne (tgt := 1401) hx hb dL_law_1386 (by decide) (fun _ => ?_) (fun h => h.elim (by decide))
  refine lv_goto (tgt := 3027) hx hb dL_law_1401 (by decide) ?_
  exact lc_end C hr hX hbl hbA w (lv_sub hl [2, 6] rfl) (by decide) (by decide)
set_option maxRecDepth 100000 in
set_option maxHeartbeats 4000000 in
theorem lc_20_0 {l : Launch} {G : GT} {p : Program} {e : Env} {s : State} {m : MethodId} {below : List Frame} {meth : Method} {c : Code} {A : Nat → Prop} {b : Nat} {xs : Nat → Int32} (C : Cx l s #[Value.ref b] G p s m #[Value.ref b] meth c RL cL_law 8 "law" A) (hr : meth.sig.returnType = some .boolean) (hX : va_X b 6 xs s s.heap) (hbl : b < s.heap.size) (hbA : ¬ A b) (n0 n1 n2 n3 n7 n8 n12 n16 n21 n22 n37 n64 n65 n66 n67 n68 n69 n70 n71 n72 n73 n74 n75 n76 n77 n78 n79 n80 n81 n82 n83 n84 n85 n86 n87 n88 n89 n90 n91 n92 n93 n94 n95 n96 n97 n98 n99 n100 n101 n102 n103 n104 n105 n106 n107 : Nat) (g0 : (xs 1) < 1) {H : Heap} {locs : List Loc} {ls : Array Slot} (w : Wd s G A [(n0, .inr (11, [.ref n1, .ref n2, .ref n3, .ref n7, .ref n8, .ref n12, .ref n16, .ref n21, .ref n22, .ref n37, .int 0, .int (-1), .int 0, .int 0, .null, .null, .null, .null, .null])), (n64, .inr (12, [.int 0, .int 0, .int 0, .int 0, .int 0, .int 0, .int 0, .int (-1), .ref n65, .ref n66, .ref n67, .int 0, .ref n68, .ref n69, .ref n70, .ref n71, .ref n72, .ref n73, .ref n74, .int 0, .ref n75, .ref n76, .ref n77, .ref n78, .ref n79, .ref n80, .ref n81, .int 0, .int (-1), .int 0, .ref n82, .ref n83, .ref n84, .ref n85, .ref n86, .ref n87, .ref n88, .ref n89, .int 0, .ref n90, .ref n91, .ref n92, .ref n93, .ref n94, .int 0, .ref n95, .ref n96, .ref n97, .ref n98, .int 0, .ref n99, .ref n100, .ref n101, .ref n102, .int 0, .int 0, .ref n103, .ref n104, .ref n105, .ref n106]))] H locs) (hl : lv_has ls 8 [(4, .int 0), (3, .ref n107), (2, .ref n64), (1, .ref n0), (0, .ref b)]) : W p l e room_1 s m #[Value.ref b] below meth c H locs 108 210172 (lw_Z below #[Value.ref b] s) (F0 m 1404 ls []) := by
  have hx := C.hx
  have hb := C.hb
  refine lv_aload_n hx hb dL_law_1404 rfl (lv_at hl 3 rfl) ?_
  refine lv_aload_n hx hb dL_law_1405 rfl (lv_at hl 4 rfl) ?_
  refine lv_iload hx hb dL_law_1406 (lv_at hl 0 rfl) ?_
  refine lv_iconst (v := 1) hx hb dL_law_1408 (by decide) ?_
  refine lv_iadd hx hb dL_law_1409 ?_
  refine z_i (v := 1) (by decide +kernel) ?_
  refine va_sld hx hb hX hbl hbA w.2.2 (i := 1) (by decide) dL_law_1410 ?_
  refine z_i (v := (xs 1)) rfl ?_
  refine lv_aload_n hx hb dL_law_1411 rfl (lv_at hl 4 rfl) ?_
  refine lv_iload hx hb dL_law_1412 (lv_at hl 0 rfl) ?_
  refine lv_iconst (v := 2) hx hb dL_law_1414 (by decide) ?_
  refine lv_iadd hx hb dL_law_1415 ?_
  refine z_i (v := 2) (by decide +kernel) ?_
  refine va_sld hx hb hX hbl hbA w.2.2 (i := 2) (by decide) dL_law_1416 ?_
  refine z_i (v := (xs 2)) rfl ?_
  refine lv_if_eq (tgt := 1424) hx hb dL_law_1417 (by decide) (fun hf1 => ?_) (fun hf1 => ?_)
  · refine lv_iconst (v := 0) hx hb dL_law_1424 (by decide) ?_
    refine lv_aload_n hx hb dL_law_1425 rfl (lv_at hl 1 rfl) ?_
    refine fin_i C w (run_H C w mh_L_213 (k191_way C.b0 n0 n107 n1 n2 n3 n7 n8 n12 n16 n21 n22 n37 ((xs 1)) g0 H.size) [0] rfl rfl (by decide) rfl hl.1 rfl (Nat.le_of_ble_eq_true rfl) dL_law_1426 (cells2 := 109) (slots2 := 210178) (by decide)) [0] [1] rfl rfl (by decide) (cells2 := 109) (slots2 := 210178) (by decide) (fun u2 H locs w => ?_)
    have w : Wd s G A [(n64, .inr (12, [.int 0, .int 0, .int 0, .int 0, .int 0, .int 0, .int 0, .int (-1), .ref n65, .ref n66, .ref n67, .int 0, .ref n68, .ref n69, .ref n70, .ref n71, .ref n72, .ref n73, .ref n74, .int 0, .ref n75, .ref n76, .ref n77, .ref n78, .ref n79, .ref n80, .ref n81, .int 0, .int (-1), .int 0, .ref n82, .ref n83, .ref n84, .ref n85, .ref n86, .ref n87, .ref n88, .ref n89, .int 0, .ref n90, .ref n91, .ref n92, .ref n93, .ref n94, .int 0, .ref n95, .ref n96, .ref n97, .ref n98, .int 0, .ref n99, .ref n100, .ref n101, .ref n102, .int 0, .int 0, .ref n103, .ref n104, .ref n105, .ref n106])), (n0, .inr (11, [.ref n1, .ref n2, .ref n3, .ref n7, .ref n8, .ref n12, .ref n16, .ref n21, .ref n22, .ref n37, .int 0, .int (-1), .int 0, .int 0, .null, .null, .null, .null, .null]))] H locs := w
    refine lv_istore (lv' := [(5, .int 1), (4, .int 0), (3, .ref n107), (2, .ref n64), (1, .ref n0), (0, .ref b)]) hx hb dL_law_1429 hl (by decide) rfl (fun ls hl => ?_)
    refine lv_aload_n hx hb dL_law_1431 rfl (lv_at hl 3 rfl) ?_
    refine lv_aload_n hx hb dL_law_1432 rfl (lv_at hl 5 rfl) ?_
    refine lv_iload hx hb dL_law_1433 (lv_at hl 1 rfl) ?_
    refine lv_iconst (v := 1) hx hb dL_law_1435 (by decide) ?_
    refine lv_iadd hx hb dL_law_1436 ?_
    refine z_i (v := 1) (by decide +kernel) ?_
    refine va_sld hx hb hX hbl hbA w.2.2 (i := 1) (by decide) dL_law_1437 ?_
    refine z_i (v := (xs 1)) rfl ?_
    refine lv_aload_n hx hb dL_law_1438 rfl (lv_at hl 5 rfl) ?_
    refine lv_iload hx hb dL_law_1439 (lv_at hl 1 rfl) ?_
    refine lv_iconst (v := 2) hx hb dL_law_1441 (by decide) ?_
    refine lv_iadd hx hb dL_law_1442 ?_
    refine z_i (v := 2) (by decide +kernel) ?_
    refine va_sld hx hb hX hbl hbA w.2.2 (i := 2) (by decide) dL_law_1443 ?_
    refine z_i (v := (xs 2)) rfl ?_
    refine lv_if_eq (tgt := 1451) hx hb dL_law_1444 (by decide) (fun _ => ?_) (fun h => absurd hf1 h)
    refine lv_iconst (v := 0) hx hb dL_law_1451 (by decide) ?_
    refine fin_i C w (run_V C w mv_L_216 (k192_way C.b0 n64 n65 n66 n67 n68 n69 n70 n71 n72 n73 n74 n75 n76 n77 n78 n79 n80 n81 n82 n83 n84 n85 n86 n87 n88 n89 n90 n91 n92 n93 n94 n95 n96 n97 n98 n99 n100 n101 n102 n103 n104 n105 n106 ((xs 1)) g0 H.size) [0] rfl rfl 0 rfl rfl (by decide) rfl hl.1 rfl (Nat.le_of_ble_eq_true rfl) dL_law_1452 (cells2 := 109) (slots2 := 210178) (by decide)) [0] [1] rfl rfl (by decide) (cells2 := 109) (slots2 := 210178) (by decide) (fun u3 H locs w => ?_)
    have w : Wd s G A [(n0, .inr (11, [.ref n1, .ref n2, .ref n3, .ref n7, .ref n8, .ref n12, .ref n16, .ref n21, .ref n22, .ref n37, .int 0, .int (-1), .int 0, .int 0, .null, .null, .null, .null, .null])), (n64, .inr (12, [.int 1, .int 0, .int 0, .int 0, .int 0, .int 0, .int 0, .int (-1), .ref n65, .ref n66, .ref n67, .int 0, .ref n68, .ref n69, .ref n70, .ref n71, .ref n72, .ref n73, .ref n74, .int 0, .ref n75, .ref n76, .ref n77, .ref n78, .ref n79, .ref n80, .ref n81, .int 0, .int (-1), .int 0, .ref n82, .ref n83, .ref n84, .ref n85, .ref n86, .ref n87, .ref n88, .ref n89, .int 0, .ref n90, .ref n91, .ref n92, .ref n93, .ref n94, .int 0, .ref n95, .ref n96, .ref n97, .ref n98, .int 0, .ref n99, .ref n100, .ref n101, .ref n102, .int 0, .int 0, .ref n103, .ref n104, .ref n105, .ref n106]))] H locs := w
    refine lv_istore (lv' := [(6, .int 0), (5, .int 1), (4, .int 0), (3, .ref n107), (2, .ref n64), (1, .ref n0), (0, .ref b)]) hx hb dL_law_1455 hl (by decide) rfl (fun ls hl => ?_)
    refine lv_aload_n hx hb dL_law_1457 rfl (lv_at hl 4 rfl) ?_
    refine fin_i C w (run_V C w mv_L_150 (k20_thrown C.b0 n64 n65 n66 n67 n68 n69 n70 n71 n72 n73 n74 n75 n76 n77 n78 n79 n80 n81 n82 n83 n84 n85 n86 n87 n88 n89 n90 n91 n92 n93 n94 n95 n96 n97 n98 n99 n100 n101 n102 n103 n104 n105 n106 H.size) [1] rfl rfl 1 rfl rfl (by decide) rfl hl.1 rfl (Nat.le_of_ble_eq_true rfl) dL_law_1458 (cells2 := 109) (slots2 := 210178) (by decide)) [1] [0] rfl rfl (by decide) (cells2 := 109) (slots2 := 210178) (by decide) (fun u4 H locs w => ?_)
    have w : Wd s G A [(n0, .inr (11, [.ref n1, .ref n2, .ref n3, .ref n7, .ref n8, .ref n12, .ref n16, .ref n21, .ref n22, .ref n37, .int 0, .int (-1), .int 0, .int 0, .null, .null, .null, .null, .null])), (n64, .inr (12, [.int 1, .int 0, .int 0, .int 0, .int 0, .int 0, .int 0, .int (-1), .ref n65, .ref n66, .ref n67, .int 0, .ref n68, .ref n69, .ref n70, .ref n71, .ref n72, .ref n73, .ref n74, .int 0, .ref n75, .ref n76, .ref n77, .ref n78, .ref n79, .ref n80, .ref n81, .int 0, .int (-1), .int 0, .ref n82, .ref n83, .ref n84, .ref n85, .ref n86, .ref n87, .ref n88, .ref n89, .int 0, .ref n90, .ref n91, .ref n92, .ref n93, .ref n94, .int 0, .ref n95, .ref n96, .ref n97, .ref n98, .int 0, .ref n99, .ref n100, .ref n101, .ref n102, .int 0, .int 0, .ref n103, .ref n104, .ref n105, .ref n106]))] H locs := w
    refine lv_iload hx hb dL_law_1461 (lv_at hl 1 rfl) ?_
    refine lv_icmp_eq (tgt := 1468) hx hb dL_law_1463 (by decide) (fun _ => ?_) (fun h => absurd (by decide) h)
    refine lv_iload hx hb dL_law_1468 (lv_at hl 1 rfl) ?_
    refine lv_if_ne (tgt := 1485) hx hb dL_law_1470 (by decide) (fun _ => ?_) (fun h => h.elim (by decide))
    refine lv_goto (tgt := 3027) hx hb dL_law_1485 (by decide) ?_
    exact lc_end C hr hX hbl hbA w (lv_sub hl [2, 6] rfl) (by decide) (by decide)
  · refine lv_iconst (v := 1) hx hb dL_law_1420 (by decide) ?_
    refine lv_goto (tgt := 1425) hx hb dL_law_1421 (by decide) ?_
    refine lv_aload_n hx hb dL_law_1425 rfl (lv_at hl 1 rfl) ?_
    refine fin_i C w (run_H C w mh_L_213 (k194_way C.b0 n0 n107 n1 n2 n3 n7 n8 n12 n16 n21 n22 n37 ((xs 1)) g0 H.size) [0] rfl rfl (by decide) rfl hl.1 rfl (Nat.le_of_ble_eq_true rfl) dL_law_1426 (cells2 := 109) (slots2 := 210178) (by decide)) [0] [1] rfl rfl (by decide) (cells2 := 109) (slots2 := 210178) (by decide) (fun u5 H locs w => ?_)
    have w : Wd s G A [(n64, .inr (12, [.int 0, .int 0, .int 0, .int 0, .int 0, .int 0, .int 0, .int (-1), .ref n65, .ref n66, .ref n67, .int 0, .ref n68, .ref n69, .ref n70, .ref n71, .ref n72, .ref n73, .ref n74, .int 0, .ref n75, .ref n76, .ref n77, .ref n78, .ref n79, .ref n80, .ref n81, .int 0, .int (-1), .int 0, .ref n82, .ref n83, .ref n84, .ref n85, .ref n86, .ref n87, .ref n88, .ref n89, .int 0, .ref n90, .ref n91, .ref n92, .ref n93, .ref n94, .int 0, .ref n95, .ref n96, .ref n97, .ref n98, .int 0, .ref n99, .ref n100, .ref n101, .ref n102, .int 0, .int 0, .ref n103, .ref n104, .ref n105, .ref n106])), (n0, .inr (11, [.ref n1, .ref n2, .ref n3, .ref n7, .ref n8, .ref n12, .ref n16, .ref n21, .ref n22, .ref n37, .int 0, .int (-1), .int 0, .int 0, .null, .null, .null, .null, .null]))] H locs := w
    refine lv_istore (lv' := [(5, .int 1), (4, .int 0), (3, .ref n107), (2, .ref n64), (1, .ref n0), (0, .ref b)]) hx hb dL_law_1429 hl (by decide) rfl (fun ls hl => ?_)
    refine lv_aload_n hx hb dL_law_1431 rfl (lv_at hl 3 rfl) ?_
    refine lv_aload_n hx hb dL_law_1432 rfl (lv_at hl 5 rfl) ?_
    refine lv_iload hx hb dL_law_1433 (lv_at hl 1 rfl) ?_
    refine lv_iconst (v := 1) hx hb dL_law_1435 (by decide) ?_
    refine lv_iadd hx hb dL_law_1436 ?_
    refine z_i (v := 1) (by decide +kernel) ?_
    refine va_sld hx hb hX hbl hbA w.2.2 (i := 1) (by decide) dL_law_1437 ?_
    refine z_i (v := (xs 1)) rfl ?_
    refine lv_aload_n hx hb dL_law_1438 rfl (lv_at hl 5 rfl) ?_
    refine lv_iload hx hb dL_law_1439 (lv_at hl 1 rfl) ?_
    refine lv_iconst (v := 2) hx hb dL_law_1441 (by decide) ?_
    refine lv_iadd hx hb dL_law_1442 ?_
    refine z_i (v := 2) (by decide +kernel) ?_
    refine va_sld hx hb hX hbl hbA w.2.2 (i := 2) (by decide) dL_law_1443 ?_
    refine z_i (v := (xs 2)) rfl ?_
    refine lv_if_eq (tgt := 1451) hx hb dL_law_1444 (by decide) (fun h => absurd h hf1) (fun _ => ?_)
    refine lv_iconst (v := 1) hx hb dL_law_1447 (by decide) ?_
    refine lv_goto (tgt := 1452) hx hb dL_law_1448 (by decide) ?_
    refine fin_i C w (run_V C w mv_L_216 (k195_way C.b0 n64 n65 n66 n67 n68 n69 n70 n71 n72 n73 n74 n75 n76 n77 n78 n79 n80 n81 n82 n83 n84 n85 n86 n87 n88 n89 n90 n91 n92 n93 n94 n95 n96 n97 n98 n99 n100 n101 n102 n103 n104 n105 n106 ((xs 1)) g0 H.size) [0] rfl rfl 0 rfl rfl (by decide) rfl hl.1 rfl (Nat.le_of_ble_eq_true rfl) dL_law_1452 (cells2 := 109) (slots2 := 210178) (by decide)) [0] [1] rfl rfl (by decide) (cells2 := 109) (slots2 := 210178) (by decide) (fun u6 H locs w => ?_)
    have w : Wd s G A [(n0, .inr (11, [.ref n1, .ref n2, .ref n3, .ref n7, .ref n8, .ref n12, .ref n16, .ref n21, .ref n22, .ref n37, .int 0, .int (-1), .int 0, .int 0, .null, .null, .null, .null, .null])), (n64, .inr (12, [.int 1, .int 0, .int 0, .int 0, .int 0, .int 0, .int 0, .int (-1), .ref n65, .ref n66, .ref n67, .int 0, .ref n68, .ref n69, .ref n70, .ref n71, .ref n72, .ref n73, .ref n74, .int 0, .ref n75, .ref n76, .ref n77, .ref n78, .ref n79, .ref n80, .ref n81, .int 0, .int (-1), .int 0, .ref n82, .ref n83, .ref n84, .ref n85, .ref n86, .ref n87, .ref n88, .ref n89, .int 0, .ref n90, .ref n91, .ref n92, .ref n93, .ref n94, .int 0, .ref n95, .ref n96, .ref n97, .ref n98, .int 0, .ref n99, .ref n100, .ref n101, .ref n102, .int 0, .int 0, .ref n103, .ref n104, .ref n105, .ref n106]))] H locs := w
    refine lv_istore (lv' := [(6, .int 0), (5, .int 1), (4, .int 0), (3, .ref n107), (2, .ref n64), (1, .ref n0), (0, .ref b)]) hx hb dL_law_1455 hl (by decide) rfl (fun ls hl => ?_)
    refine lv_aload_n hx hb dL_law_1457 rfl (lv_at hl 4 rfl) ?_
    refine fin_i C w (run_V C w mv_L_150 (k20_thrown C.b0 n64 n65 n66 n67 n68 n69 n70 n71 n72 n73 n74 n75 n76 n77 n78 n79 n80 n81 n82 n83 n84 n85 n86 n87 n88 n89 n90 n91 n92 n93 n94 n95 n96 n97 n98 n99 n100 n101 n102 n103 n104 n105 n106 H.size) [1] rfl rfl 1 rfl rfl (by decide) rfl hl.1 rfl (Nat.le_of_ble_eq_true rfl) dL_law_1458 (cells2 := 109) (slots2 := 210178) (by decide)) [1] [0] rfl rfl (by decide) (cells2 := 109) (slots2 := 210178) (by decide) (fun u7 H locs w => ?_)
    have w : Wd s G A [(n0, .inr (11, [.ref n1, .ref n2, .ref n3, .ref n7, .ref n8, .ref n12, .ref n16, .ref n21, .ref n22, .ref n37, .int 0, .int (-1), .int 0, .int 0, .null, .null, .null, .null, .null])), (n64, .inr (12, [.int 1, .int 0, .int 0, .int 0, .int 0, .int 0, .int 0, .int (-1), .ref n65, .ref n66, .ref n67, .int 0, .ref n68, .ref n69, .ref n70, .ref n71, .ref n72, .ref n73, .ref n74, .int 0, .ref n75, .ref n76, .ref n77, .ref n78, .ref n79, .ref n80, .ref n81, .int 0, .int (-1), .int 0, .ref n82, .ref n83, .ref n84, .ref n85, .ref n86, .ref n87, .ref n88, .ref n89, .int 0, .ref n90, .ref n91, .ref n92, .ref n93, .ref n94, .int 0, .ref n95, .ref n96, .ref n97, .ref n98, .int 0, .ref n99, .ref n100, .ref n101, .ref n102, .int 0, .int 0, .ref n103, .ref n104, .ref n105, .ref n106]))] H locs := w
    refine lv_iload hx hb dL_law_1461 (lv_at hl 1 rfl) ?_
    refine lv_icmp_eq (tgt := 1468) hx hb dL_law_1463 (by decide) (fun _ => ?_) (fun h => absurd (by decide) h)
    refine lv_iload hx hb dL_law_1468 (lv_at hl 1 rfl) ?_
    refine lv_if_ne (tgt := 1485) hx hb dL_law_1470 (by decide) (fun _ => ?_) (fun h => h.elim (by decide))
    refine lv_goto (tgt := 3027) hx hb dL_law_1485 (by decide) ?_
    exact lc_end C hr hX hbl hbA w (lv_sub hl [2, 6] rfl) (by decide) (by decide)
set_option maxRecDepth 100000 in
set_option maxHeartbeats 4000000 in
theorem lc_20_1 {l : Launch} {G : GT} {p : Program} {e : Env} {s : State} {m : MethodId} {below : List Frame} {meth : Method} {c : Code} {A : Nat → Prop} {b : Nat} {xs : Nat → Int32} (C : Cx l s #[Value.ref b] G p s m #[Value.ref b] meth c RL cL_law 8 "law" A) (hr : meth.sig.returnType = some .boolean) (hX : va_X b 6 xs s s.heap) (hbl : b < s.heap.size) (hbA : ¬ A b) (n0 n1 n2 n3 n7 n8 n12 n16 n21 n22 n37 n64 n65 n66 n67 n68 n69 n70 n71 n72 n73 n74 n75 n76 n77 n78 n79 n80 n81 n82 n83 n84 n85 n86 n87 n88 n89 n90 n91 n92 n93 n94 n95 n96 n97 n98 n99 n100 n101 n102 n103 n104 n105 n106 n107 : Nat) (g0 : ¬ (xs 1) < 1) (g1 : 3000 < (xs 1)) {H : Heap} {locs : List Loc} {ls : Array Slot} (w : Wd s G A [(n0, .inr (11, [.ref n1, .ref n2, .ref n3, .ref n7, .ref n8, .ref n12, .ref n16, .ref n21, .ref n22, .ref n37, .int 0, .int (-1), .int 0, .int 0, .null, .null, .null, .null, .null])), (n64, .inr (12, [.int 0, .int 0, .int 0, .int 0, .int 0, .int 0, .int 0, .int (-1), .ref n65, .ref n66, .ref n67, .int 0, .ref n68, .ref n69, .ref n70, .ref n71, .ref n72, .ref n73, .ref n74, .int 0, .ref n75, .ref n76, .ref n77, .ref n78, .ref n79, .ref n80, .ref n81, .int 0, .int (-1), .int 0, .ref n82, .ref n83, .ref n84, .ref n85, .ref n86, .ref n87, .ref n88, .ref n89, .int 0, .ref n90, .ref n91, .ref n92, .ref n93, .ref n94, .int 0, .ref n95, .ref n96, .ref n97, .ref n98, .int 0, .ref n99, .ref n100, .ref n101, .ref n102, .int 0, .int 0, .ref n103, .ref n104, .ref n105, .ref n106]))] H locs) (hl : lv_has ls 8 [(4, .int 0), (3, .ref n107), (2, .ref n64), (1, .ref n0), (0, .ref b)]) : W p l e room_1 s m #[Value.ref b] below meth c H locs 108 210172 (lw_Z below #[Value.ref b] s) (F0 m 1404 ls []) := by
  have hx := C.hx
  have hb := C.hb
  refine lv_aload_n hx hb dL_law_1404 rfl (lv_at hl 3 rfl) ?_
  refine lv_aload_n hx hb dL_law_1405 rfl (lv_at hl 4 rfl) ?_
  refine lv_iload hx hb dL_law_1406 (lv_at hl 0 rfl) ?_
  refine lv_iconst (v := 1) hx hb dL_law_1408 (by decide) ?_
  refine lv_iadd hx hb dL_law_1409 ?_
  refine z_i (v := 1) (by decide +kernel) ?_
  refine va_sld hx hb hX hbl hbA w.2.2 (i := 1) (by decide) dL_law_1410 ?_
  refine z_i (v := (xs 1)) rfl ?_
  refine lv_aload_n hx hb dL_law_1411 rfl (lv_at hl 4 rfl) ?_
  refine lv_iload hx hb dL_law_1412 (lv_at hl 0 rfl) ?_
  refine lv_iconst (v := 2) hx hb dL_law_1414 (by decide) ?_
  refine lv_iadd hx hb dL_law_1415 ?_
  refine z_i (v := 2) (by decide +kernel) ?_
  refine va_sld hx hb hX hbl hbA w.2.2 (i := 2) (by decide) dL_law_1416 ?_
  refine z_i (v := (xs 2)) rfl ?_
  refine lv_if_eq (tgt := 1424) hx hb dL_law_1417 (by decide) (fun hf1 => ?_) (fun hf1 => ?_)
  · refine lv_iconst (v := 0) hx hb dL_law_1424 (by decide) ?_
    refine lv_aload_n hx hb dL_law_1425 rfl (lv_at hl 1 rfl) ?_
    refine fin_i C w (run_H C w mh_L_213 (k197_way C.b0 n0 n107 n1 n2 n3 n7 n8 n12 n16 n21 n22 n37 ((xs 1)) g1 g0 H.size) [0] rfl rfl (by decide) rfl hl.1 rfl (Nat.le_of_ble_eq_true rfl) dL_law_1426 (cells2 := 109) (slots2 := 210178) (by decide)) [0] [1] rfl rfl (by decide) (cells2 := 109) (slots2 := 210178) (by decide) (fun u2 H locs w => ?_)
    have w : Wd s G A [(n64, .inr (12, [.int 0, .int 0, .int 0, .int 0, .int 0, .int 0, .int 0, .int (-1), .ref n65, .ref n66, .ref n67, .int 0, .ref n68, .ref n69, .ref n70, .ref n71, .ref n72, .ref n73, .ref n74, .int 0, .ref n75, .ref n76, .ref n77, .ref n78, .ref n79, .ref n80, .ref n81, .int 0, .int (-1), .int 0, .ref n82, .ref n83, .ref n84, .ref n85, .ref n86, .ref n87, .ref n88, .ref n89, .int 0, .ref n90, .ref n91, .ref n92, .ref n93, .ref n94, .int 0, .ref n95, .ref n96, .ref n97, .ref n98, .int 0, .ref n99, .ref n100, .ref n101, .ref n102, .int 0, .int 0, .ref n103, .ref n104, .ref n105, .ref n106])), (n0, .inr (11, [.ref n1, .ref n2, .ref n3, .ref n7, .ref n8, .ref n12, .ref n16, .ref n21, .ref n22, .ref n37, .int 0, .int (-1), .int 0, .int 0, .null, .null, .null, .null, .null]))] H locs := w
    refine lv_istore (lv' := [(5, .int 1), (4, .int 0), (3, .ref n107), (2, .ref n64), (1, .ref n0), (0, .ref b)]) hx hb dL_law_1429 hl (by decide) rfl (fun ls hl => ?_)
    refine lv_aload_n hx hb dL_law_1431 rfl (lv_at hl 3 rfl) ?_
    refine lv_aload_n hx hb dL_law_1432 rfl (lv_at hl 5 rfl) ?_
    refine lv_iload hx hb dL_law_1433 (lv_at hl 1 rfl) ?_
    refine lv_iconst (v := 1) hx hb dL_law_1435 (by decide) ?_
    refine lv_iadd hx hb dL_law_1436 ?_
    refine z_i (v := 1) (by decide +kernel) ?_
    refine va_sld hx hb hX hbl hbA w.2.2 (i := 1) (by decide) dL_law_1437 ?_
    refine z_i (v := (xs 1)) rfl ?_
    refine lv_aload_n hx hb dL_law_1438 rfl (lv_at hl 5 rfl) ?_
    refine lv_iload hx hb dL_law_1439 (lv_at hl 1 rfl) ?_
    refine lv_iconst (v := 2) hx hb dL_law_1441 (by decide) ?_
    refine lv_iadd hx hb dL_law_1442 ?_
    refine z_i (v := 2) (by decide +kernel) ?_
    refine va_sld hx hb hX hbl hbA w.2.2 (i := 2) (by decide) dL_law_1443 ?_
    refine z_i (v := (xs 2)) rfl ?_
    refine lv_if_eq (tgt := 1451) hx hb dL_law_1444 (by decide) (fun _ => ?_) (fun h => absurd hf1 h)
    refine lv_iconst (v := 0) hx hb dL_law_1451 (by decide) ?_
    refine fin_i C w (run_V C w mv_L_216 (k198_way C.b0 n64 n65 n66 n67 n68 n69 n70 n71 n72 n73 n74 n75 n76 n77 n78 n79 n80 n81 n82 n83 n84 n85 n86 n87 n88 n89 n90 n91 n92 n93 n94 n95 n96 n97 n98 n99 n100 n101 n102 n103 n104 n105 n106 ((xs 1)) g1 g0 H.size) [0] rfl rfl 0 rfl rfl (by decide) rfl hl.1 rfl (Nat.le_of_ble_eq_true rfl) dL_law_1452 (cells2 := 109) (slots2 := 210178) (by decide)) [0] [1] rfl rfl (by decide) (cells2 := 109) (slots2 := 210178) (by decide) (fun u3 H locs w => ?_)
    have w : Wd s G A [(n0, .inr (11, [.ref n1, .ref n2, .ref n3, .ref n7, .ref n8, .ref n12, .ref n16, .ref n21, .ref n22, .ref n37, .int 0, .int (-1), .int 0, .int 0, .null, .null, .null, .null, .null])), (n64, .inr (12, [.int 1, .int 0, .int 0, .int 0, .int 0, .int 0, .int 0, .int (-1), .ref n65, .ref n66, .ref n67, .int 0, .ref n68, .ref n69, .ref n70, .ref n71, .ref n72, .ref n73, .ref n74, .int 0, .ref n75, .ref n76, .ref n77, .ref n78, .ref n79, .ref n80, .ref n81, .int 0, .int (-1), .int 0, .ref n82, .ref n83, .ref n84, .ref n85, .ref n86, .ref n87, .ref n88, .ref n89, .int 0, .ref n90, .ref n91, .ref n92, .ref n93, .ref n94, .int 0, .ref n95, .ref n96, .ref n97, .ref n98, .int 0, .ref n99, .ref n100, .ref n101, .ref n102, .int 0, .int 0, .ref n103, .ref n104, .ref n105, .ref n106]))] H locs := w
    refine lv_istore (lv' := [(6, .int 0), (5, .int 1), (4, .int 0), (3, .ref n107), (2, .ref n64), (1, .ref n0), (0, .ref b)]) hx hb dL_law_1455 hl (by decide) rfl (fun ls hl => ?_)
    refine lv_aload_n hx hb dL_law_1457 rfl (lv_at hl 4 rfl) ?_
    refine fin_i C w (run_V C w mv_L_150 (k20_thrown C.b0 n64 n65 n66 n67 n68 n69 n70 n71 n72 n73 n74 n75 n76 n77 n78 n79 n80 n81 n82 n83 n84 n85 n86 n87 n88 n89 n90 n91 n92 n93 n94 n95 n96 n97 n98 n99 n100 n101 n102 n103 n104 n105 n106 H.size) [1] rfl rfl 1 rfl rfl (by decide) rfl hl.1 rfl (Nat.le_of_ble_eq_true rfl) dL_law_1458 (cells2 := 109) (slots2 := 210178) (by decide)) [1] [0] rfl rfl (by decide) (cells2 := 109) (slots2 := 210178) (by decide) (fun u4 H locs w => ?_)
    have w : Wd s G A [(n0, .inr (11, [.ref n1, .ref n2, .ref n3, .ref n7, .ref n8, .ref n12, .ref n16, .ref n21, .ref n22, .ref n37, .int 0, .int (-1), .int 0, .int 0, .null, .null, .null, .null, .null])), (n64, .inr (12, [.int 1, .int 0, .int 0, .int 0, .int 0, .int 0, .int 0, .int (-1), .ref n65, .ref n66, .ref n67, .int 0, .ref n68, .ref n69, .ref n70, .ref n71, .ref n72, .ref n73, .ref n74, .int 0, .ref n75, .ref n76, .ref n77, .ref n78, .ref n79, .ref n80, .ref n81, .int 0, .int (-1), .int 0, .ref n82, .ref n83, .ref n84, .ref n85, .ref n86, .ref n87, .ref n88, .ref n89, .int 0, .ref n90, .ref n91, .ref n92, .ref n93, .ref n94, .int 0, .ref n95, .ref n96, .ref n97, .ref n98, .int 0, .ref n99, .ref n100, .ref n101, .ref n102, .int 0, .int 0, .ref n103, .ref n104, .ref n105, .ref n106]))] H locs := w
    refine lv_iload hx hb dL_law_1461 (lv_at hl 1 rfl) ?_
    refine lv_icmp_eq (tgt := 1468) hx hb dL_law_1463 (by decide) (fun _ => ?_) (fun h => absurd (by decide) h)
    refine lv_iload hx hb dL_law_1468 (lv_at hl 1 rfl) ?_
    refine lv_if_ne (tgt := 1485) hx hb dL_law_1470 (by decide) (fun _ => ?_) (fun h => h.elim (by decide))
    refine lv_goto (tgt := 3027) hx hb dL_law_1485 (by decide) ?_
    exact lc_end C hr hX hbl hbA w (lv_sub hl [2, 6] rfl) (by decide) (by decide)
  · refine lv_iconst (v := 1) hx hb dL_law_1420 (by decide) ?_
    refine lv_goto (tgt := 1425) hx hb dL_law_1421 (by decide) ?_
    refine lv_aload_n hx hb dL_law_1425 rfl (lv_at hl 1 rfl) ?_
    refine fin_i C w (run_H C w mh_L_213 (k200_way C.b0 n0 n107 n1 n2 n3 n7 n8 n12 n16 n21 n22 n37 ((xs 1)) g1 g0 H.size) [0] rfl rfl (by decide) rfl hl.1 rfl (Nat.le_of_ble_eq_true rfl) dL_law_1426 (cells2 := 109) (slots2 := 210178) (by decide)) [0] [1] rfl rfl (by decide) (cells2 := 109) (slots2 := 210178) (by decide) (fun u5 H locs w => ?_)
    have w : Wd s G A [(n64, .inr (12, [.int 0, .int 0, .int 0, .int 0, .int 0, .int 0, .int 0, .int (-1), .ref n65, .ref n66, .ref n67, .int 0, .ref n68, .ref n69, .ref n70, .ref n71, .ref n72, .ref n73, .ref n74, .int 0, .ref n75, .ref n76, .ref n77, .ref n78, .ref n79, .ref n80, .ref n81, .int 0, .int (-1), .int 0, .ref n82, .ref n83, .ref n84, .ref n85, .ref n86, .ref n87, .ref n88, .ref n89, .int 0, .ref n90, .ref n91, .ref n92, .ref n93, .ref n94, .int 0, .ref n95, .ref n96, .ref n97, .ref n98, .int 0, .ref n99, .ref n100, .ref n101, .ref n102, .int 0, .int 0, .ref n103, .ref n104, .ref n105, .ref n106])), (n0, .inr (11, [.ref n1, .ref n2, .ref n3, .ref n7, .ref n8, .ref n12, .ref n16, .ref n21, .ref n22, .ref n37, .int 0, .int (-1), .int 0, .int 0, .null, .null, .null, .null, .null]))] H locs := w
    refine lv_istore (lv' := [(5, .int 1), (4, .int 0), (3, .ref n107), (2, .ref n64), (1, .ref n0), (0, .ref b)]) hx hb dL_law_1429 hl (by decide) rfl (fun ls hl => ?_)
    refine lv_aload_n hx hb dL_law_1431 rfl (lv_at hl 3 rfl) ?_
    refine lv_aload_n hx hb dL_law_1432 rfl (lv_at hl 5 rfl) ?_
    refine lv_iload hx hb dL_law_1433 (lv_at hl 1 rfl) ?_
    refine lv_iconst (v := 1) hx hb dL_law_1435 (by decide) ?_
    refine lv_iadd hx hb dL_law_1436 ?_
    refine z_i (v := 1) (by decide +kernel) ?_
    refine va_sld hx hb hX hbl hbA w.2.2 (i := 1) (by decide) dL_law_1437 ?_
    refine z_i (v := (xs 1)) rfl ?_
    refine lv_aload_n hx hb dL_law_1438 rfl (lv_at hl 5 rfl) ?_
    refine lv_iload hx hb dL_law_1439 (lv_at hl 1 rfl) ?_
    refine lv_iconst (v := 2) hx hb dL_law_1441 (by decide) ?_
    refine lv_iadd hx hb dL_law_1442 ?_
    refine z_i (v := 2) (by decide +kernel) ?_
    refine va_sld hx hb hX hbl hbA w.2.2 (i := 2) (by decide) dL_law_1443 ?_
    refine z_i (v := (xs 2)) rfl ?_
    refine lv_if_eq (tgt := 1451) hx hb dL_law_1444 (by decide) (fun h => absurd h hf1) (fun _ => ?_)
    refine lv_iconst (v := 1) hx hb dL_law_1447 (by decide) ?_
    refine lv_goto (tgt := 1452) hx hb dL_law_1448 (by decide) ?_
    refine fin_i C w (run_V C w mv_L_216 (k201_way C.b0 n64 n65 n66 n67 n68 n69 n70 n71 n72 n73 n74 n75 n76 n77 n78 n79 n80 n81 n82 n83 n84 n85 n86 n87 n88 n89 n90 n91 n92 n93 n94 n95 n96 n97 n98 n99 n100 n101 n102 n103 n104 n105 n106 ((xs 1)) g1 g0 H.size) [0] rfl rfl 0 rfl rfl (by decide) rfl hl.1 rfl (Nat.le_of_ble_eq_true rfl) dL_law_1452 (cells2 := 109) (slots2 := 210178) (by decide)) [0] [1] rfl rfl (by decide) (cells2 := 109) (slots2 := 210178) (by decide) (fun u6 H locs w => ?_)
    have w : Wd s G A [(n0, .inr (11, [.ref n1, .ref n2, .ref n3, .ref n7, .ref n8, .ref n12, .ref n16, .ref n21, .ref n22, .ref n37, .int 0, .int (-1), .int 0, .int 0, .null, .null, .null, .null, .null])), (n64, .inr (12, [.int 1, .int 0, .int 0, .int 0, .int 0, .int 0, .int 0, .int (-1), .ref n65, .ref n66, .ref n67, .int 0, .ref n68, .ref n69, .ref n70, .ref n71, .ref n72, .ref n73, .ref n74, .int 0, .ref n75, .ref n76, .ref n77, .ref n78, .ref n79, .ref n80, .ref n81, .int 0, .int (-1), .int 0, .ref n82, .ref n83, .ref n84, .ref n85, .ref n86, .ref n87, .ref n88, .ref n89, .int 0, .ref n90, .ref n91, .ref n92, .ref n93, .ref n94, .int 0, .ref n95, .ref n96, .ref n97, .ref n98, .int 0, .ref n99, .ref n100, .ref n101, .ref n102, .int 0, .int 0, .ref n103, .ref n104, .ref n105, .ref n106]))] H locs := w
    refine lv_istore (lv' := [(6, .int 0), (5, .int 1), (4, .int 0), (3, .ref n107), (2, .ref n64), (1, .ref n0), (0, .ref b)]) hx hb dL_law_1455 hl (by decide) rfl (fun ls hl => ?_)
    refine lv_aload_n hx hb dL_law_1457 rfl (lv_at hl 4 rfl) ?_
    refine fin_i C w (run_V C w mv_L_150 (k20_thrown C.b0 n64 n65 n66 n67 n68 n69 n70 n71 n72 n73 n74 n75 n76 n77 n78 n79 n80 n81 n82 n83 n84 n85 n86 n87 n88 n89 n90 n91 n92 n93 n94 n95 n96 n97 n98 n99 n100 n101 n102 n103 n104 n105 n106 H.size) [1] rfl rfl 1 rfl rfl (by decide) rfl hl.1 rfl (Nat.le_of_ble_eq_true rfl) dL_law_1458 (cells2 := 109) (slots2 := 210178) (by decide)) [1] [0] rfl rfl (by decide) (cells2 := 109) (slots2 := 210178) (by decide) (fun u7 H locs w => ?_)
    have w : Wd s G A [(n0, .inr (11, [.ref n1, .ref n2, .ref n3, .ref n7, .ref n8, .ref n12, .ref n16, .ref n21, .ref n22, .ref n37, .int 0, .int (-1), .int 0, .int 0, .null, .null, .null, .null, .null])), (n64, .inr (12, [.int 1, .int 0, .int 0, .int 0, .int 0, .int 0, .int 0, .int (-1), .ref n65, .ref n66, .ref n67, .int 0, .ref n68, .ref n69, .ref n70, .ref n71, .ref n72, .ref n73, .ref n74, .int 0, .ref n75, .ref n76, .ref n77, .ref n78, .ref n79, .ref n80, .ref n81, .int 0, .int (-1), .int 0, .ref n82, .ref n83, .ref n84, .ref n85, .ref n86, .ref n87, .ref n88, .ref n89, .int 0, .ref n90, .ref n91, .ref n92, .ref n93, .ref n94, .int 0, .ref n95, .ref n96, .ref n97, .ref n98, .int 0, .ref n99, .ref n100, .ref n101, .ref n102, .int 0, .int 0, .ref n103, .ref n104, .ref n105, .ref n106]))] H locs := w
    refine lv_iload hx hb dL_law_1461 (lv_at hl 1 rfl) ?_
    refine lv_icmp_eq (tgt := 1468) hx hb dL_law_1463 (by decide) (fun _ => ?_) (fun h => absurd (by decide) h)
    refine lv_iload hx hb dL_law_1468 (lv_at hl 1 rfl) ?_
    refine lv_if_ne (tgt := 1485) hx hb dL_law_1470 (by decide) (fun _ => ?_) (fun h => h.elim (by decide))
    refine lv_goto (tgt := 3027) hx hb dL_law_1485 (by decide) ?_
    exact lc_end C hr hX hbl hbA w (lv_sub hl [2, 6] rfl) (by decide) (by decide)
set_option maxRecDepth 100000 in
set_option maxHeartbeats 4000000 in
theorem lc_20_2 {l : Launch} {G : GT} {p : Program} {e : Env} {s : State} {m : MethodId} {below : List Frame} {meth : Method} {c : Code} {A : Nat → Prop} {b : Nat} {xs : Nat → Int32} (C : Cx l s #[Value.ref b] G p s m #[Value.ref b] meth c RL cL_law 8 "law" A) (hr : meth.sig.returnType = some .boolean) (hX : va_X b 6 xs s s.heap) (hbl : b < s.heap.size) (hbA : ¬ A b) (n0 n1 n2 n3 n4 n5 n6 n7 n8 n12 n16 n21 n22 n23 n24 n25 n26 n27 n28 n29 n30 n31 n32 n33 n34 n35 n36 n37 n64 n65 n66 n67 n68 n69 n70 n71 n72 n73 n74 n75 n76 n77 n78 n79 n80 n81 n82 n83 n84 n85 n86 n87 n88 n89 n90 n91 n92 n93 n94 n95 n96 n97 n98 n99 n100 n101 n102 n103 n104 n105 n106 n107 : Nat) (g0 : ¬ (xs 1) < 1) (g1 : ¬ 3000 < (xs 1)) {H : Heap} {locs : List Loc} {ls : Array Slot} (w : Wd s G A [(n0, .inr (11, [.ref n1, .ref n2, .ref n3, .ref n7, .ref n8, .ref n12, .ref n16, .ref n21, .ref n22, .ref n37, .int 0, .int (-1), .int 0, .int 0, .null, .null, .null, .null, .null])), (n3, .inr (5, [.ref n4, .ref n5, .ref n6, .int 0])), (n4, .inl (G.2.1, 8, .inl (fun _ => 0))), (n22, .inr (2, [.int 0, .int 0, .ref n23, .ref n24, .ref n25, .ref n26, .ref n27, .ref n28, .ref n29, .ref n30, .ref n31, .ref n32, .ref n33, .ref n34, .ref n35, .ref n36, .int 0])), (n64, .inr (12, [.int 0, .int 0, .int 0, .int 0, .int 0, .int 0, .int 0, .int (-1), .ref n65, .ref n66, .ref n67, .int 0, .ref n68, .ref n69, .ref n70, .ref n71, .ref n72, .ref n73, .ref n74, .int 0, .ref n75, .ref n76, .ref n77, .ref n78, .ref n79, .ref n80, .ref n81, .int 0, .int (-1), .int 0, .ref n82, .ref n83, .ref n84, .ref n85, .ref n86, .ref n87, .ref n88, .ref n89, .int 0, .ref n90, .ref n91, .ref n92, .ref n93, .ref n94, .int 0, .ref n95, .ref n96, .ref n97, .ref n98, .int 0, .ref n99, .ref n100, .ref n101, .ref n102, .int 0, .int 0, .ref n103, .ref n104, .ref n105, .ref n106])), (n66, .inl (G.2.1, 242, .inl (fun _ => 0))), (n73, .inl (G.2.1, 57, .inl (fun _ => 0))), (n75, .inl (G.2.1, 8, .inl (fun _ => 0))), (n76, .inl (G.2.1, 24008, .inl (fun _ => 0))), (n78, .inl (G.2.1, 3000, .inl (fun _ => 0))), (n79, .inl (G.2.1, 3000, .inl (fun _ => 0))), (n80, .inl (G.2.1, 4096, .inl (fun _ => 0))), (n81, .inl (G.2.1, 3000, .inl (fun _ => 0))), (n107, .inl (G.2.2.1, 1, .inr (.inl (fun _ => 0))))] H locs) (hl : lv_has ls 8 [(4, .int 0), (3, .ref n107), (2, .ref n64), (1, .ref n0), (0, .ref b)]) : W p l e room_1 s m #[Value.ref b] below meth c H locs 108 210172 (lw_Z below #[Value.ref b] s) (F0 m 1404 ls []) := by
  have hx := C.hx
  have hb := C.hb
  refine lv_aload_n hx hb dL_law_1404 rfl (lv_at hl 3 rfl) ?_
  refine lv_aload_n hx hb dL_law_1405 rfl (lv_at hl 4 rfl) ?_
  refine lv_iload hx hb dL_law_1406 (lv_at hl 0 rfl) ?_
  refine lv_iconst (v := 1) hx hb dL_law_1408 (by decide) ?_
  refine lv_iadd hx hb dL_law_1409 ?_
  refine z_i (v := 1) (by decide +kernel) ?_
  refine va_sld hx hb hX hbl hbA w.2.2 (i := 1) (by decide) dL_law_1410 ?_
  refine z_i (v := (xs 1)) rfl ?_
  refine lv_aload_n hx hb dL_law_1411 rfl (lv_at hl 4 rfl) ?_
  refine lv_iload hx hb dL_law_1412 (lv_at hl 0 rfl) ?_
  refine lv_iconst (v := 2) hx hb dL_law_1414 (by decide) ?_
  refine lv_iadd hx hb dL_law_1415 ?_
  refine z_i (v := 2) (by decide +kernel) ?_
  refine va_sld hx hb hX hbl hbA w.2.2 (i := 2) (by decide) dL_law_1416 ?_
  refine z_i (v := (xs 2)) rfl ?_
  refine lv_if_eq (tgt := 1424) hx hb dL_law_1417 (by decide) (fun hf1 => ?_) (fun hf1 => ?_)
  · refine lv_iconst (v := 0) hx hb dL_law_1424 (by decide) ?_
    refine lv_aload_n hx hb dL_law_1425 rfl (lv_at hl 1 rfl) ?_
    refine fin_i C w (run_H C w mh_L_213 (k206_way C.b0 n0 n3 n22 n4 n107 n1 n2 n7 n8 n12 n16 n21 n37 n5 n6 n23 n24 n25 n26 n27 n28 n29 n30 n31 n32 n33 n34 n35 n36 ((xs 1)) g1 g0 H.size) [0, 1, 3, 2, 13] rfl rfl (by decide) rfl hl.1 rfl (Nat.le_of_ble_eq_true rfl) dL_law_1426 (cells2 := 117) (slots2 := 275538) (by decide)) [0, 1, 3, 2, 13] [4, 5, 6, 7, 8, 9, 10, 11, 12] rfl rfl (by decide) (cells2 := 117) (slots2 := 275538) (by decide) (fun u2 H locs w => ?_)
    have w : Wd s G A [(n64, .inr (12, [.int 0, .int 0, .int 0, .int 0, .int 0, .int 0, .int 0, .int (-1), .ref n65, .ref n66, .ref n67, .int 0, .ref n68, .ref n69, .ref n70, .ref n71, .ref n72, .ref n73, .ref n74, .int 0, .ref n75, .ref n76, .ref n77, .ref n78, .ref n79, .ref n80, .ref n81, .int 0, .int (-1), .int 0, .ref n82, .ref n83, .ref n84, .ref n85, .ref n86, .ref n87, .ref n88, .ref n89, .int 0, .ref n90, .ref n91, .ref n92, .ref n93, .ref n94, .int 0, .ref n95, .ref n96, .ref n97, .ref n98, .int 0, .ref n99, .ref n100, .ref n101, .ref n102, .int 0, .int 0, .ref n103, .ref n104, .ref n105, .ref n106])), (n66, .inl (G.2.1, 242, .inl (fun _ => 0))), (n73, .inl (G.2.1, 57, .inl (fun _ => 0))), (n75, .inl (G.2.1, 8, .inl (fun _ => 0))), (n76, .inl (G.2.1, 24008, .inl (fun _ => 0))), (n78, .inl (G.2.1, 3000, .inl (fun _ => 0))), (n79, .inl (G.2.1, 3000, .inl (fun _ => 0))), (n80, .inl (G.2.1, 4096, .inl (fun _ => 0))), (n81, .inl (G.2.1, 3000, .inl (fun _ => 0))), (n0, .inr (11, [.ref n1, .ref n2, .ref n3, .ref n7, .ref n8, .ref n12, .ref n16, .ref n21, .ref n22, .ref n37, .int 0, .int (-1), .int 0, .int 0, .ref (u2 0), .null, .null, .null, .null])), (n3, .inr (5, [.ref n4, .ref n5, .ref n6, .int 0])), (n22, .inr (2, [.int 0, .int 0, .ref n23, .ref n24, .ref n25, .ref n26, .ref n27, .ref n28, .ref n29, .ref n30, .ref n31, .ref n32, .ref n33, .ref n34, .ref n35, .ref n36, .int 0])), (n4, .inl (G.2.1, 8, .inl (fun _ => 0))), (n107, .inl (G.2.2.1, 1, .inr (.inl (fun _ => 0)))), ((u2 0), .inr (1, [.int 0, .ref n22, .ref (u2 1), .ref (u2 2), .ref (u2 5), .ref (u2 6), .ref (u2 7), .ref (u2 8), .int 1])), ((u2 1), .inl (G.2.1, 24064, .inl (fun _ => 0))), ((u2 2), .inr (7, [.ref (u2 3), .int 0, .int 1, .int 3008, .ref (u2 4)])), ((u2 3), .inl (G.2.1, 24064, .inl (fun _ => 0))), ((u2 4), .inl (G.2.1, 8192, .inl (upd (fun _ => (-1)) 7 0))), ((u2 5), .inl (G.2.1, 3008, .inl (fun _ => 0))), ((u2 6), .inl (G.2.1, 3008, .inl (upd (fun _ => 0) 0 (-1)))), ((u2 7), .inl (G.2.1, 3008, .inl (upd (fun _ => 0) 0 (-1)))), ((u2 8), .inl (G.2.1, 8, .inl (fun _ => 0)))] H locs := w
    refine lv_istore (lv' := [(5, .int 0), (4, .int 0), (3, .ref n107), (2, .ref n64), (1, .ref n0), (0, .ref b)]) hx hb dL_law_1429 hl (by decide) rfl (fun ls hl => ?_)
    refine lv_aload_n hx hb dL_law_1431 rfl (lv_at hl 3 rfl) ?_
    refine lv_aload_n hx hb dL_law_1432 rfl (lv_at hl 5 rfl) ?_
    refine lv_iload hx hb dL_law_1433 (lv_at hl 1 rfl) ?_
    refine lv_iconst (v := 1) hx hb dL_law_1435 (by decide) ?_
    refine lv_iadd hx hb dL_law_1436 ?_
    refine z_i (v := 1) (by decide +kernel) ?_
    refine va_sld hx hb hX hbl hbA w.2.2 (i := 1) (by decide) dL_law_1437 ?_
    refine z_i (v := (xs 1)) rfl ?_
    refine lv_aload_n hx hb dL_law_1438 rfl (lv_at hl 5 rfl) ?_
    refine lv_iload hx hb dL_law_1439 (lv_at hl 1 rfl) ?_
    refine lv_iconst (v := 2) hx hb dL_law_1441 (by decide) ?_
    refine lv_iadd hx hb dL_law_1442 ?_
    refine z_i (v := 2) (by decide +kernel) ?_
    refine va_sld hx hb hX hbl hbA w.2.2 (i := 2) (by decide) dL_law_1443 ?_
    refine z_i (v := (xs 2)) rfl ?_
    refine lv_if_eq (tgt := 1451) hx hb dL_law_1444 (by decide) (fun _ => ?_) (fun h => absurd hf1 h)
    refine lv_iconst (v := 0) hx hb dL_law_1451 (by decide) ?_
    refine fin_i C w (run_V C w mv_L_216 (k211_way C.b0 n64 n80 n73 n75 n76 n81 n78 n79 n66 n65 n67 n68 n69 n70 n71 n72 n74 n77 n82 n83 n84 n85 n86 n87 n88 n89 n90 n91 n92 n93 n94 n95 n96 n97 n98 n99 n100 n101 n102 n103 n104 n105 n106 ((xs 1)) g1 g0 H.size) [0, 7, 2, 3, 4, 8, 5, 6, 1] rfl rfl 0 rfl rfl (by decide) rfl hl.1 rfl (Nat.le_of_ble_eq_true rfl) dL_law_1452 (cells2 := 117) (slots2 := 275538) (by decide)) [0, 7, 2, 3, 4, 8, 5, 6, 1] [9, 10, 11, 12, 13, 14, 15, 16, 17, 18, 19, 20, 21, 22] rfl rfl (by decide) (cells2 := 117) (slots2 := 275538) (by decide) (fun u3 H locs w => ?_)
    have w : Wd s G A [(n0, .inr (11, [.ref n1, .ref n2, .ref n3, .ref n7, .ref n8, .ref n12, .ref n16, .ref n21, .ref n22, .ref n37, .int 0, .int (-1), .int 0, .int 0, .ref (u2 0), .null, .null, .null, .null])), (n3, .inr (5, [.ref n4, .ref n5, .ref n6, .int 0])), (n22, .inr (2, [.int 0, .int 0, .ref n23, .ref n24, .ref n25, .ref n26, .ref n27, .ref n28, .ref n29, .ref n30, .ref n31, .ref n32, .ref n33, .ref n34, .ref n35, .ref n36, .int 0])), (n4, .inl (G.2.1, 8, .inl (fun _ => 0))), (n107, .inl (G.2.2.1, 1, .inr (.inl (fun _ => 0)))), ((u2 0), .inr (1, [.int 0, .ref n22, .ref (u2 1), .ref (u2 2), .ref (u2 5), .ref (u2 6), .ref (u2 7), .ref (u2 8), .int 1])), ((u2 1), .inl (G.2.1, 24064, .inl (fun _ => 0))), ((u2 2), .inr (7, [.ref (u2 3), .int 0, .int 1, .int 3008, .ref (u2 4)])), ((u2 3), .inl (G.2.1, 24064, .inl (fun _ => 0))), ((u2 4), .inl (G.2.1, 8192, .inl (upd (fun _ => (-1)) 7 0))), ((u2 5), .inl (G.2.1, 3008, .inl (fun _ => 0))), ((u2 6), .inl (G.2.1, 3008, .inl (upd (fun _ => 0) 0 (-1)))), ((u2 7), .inl (G.2.1, 3008, .inl (upd (fun _ => 0) 0 (-1)))), ((u2 8), .inl (G.2.1, 8, .inl (fun _ => 0))), (n64, .inr (12, [.int 0, .int 0, .int 0, .int 0, .int 0, .int 0, .int 0, .int (-1), .ref n65, .ref n66, .ref n67, .int 0, .ref n68, .ref n69, .ref n70, .ref n71, .ref n72, .ref n73, .ref n74, .int 0, .ref n75, .ref n76, .ref n77, .ref n78, .ref n79, .ref n80, .ref n81, .int 1, .int (-1), .int 0, .ref n82, .ref n83, .ref n84, .ref n85, .ref n86, .ref n87, .ref n88, .ref n89, .int 0, .ref n90, .ref n91, .ref n92, .ref n93, .ref n94, .int 0, .ref n95, .ref n96, .ref n97, .ref n98, .int 0, .ref n99, .ref n100, .ref n101, .ref n102, .int 0, .int 0, .ref n103, .ref n104, .ref n105, .ref n106])), (n80, .inl (G.2.1, 4096, .inl (upd (fun _ => (-1)) 0 0))), (n73, .inl (G.2.1, 57, .inl (fun _ => 0))), (n75, .inl (G.2.1, 8, .inl (fun _ => 0))), (n76, .inl (G.2.1, 24008, .inl (fun _ => 0))), (n81, .inl (G.2.1, 3000, .inl (upd (fun _ => 0) 0 (-1)))), (n78, .inl (G.2.1, 3000, .inl (upd (fun _ => 0) 0 (-1)))), (n79, .inl (G.2.1, 3000, .inl (upd (fun _ => 0) 0 (-1)))), (n66, .inl (G.2.1, 242, .inl (fun _ => 0)))] H locs := w
    refine lv_istore (lv' := [(6, .int 0), (5, .int 0), (4, .int 0), (3, .ref n107), (2, .ref n64), (1, .ref n0), (0, .ref b)]) hx hb dL_law_1455 hl (by decide) rfl (fun ls hl => ?_)
    refine lv_aload_n hx hb dL_law_1457 rfl (lv_at hl 4 rfl) ?_
    refine fin_i C w (run_V C w mv_L_150 (k126_thrown C.b0 n64 n65 n66 n67 n68 n69 n70 n71 n72 n73 n74 n75 n76 n77 n78 n79 n80 n81 n82 n83 n84 n85 n86 n87 n88 n89 n90 n91 n92 n93 n94 n95 n96 n97 n98 n99 n100 n101 n102 n103 n104 n105 n106 H.size) [14] rfl rfl 14 rfl rfl (by decide) rfl hl.1 rfl (Nat.le_of_ble_eq_true rfl) dL_law_1458 (cells2 := 117) (slots2 := 275538) (by decide)) [14] [0, 1, 2, 3, 4, 5, 6, 7, 8, 9, 10, 11, 12, 13, 15, 16, 17, 18, 19, 20, 21, 22] rfl rfl (by decide) (cells2 := 117) (slots2 := 275538) (by decide) (fun u4 H locs w => ?_)
    have w : Wd s G A [(n0, .inr (11, [.ref n1, .ref n2, .ref n3, .ref n7, .ref n8, .ref n12, .ref n16, .ref n21, .ref n22, .ref n37, .int 0, .int (-1), .int 0, .int 0, .ref (u2 0), .null, .null, .null, .null])), (n3, .inr (5, [.ref n4, .ref n5, .ref n6, .int 0])), (n22, .inr (2, [.int 0, .int 0, .ref n23, .ref n24, .ref n25, .ref n26, .ref n27, .ref n28, .ref n29, .ref n30, .ref n31, .ref n32, .ref n33, .ref n34, .ref n35, .ref n36, .int 0])), (n4, .inl (G.2.1, 8, .inl (fun _ => 0))), (n107, .inl (G.2.2.1, 1, .inr (.inl (fun _ => 0)))), ((u2 0), .inr (1, [.int 0, .ref n22, .ref (u2 1), .ref (u2 2), .ref (u2 5), .ref (u2 6), .ref (u2 7), .ref (u2 8), .int 1])), ((u2 1), .inl (G.2.1, 24064, .inl (fun _ => 0))), ((u2 2), .inr (7, [.ref (u2 3), .int 0, .int 1, .int 3008, .ref (u2 4)])), ((u2 3), .inl (G.2.1, 24064, .inl (fun _ => 0))), ((u2 4), .inl (G.2.1, 8192, .inl (upd (fun _ => (-1)) 7 0))), ((u2 5), .inl (G.2.1, 3008, .inl (fun _ => 0))), ((u2 6), .inl (G.2.1, 3008, .inl (upd (fun _ => 0) 0 (-1)))), ((u2 7), .inl (G.2.1, 3008, .inl (upd (fun _ => 0) 0 (-1)))), ((u2 8), .inl (G.2.1, 8, .inl (fun _ => 0))), (n80, .inl (G.2.1, 4096, .inl (upd (fun _ => (-1)) 0 0))), (n73, .inl (G.2.1, 57, .inl (fun _ => 0))), (n75, .inl (G.2.1, 8, .inl (fun _ => 0))), (n76, .inl (G.2.1, 24008, .inl (fun _ => 0))), (n81, .inl (G.2.1, 3000, .inl (upd (fun _ => 0) 0 (-1)))), (n78, .inl (G.2.1, 3000, .inl (upd (fun _ => 0) 0 (-1)))), (n79, .inl (G.2.1, 3000, .inl (upd (fun _ => 0) 0 (-1)))), (n66, .inl (G.2.1, 242, .inl (fun _ => 0))), (n64, .inr (12, [.int 0, .int 0, .int 0, .int 0, .int 0, .int 0, .int 0, .int (-1), .ref n65, .ref n66, .ref n67, .int 0, .ref n68, .ref n69, .ref n70, .ref n71, .ref n72, .ref n73, .ref n74, .int 0, .ref n75, .ref n76, .ref n77, .ref n78, .ref n79, .ref n80, .ref n81, .int 1, .int (-1), .int 0, .ref n82, .ref n83, .ref n84, .ref n85, .ref n86, .ref n87, .ref n88, .ref n89, .int 0, .ref n90, .ref n91, .ref n92, .ref n93, .ref n94, .int 0, .ref n95, .ref n96, .ref n97, .ref n98, .int 0, .ref n99, .ref n100, .ref n101, .ref n102, .int 0, .int 0, .ref n103, .ref n104, .ref n105, .ref n106]))] H locs := w
    refine lv_iload hx hb dL_law_1461 (lv_at hl 1 rfl) ?_
    refine lv_icmp_eq (tgt := 1468) hx hb dL_law_1463 (by decide) (fun _ => ?_) (fun h => absurd (by decide) h)
    refine lv_iload hx hb dL_law_1468 (lv_at hl 1 rfl) ?_
    refine lv_if_ne (tgt := 1485) hx hb dL_law_1470 (by decide) (fun h => absurd (by decide) h) (fun _ => ?_)
    refine lv_aload_n hx hb dL_law_1473 rfl (lv_at hl 3 rfl) ?_
    refine lv_iconst (v := 0) hx hb dL_law_1474 (by decide) ?_
    refine r_lald C w 4 rfl (IX.of (k := 0) (by decide +kernel)) (v := 0) rfl dL_law_1475 ?_
    refine lv_iload hx hb dL_law_1476 (lv_at hl 0 rfl) ?_
    refine lv_i2l (v := 0) hx hb dL_law_1478 (by decide +kernel) ?_
    refine W.lcmp hx hb dL_law_1479 ?_
    refine z_i (v := 0) (by decide +kernel) ?_
    refine lv_if_eq (tgt := 1485) hx hb dL_law_1480 (by decide) (fun _ => ?_) (fun h => absurd (by decide) h)
    refine lv_goto (tgt := 3027) hx hb dL_law_1485 (by decide) ?_
    exact lc_end C hr hX hbl hbA w (lv_sub hl [2, 6] rfl) (by decide) (by decide)
  · refine lv_iconst (v := 1) hx hb dL_law_1420 (by decide) ?_
    refine lv_goto (tgt := 1425) hx hb dL_law_1421 (by decide) ?_
    refine lv_aload_n hx hb dL_law_1425 rfl (lv_at hl 1 rfl) ?_
    refine fin_i C w (run_H C w mh_L_213 (k215_way C.b0 n0 n3 n22 n4 n107 n1 n2 n7 n8 n12 n16 n21 n37 n5 n6 n23 n24 n25 n26 n27 n28 n29 n30 n31 n32 n33 n34 n35 n36 ((xs 1)) g1 g0 H.size) [0, 1, 3, 2, 13] rfl rfl (by decide) rfl hl.1 rfl (Nat.le_of_ble_eq_true rfl) dL_law_1426 (cells2 := 117) (slots2 := 275538) (by decide)) [0, 1, 3, 2, 13] [4, 5, 6, 7, 8, 9, 10, 11, 12] rfl rfl (by decide) (cells2 := 117) (slots2 := 275538) (by decide) (fun u5 H locs w => ?_)
    have w : Wd s G A [(n64, .inr (12, [.int 0, .int 0, .int 0, .int 0, .int 0, .int 0, .int 0, .int (-1), .ref n65, .ref n66, .ref n67, .int 0, .ref n68, .ref n69, .ref n70, .ref n71, .ref n72, .ref n73, .ref n74, .int 0, .ref n75, .ref n76, .ref n77, .ref n78, .ref n79, .ref n80, .ref n81, .int 0, .int (-1), .int 0, .ref n82, .ref n83, .ref n84, .ref n85, .ref n86, .ref n87, .ref n88, .ref n89, .int 0, .ref n90, .ref n91, .ref n92, .ref n93, .ref n94, .int 0, .ref n95, .ref n96, .ref n97, .ref n98, .int 0, .ref n99, .ref n100, .ref n101, .ref n102, .int 0, .int 0, .ref n103, .ref n104, .ref n105, .ref n106])), (n66, .inl (G.2.1, 242, .inl (fun _ => 0))), (n73, .inl (G.2.1, 57, .inl (fun _ => 0))), (n75, .inl (G.2.1, 8, .inl (fun _ => 0))), (n76, .inl (G.2.1, 24008, .inl (fun _ => 0))), (n78, .inl (G.2.1, 3000, .inl (fun _ => 0))), (n79, .inl (G.2.1, 3000, .inl (fun _ => 0))), (n80, .inl (G.2.1, 4096, .inl (fun _ => 0))), (n81, .inl (G.2.1, 3000, .inl (fun _ => 0))), (n0, .inr (11, [.ref n1, .ref n2, .ref n3, .ref n7, .ref n8, .ref n12, .ref n16, .ref n21, .ref n22, .ref n37, .int 0, .int (-1), .int 0, .int 0, .ref (u5 0), .null, .null, .null, .null])), (n3, .inr (5, [.ref n4, .ref n5, .ref n6, .int 0])), (n22, .inr (2, [.int 0, .int 0, .ref n23, .ref n24, .ref n25, .ref n26, .ref n27, .ref n28, .ref n29, .ref n30, .ref n31, .ref n32, .ref n33, .ref n34, .ref n35, .ref n36, .int 0])), (n4, .inl (G.2.1, 8, .inl (fun _ => 0))), (n107, .inl (G.2.2.1, 1, .inr (.inl (fun _ => 0)))), ((u5 0), .inr (1, [.int 0, .ref n22, .ref (u5 1), .ref (u5 2), .ref (u5 5), .ref (u5 6), .ref (u5 7), .ref (u5 8), .int 1])), ((u5 1), .inl (G.2.1, 24064, .inl (fun _ => 0))), ((u5 2), .inr (7, [.ref (u5 3), .int 0, .int 1, .int 3008, .ref (u5 4)])), ((u5 3), .inl (G.2.1, 24064, .inl (fun _ => 0))), ((u5 4), .inl (G.2.1, 8192, .inl (upd (fun _ => (-1)) 7 0))), ((u5 5), .inl (G.2.1, 3008, .inl (fun _ => 0))), ((u5 6), .inl (G.2.1, 3008, .inl (upd (fun _ => 0) 0 (-1)))), ((u5 7), .inl (G.2.1, 3008, .inl (upd (fun _ => 0) 0 (-1)))), ((u5 8), .inl (G.2.1, 8, .inl (fun _ => 0)))] H locs := w
    refine lv_istore (lv' := [(5, .int 0), (4, .int 0), (3, .ref n107), (2, .ref n64), (1, .ref n0), (0, .ref b)]) hx hb dL_law_1429 hl (by decide) rfl (fun ls hl => ?_)
    refine lv_aload_n hx hb dL_law_1431 rfl (lv_at hl 3 rfl) ?_
    refine lv_aload_n hx hb dL_law_1432 rfl (lv_at hl 5 rfl) ?_
    refine lv_iload hx hb dL_law_1433 (lv_at hl 1 rfl) ?_
    refine lv_iconst (v := 1) hx hb dL_law_1435 (by decide) ?_
    refine lv_iadd hx hb dL_law_1436 ?_
    refine z_i (v := 1) (by decide +kernel) ?_
    refine va_sld hx hb hX hbl hbA w.2.2 (i := 1) (by decide) dL_law_1437 ?_
    refine z_i (v := (xs 1)) rfl ?_
    refine lv_aload_n hx hb dL_law_1438 rfl (lv_at hl 5 rfl) ?_
    refine lv_iload hx hb dL_law_1439 (lv_at hl 1 rfl) ?_
    refine lv_iconst (v := 2) hx hb dL_law_1441 (by decide) ?_
    refine lv_iadd hx hb dL_law_1442 ?_
    refine z_i (v := 2) (by decide +kernel) ?_
    refine va_sld hx hb hX hbl hbA w.2.2 (i := 2) (by decide) dL_law_1443 ?_
    refine z_i (v := (xs 2)) rfl ?_
    refine lv_if_eq (tgt := 1451) hx hb dL_law_1444 (by decide) (fun h => absurd h hf1) (fun _ => ?_)
    refine lv_iconst (v := 1) hx hb dL_law_1447 (by decide) ?_
    refine lv_goto (tgt := 1452) hx hb dL_law_1448 (by decide) ?_
    refine fin_i C w (run_V C w mv_L_216 (k218_way C.b0 n64 n80 n73 n75 n76 n81 n78 n79 n66 n65 n67 n68 n69 n70 n71 n72 n74 n77 n82 n83 n84 n85 n86 n87 n88 n89 n90 n91 n92 n93 n94 n95 n96 n97 n98 n99 n100 n101 n102 n103 n104 n105 n106 ((xs 1)) g1 g0 H.size) [0, 7, 2, 3, 4, 8, 5, 6, 1] rfl rfl 0 rfl rfl (by decide) rfl hl.1 rfl (Nat.le_of_ble_eq_true rfl) dL_law_1452 (cells2 := 117) (slots2 := 275538) (by decide)) [0, 7, 2, 3, 4, 8, 5, 6, 1] [9, 10, 11, 12, 13, 14, 15, 16, 17, 18, 19, 20, 21, 22] rfl rfl (by decide) (cells2 := 117) (slots2 := 275538) (by decide) (fun u6 H locs w => ?_)
    have w : Wd s G A [(n0, .inr (11, [.ref n1, .ref n2, .ref n3, .ref n7, .ref n8, .ref n12, .ref n16, .ref n21, .ref n22, .ref n37, .int 0, .int (-1), .int 0, .int 0, .ref (u5 0), .null, .null, .null, .null])), (n3, .inr (5, [.ref n4, .ref n5, .ref n6, .int 0])), (n22, .inr (2, [.int 0, .int 0, .ref n23, .ref n24, .ref n25, .ref n26, .ref n27, .ref n28, .ref n29, .ref n30, .ref n31, .ref n32, .ref n33, .ref n34, .ref n35, .ref n36, .int 0])), (n4, .inl (G.2.1, 8, .inl (fun _ => 0))), (n107, .inl (G.2.2.1, 1, .inr (.inl (fun _ => 0)))), ((u5 0), .inr (1, [.int 0, .ref n22, .ref (u5 1), .ref (u5 2), .ref (u5 5), .ref (u5 6), .ref (u5 7), .ref (u5 8), .int 1])), ((u5 1), .inl (G.2.1, 24064, .inl (fun _ => 0))), ((u5 2), .inr (7, [.ref (u5 3), .int 0, .int 1, .int 3008, .ref (u5 4)])), ((u5 3), .inl (G.2.1, 24064, .inl (fun _ => 0))), ((u5 4), .inl (G.2.1, 8192, .inl (upd (fun _ => (-1)) 7 0))), ((u5 5), .inl (G.2.1, 3008, .inl (fun _ => 0))), ((u5 6), .inl (G.2.1, 3008, .inl (upd (fun _ => 0) 0 (-1)))), ((u5 7), .inl (G.2.1, 3008, .inl (upd (fun _ => 0) 0 (-1)))), ((u5 8), .inl (G.2.1, 8, .inl (fun _ => 0))), (n64, .inr (12, [.int 0, .int 0, .int 0, .int 0, .int 0, .int 0, .int 0, .int (-1), .ref n65, .ref n66, .ref n67, .int 0, .ref n68, .ref n69, .ref n70, .ref n71, .ref n72, .ref n73, .ref n74, .int 0, .ref n75, .ref n76, .ref n77, .ref n78, .ref n79, .ref n80, .ref n81, .int 1, .int (-1), .int 0, .ref n82, .ref n83, .ref n84, .ref n85, .ref n86, .ref n87, .ref n88, .ref n89, .int 0, .ref n90, .ref n91, .ref n92, .ref n93, .ref n94, .int 0, .ref n95, .ref n96, .ref n97, .ref n98, .int 0, .ref n99, .ref n100, .ref n101, .ref n102, .int 0, .int 0, .ref n103, .ref n104, .ref n105, .ref n106])), (n80, .inl (G.2.1, 4096, .inl (upd (fun _ => (-1)) 0 0))), (n73, .inl (G.2.1, 57, .inl (fun _ => 0))), (n75, .inl (G.2.1, 8, .inl (fun _ => 0))), (n76, .inl (G.2.1, 24008, .inl (fun _ => 0))), (n81, .inl (G.2.1, 3000, .inl (upd (fun _ => 0) 0 (-1)))), (n78, .inl (G.2.1, 3000, .inl (upd (fun _ => 0) 0 (-1)))), (n79, .inl (G.2.1, 3000, .inl (upd (fun _ => 0) 0 (-1)))), (n66, .inl (G.2.1, 242, .inl (fun _ => 0)))] H locs := w
    refine lv_istore (lv' := [(6, .int 0), (5, .int 0), (4, .int 0), (3, .ref n107), (2, .ref n64), (1, .ref n0), (0, .ref b)]) hx hb dL_law_1455 hl (by decide) rfl (fun ls hl => ?_)
    refine lv_aload_n hx hb dL_law_1457 rfl (lv_at hl 4 rfl) ?_
    refine fin_i C w (run_V C w mv_L_150 (k126_thrown C.b0 n64 n65 n66 n67 n68 n69 n70 n71 n72 n73 n74 n75 n76 n77 n78 n79 n80 n81 n82 n83 n84 n85 n86 n87 n88 n89 n90 n91 n92 n93 n94 n95 n96 n97 n98 n99 n100 n101 n102 n103 n104 n105 n106 H.size) [14] rfl rfl 14 rfl rfl (by decide) rfl hl.1 rfl (Nat.le_of_ble_eq_true rfl) dL_law_1458 (cells2 := 117) (slots2 := 275538) (by decide)) [14] [0, 1, 2, 3, 4, 5, 6, 7, 8, 9, 10, 11, 12, 13, 15, 16, 17, 18, 19, 20, 21, 22] rfl rfl (by decide) (cells2 := 117) (slots2 := 275538) (by decide) (fun u7 H locs w => ?_)
    have w : Wd s G A [(n0, .inr (11, [.ref n1, .ref n2, .ref n3, .ref n7, .ref n8, .ref n12, .ref n16, .ref n21, .ref n22, .ref n37, .int 0, .int (-1), .int 0, .int 0, .ref (u5 0), .null, .null, .null, .null])), (n3, .inr (5, [.ref n4, .ref n5, .ref n6, .int 0])), (n22, .inr (2, [.int 0, .int 0, .ref n23, .ref n24, .ref n25, .ref n26, .ref n27, .ref n28, .ref n29, .ref n30, .ref n31, .ref n32, .ref n33, .ref n34, .ref n35, .ref n36, .int 0])), (n4, .inl (G.2.1, 8, .inl (fun _ => 0))), (n107, .inl (G.2.2.1, 1, .inr (.inl (fun _ => 0)))), ((u5 0), .inr (1, [.int 0, .ref n22, .ref (u5 1), .ref (u5 2), .ref (u5 5), .ref (u5 6), .ref (u5 7), .ref (u5 8), .int 1])), ((u5 1), .inl (G.2.1, 24064, .inl (fun _ => 0))), ((u5 2), .inr (7, [.ref (u5 3), .int 0, .int 1, .int 3008, .ref (u5 4)])), ((u5 3), .inl (G.2.1, 24064, .inl (fun _ => 0))), ((u5 4), .inl (G.2.1, 8192, .inl (upd (fun _ => (-1)) 7 0))), ((u5 5), .inl (G.2.1, 3008, .inl (fun _ => 0))), ((u5 6), .inl (G.2.1, 3008, .inl (upd (fun _ => 0) 0 (-1)))), ((u5 7), .inl (G.2.1, 3008, .inl (upd (fun _ => 0) 0 (-1)))), ((u5 8), .inl (G.2.1, 8, .inl (fun _ => 0))), (n80, .inl (G.2.1, 4096, .inl (upd (fun _ => (-1)) 0 0))), (n73, .inl (G.2.1, 57, .inl (fun _ => 0))), (n75, .inl (G.2.1, 8, .inl (fun _ => 0))), (n76, .inl (G.2.1, 24008, .inl (fun _ => 0))), (n81, .inl (G.2.1, 3000, .inl (upd (fun _ => 0) 0 (-1)))), (n78, .inl (G.2.1, 3000, .inl (upd (fun _ => 0) 0 (-1)))), (n79, .inl (G.2.1, 3000, .inl (upd (fun _ => 0) 0 (-1)))), (n66, .inl (G.2.1, 242, .inl (fun _ => 0))), (n64, .inr (12, [.int 0, .int 0, .int 0, .int 0, .int 0, .int 0, .int 0, .int (-1), .ref n65, .ref n66, .ref n67, .int 0, .ref n68, .ref n69, .ref n70, .ref n71, .ref n72, .ref n73, .ref n74, .int 0, .ref n75, .ref n76, .ref n77, .ref n78, .ref n79, .ref n80, .ref n81, .int 1, .int (-1), .int 0, .ref n82, .ref n83, .ref n84, .ref n85, .ref n86, .ref n87, .ref n88, .ref n89, .int 0, .ref n90, .ref n91, .ref n92, .ref n93, .ref n94, .int 0, .ref n95, .ref n96, .ref n97, .ref n98, .int 0, .ref n99, .ref n100, .ref n101, .ref n102, .int 0, .int 0, .ref n103, .ref n104, .ref n105, .ref n106]))] H locs := w
    refine lv_iload hx hb dL_law_1461 (lv_at hl 1 rfl) ?_
    refine lv_icmp_eq (tgt := 1468) hx hb dL_law_1463 (by decide) (fun _ => ?_) (fun h => absurd (by decide) h)
    refine lv_iload hx hb dL_law_1468 (lv_at hl 1 rfl) ?_
    refine lv_if_ne (tgt := 1485) hx hb dL_law_1470 (by decide) (fun h => absurd (by decide) h) (fun _ => ?_)
    refine lv_aload_n hx hb dL_law_1473 rfl (lv_at hl 3 rfl) ?_
    refine lv_iconst (v := 0) hx hb dL_law_1474 (by decide) ?_
    refine r_lald C w 4 rfl (IX.of (k := 0) (by decide +kernel)) (v := 0) rfl dL_law_1475 ?_
    refine lv_iload hx hb dL_law_1476 (lv_at hl 0 rfl) ?_
    refine lv_i2l (v := 0) hx hb dL_law_1478 (by decide +kernel) ?_
    refine W.lcmp hx hb dL_law_1479 ?_
    refine z_i (v := 0) (by decide +kernel) ?_
    refine lv_if_eq (tgt := 1485) hx hb dL_law_1480 (by decide) (fun _ => ?_) (fun h => absurd (by decide) h)
    refine lv_goto (tgt := 3027) hx hb dL_law_1485 (by decide) ?_
    exact lc_end C hr hX hbl hbA w (lv_sub hl [2, 6] rfl) (by decide) (by decide)
set_option maxRecDepth 100000 in
set_option maxHeartbeats 4000000 in
theorem lc_21_0 {l : Launch} {G : GT} {p : Program} {e : Env} {s : State} {m : MethodId} {below : List Frame} {meth : Method} {c : Code} {A : Nat → Prop} {b : Nat} {xs : Nat → Int32} (C : Cx l s #[Value.ref b] G p s m #[Value.ref b] meth c RL cL_law 8 "law" A) (hr : meth.sig.returnType = some .boolean) (hX : va_X b 6 xs s s.heap) (hbl : b < s.heap.size) (hbA : ¬ A b) (n0 n1 n2 n3 n7 n8 n12 n16 n21 n22 n37 n64 n65 n66 n67 n68 n69 n70 n71 n72 n73 n74 n75 n76 n77 n78 n79 n80 n81 n82 n83 n84 n85 n86 n87 n88 n89 n90 n91 n92 n93 n94 n95 n96 n97 n98 n99 n100 n101 n102 n103 n104 n105 n106 n107 : Nat) (g0 : (xs 1) < 1) {H : Heap} {locs : List Loc} {ls : Array Slot} (w : Wd s G A [(n0, .inr (11, [.ref n1, .ref n2, .ref n3, .ref n7, .ref n8, .ref n12, .ref n16, .ref n21, .ref n22, .ref n37, .int 0, .int (-1), .int 0, .int 0, .null, .null, .null, .null, .null])), (n64, .inr (12, [.int 0, .int 0, .int 0, .int 0, .int 0, .int 0, .int 0, .int (-1), .ref n65, .ref n66, .ref n67, .int 0, .ref n68, .ref n69, .ref n70, .ref n71, .ref n72, .ref n73, .ref n74, .int 0, .ref n75, .ref n76, .ref n77, .ref n78, .ref n79, .ref n80, .ref n81, .int 0, .int (-1), .int 0, .ref n82, .ref n83, .ref n84, .ref n85, .ref n86, .ref n87, .ref n88, .ref n89, .int 0, .ref n90, .ref n91, .ref n92, .ref n93, .ref n94, .int 0, .ref n95, .ref n96, .ref n97, .ref n98, .int 0, .ref n99, .ref n100, .ref n101, .ref n102, .int 0, .int 0, .ref n103, .ref n104, .ref n105, .ref n106]))] H locs) (hl : lv_has ls 8 [(4, .int 0), (3, .ref n107), (2, .ref n64), (1, .ref n0), (0, .ref b)]) : W p l e room_1 s m #[Value.ref b] below meth c H locs 108 210172 (lw_Z below #[Value.ref b] s) (F0 m 1488 ls []) := by
  have hx := C.hx
  have hb := C.hb
  refine lv_aload_n hx hb dL_law_1488 rfl (lv_at hl 3 rfl) ?_
  refine lv_aload_n hx hb dL_law_1489 rfl (lv_at hl 4 rfl) ?_
  refine lv_iload hx hb dL_law_1490 (lv_at hl 0 rfl) ?_
  refine lv_iconst (v := 1) hx hb dL_law_1492 (by decide) ?_
  refine lv_iadd hx hb dL_law_1493 ?_
  refine z_i (v := 1) (by decide +kernel) ?_
  refine va_sld hx hb hX hbl hbA w.2.2 (i := 1) (by decide) dL_law_1494 ?_
  refine z_i (v := (xs 1)) rfl ?_
  refine lv_aload_n hx hb dL_law_1495 rfl (lv_at hl 4 rfl) ?_
  refine lv_iload hx hb dL_law_1496 (lv_at hl 0 rfl) ?_
  refine lv_iconst (v := 2) hx hb dL_law_1498 (by decide) ?_
  refine lv_iadd hx hb dL_law_1499 ?_
  refine z_i (v := 2) (by decide +kernel) ?_
  refine va_sld hx hb hX hbl hbA w.2.2 (i := 2) (by decide) dL_law_1500 ?_
  refine z_i (v := (xs 2)) rfl ?_
  refine lv_if_eq (tgt := 1508) hx hb dL_law_1501 (by decide) (fun hf1 => ?_) (fun hf1 => ?_)
  · refine lv_iconst (v := 0) hx hb dL_law_1508 (by decide) ?_
    refine lv_aload_n hx hb dL_law_1509 rfl (lv_at hl 4 rfl) ?_
    refine lv_iload hx hb dL_law_1510 (lv_at hl 0 rfl) ?_
    refine lv_iconst (v := 3) hx hb dL_law_1512 (by decide) ?_
    refine lv_iadd hx hb dL_law_1513 ?_
    refine z_i (v := 3) (by decide +kernel) ?_
    refine va_sld hx hb hX hbl hbA w.2.2 (i := 3) (by decide) dL_law_1514 ?_
    refine z_i (v := (xs 3)) rfl ?_
    refine lv_aload_n hx hb dL_law_1515 rfl (lv_at hl 1 rfl) ?_
    refine fin_i C w (run_H C w mh_L_217 (k220_step C.b0 n0 n107 n1 n2 n3 n7 n8 n12 n16 n21 n22 n37 ((xs 1)) ((xs 3)) g0 H.size) [0] rfl rfl (by decide) rfl hl.1 rfl (Nat.le_of_ble_eq_true rfl) dL_law_1516 (cells2 := 109) (slots2 := 210178) (by decide)) [0] [1] rfl rfl (by decide) (cells2 := 109) (slots2 := 210178) (by decide) (fun u2 H locs w => ?_)
    have w : Wd s G A [(n64, .inr (12, [.int 0, .int 0, .int 0, .int 0, .int 0, .int 0, .int 0, .int (-1), .ref n65, .ref n66, .ref n67, .int 0, .ref n68, .ref n69, .ref n70, .ref n71, .ref n72, .ref n73, .ref n74, .int 0, .ref n75, .ref n76, .ref n77, .ref n78, .ref n79, .ref n80, .ref n81, .int 0, .int (-1), .int 0, .ref n82, .ref n83, .ref n84, .ref n85, .ref n86, .ref n87, .ref n88, .ref n89, .int 0, .ref n90, .ref n91, .ref n92, .ref n93, .ref n94, .int 0, .ref n95, .ref n96, .ref n97, .ref n98, .int 0, .ref n99, .ref n100, .ref n101, .ref n102, .int 0, .int 0, .ref n103, .ref n104, .ref n105, .ref n106])), (n0, .inr (11, [.ref n1, .ref n2, .ref n3, .ref n7, .ref n8, .ref n12, .ref n16, .ref n21, .ref n22, .ref n37, .int 0, .int (-1), .int 0, .int 0, .null, .null, .null, .null, .null]))] H locs := w
    refine lv_istore (lv' := [(5, .int 1), (4, .int 0), (3, .ref n107), (2, .ref n64), (1, .ref n0), (0, .ref b)]) hx hb dL_law_1519 hl (by decide) rfl (fun ls hl => ?_)
    refine lv_aload_n hx hb dL_law_1521 rfl (lv_at hl 3 rfl) ?_
    refine lv_aload_n hx hb dL_law_1522 rfl (lv_at hl 5 rfl) ?_
    refine lv_iload hx hb dL_law_1523 (lv_at hl 1 rfl) ?_
    refine lv_iconst (v := 1) hx hb dL_law_1525 (by decide) ?_
    refine lv_iadd hx hb dL_law_1526 ?_
    refine z_i (v := 1) (by decide +kernel) ?_
    refine va_sld hx hb hX hbl hbA w.2.2 (i := 1) (by decide) dL_law_1527 ?_
    refine z_i (v := (xs 1)) rfl ?_
    refine lv_aload_n hx hb dL_law_1528 rfl (lv_at hl 5 rfl) ?_
    refine lv_iload hx hb dL_law_1529 (lv_at hl 1 rfl) ?_
    refine lv_iconst (v := 2) hx hb dL_law_1531 (by decide) ?_
    refine lv_iadd hx hb dL_law_1532 ?_
    refine z_i (v := 2) (by decide +kernel) ?_
    refine va_sld hx hb hX hbl hbA w.2.2 (i := 2) (by decide) dL_law_1533 ?_
    refine z_i (v := (xs 2)) rfl ?_
    refine lv_if_eq (tgt := 1541) hx hb dL_law_1534 (by decide) (fun _ => ?_) (fun h => absurd hf1 h)
    refine lv_iconst (v := 0) hx hb dL_law_1541 (by decide) ?_
    refine lv_aload_n hx hb dL_law_1542 rfl (lv_at hl 5 rfl) ?_
    refine lv_iload hx hb dL_law_1543 (lv_at hl 1 rfl) ?_
    refine lv_iconst (v := 3) hx hb dL_law_1545 (by decide) ?_
    refine lv_iadd hx hb dL_law_1546 ?_
    refine z_i (v := 3) (by decide +kernel) ?_
    refine va_sld hx hb hX hbl hbA w.2.2 (i := 3) (by decide) dL_law_1547 ?_
    refine z_i (v := (xs 3)) rfl ?_
    refine fin_i C w (run_V C w mv_L_220 (k221_step C.b0 n64 n65 n66 n67 n68 n69 n70 n71 n72 n73 n74 n75 n76 n77 n78 n79 n80 n81 n82 n83 n84 n85 n86 n87 n88 n89 n90 n91 n92 n93 n94 n95 n96 n97 n98 n99 n100 n101 n102 n103 n104 n105 n106 ((xs 1)) ((xs 3)) g0 H.size) [0] rfl rfl 0 rfl rfl (by decide) rfl hl.1 rfl (Nat.le_of_ble_eq_true rfl) dL_law_1548 (cells2 := 109) (slots2 := 210178) (by decide)) [0] [1] rfl rfl (by decide) (cells2 := 109) (slots2 := 210178) (by decide) (fun u3 H locs w => ?_)
    have w : Wd s G A [(n0, .inr (11, [.ref n1, .ref n2, .ref n3, .ref n7, .ref n8, .ref n12, .ref n16, .ref n21, .ref n22, .ref n37, .int 0, .int (-1), .int 0, .int 0, .null, .null, .null, .null, .null])), (n64, .inr (12, [.int 1, .int 0, .int 0, .int 0, .int 0, .int 0, .int 0, .int (-1), .ref n65, .ref n66, .ref n67, .int 0, .ref n68, .ref n69, .ref n70, .ref n71, .ref n72, .ref n73, .ref n74, .int 0, .ref n75, .ref n76, .ref n77, .ref n78, .ref n79, .ref n80, .ref n81, .int 0, .int (-1), .int 0, .ref n82, .ref n83, .ref n84, .ref n85, .ref n86, .ref n87, .ref n88, .ref n89, .int 0, .ref n90, .ref n91, .ref n92, .ref n93, .ref n94, .int 0, .ref n95, .ref n96, .ref n97, .ref n98, .int 0, .ref n99, .ref n100, .ref n101, .ref n102, .int 0, .int 0, .ref n103, .ref n104, .ref n105, .ref n106]))] H locs := w
    refine lv_istore (lv' := [(6, .int 0), (5, .int 1), (4, .int 0), (3, .ref n107), (2, .ref n64), (1, .ref n0), (0, .ref b)]) hx hb dL_law_1551 hl (by decide) rfl (fun ls hl => ?_)
    refine lv_aload_n hx hb dL_law_1553 rfl (lv_at hl 4 rfl) ?_
    refine fin_i C w (run_V C w mv_L_150 (k20_thrown C.b0 n64 n65 n66 n67 n68 n69 n70 n71 n72 n73 n74 n75 n76 n77 n78 n79 n80 n81 n82 n83 n84 n85 n86 n87 n88 n89 n90 n91 n92 n93 n94 n95 n96 n97 n98 n99 n100 n101 n102 n103 n104 n105 n106 H.size) [1] rfl rfl 1 rfl rfl (by decide) rfl hl.1 rfl (Nat.le_of_ble_eq_true rfl) dL_law_1554 (cells2 := 109) (slots2 := 210178) (by decide)) [1] [0] rfl rfl (by decide) (cells2 := 109) (slots2 := 210178) (by decide) (fun u4 H locs w => ?_)
    have w : Wd s G A [(n0, .inr (11, [.ref n1, .ref n2, .ref n3, .ref n7, .ref n8, .ref n12, .ref n16, .ref n21, .ref n22, .ref n37, .int 0, .int (-1), .int 0, .int 0, .null, .null, .null, .null, .null])), (n64, .inr (12, [.int 1, .int 0, .int 0, .int 0, .int 0, .int 0, .int 0, .int (-1), .ref n65, .ref n66, .ref n67, .int 0, .ref n68, .ref n69, .ref n70, .ref n71, .ref n72, .ref n73, .ref n74, .int 0, .ref n75, .ref n76, .ref n77, .ref n78, .ref n79, .ref n80, .ref n81, .int 0, .int (-1), .int 0, .ref n82, .ref n83, .ref n84, .ref n85, .ref n86, .ref n87, .ref n88, .ref n89, .int 0, .ref n90, .ref n91, .ref n92, .ref n93, .ref n94, .int 0, .ref n95, .ref n96, .ref n97, .ref n98, .int 0, .ref n99, .ref n100, .ref n101, .ref n102, .int 0, .int 0, .ref n103, .ref n104, .ref n105, .ref n106]))] H locs := w
    refine lv_iload hx hb dL_law_1557 (lv_at hl 1 rfl) ?_
    refine lv_icmp_eq (tgt := 1564) hx hb dL_law_1559 (by decide) (fun _ => ?_) (fun h => absurd (by decide) h)
    refine lv_iload hx hb dL_law_1564 (lv_at hl 1 rfl) ?_
    refine lv_if_ne (tgt := 1581) hx hb dL_law_1566 (by decide) (fun _ => ?_) (fun h => h.elim (by decide))
    refine lv_goto (tgt := 3027) hx hb dL_law_1581 (by decide) ?_
    exact lc_end C hr hX hbl hbA w (lv_sub hl [2, 6] rfl) (by decide) (by decide)
  · refine lv_iconst (v := 1) hx hb dL_law_1504 (by decide) ?_
    refine lv_goto (tgt := 1509) hx hb dL_law_1505 (by decide) ?_
    refine lv_aload_n hx hb dL_law_1509 rfl (lv_at hl 4 rfl) ?_
    refine lv_iload hx hb dL_law_1510 (lv_at hl 0 rfl) ?_
    refine lv_iconst (v := 3) hx hb dL_law_1512 (by decide) ?_
    refine lv_iadd hx hb dL_law_1513 ?_
    refine z_i (v := 3) (by decide +kernel) ?_
    refine va_sld hx hb hX hbl hbA w.2.2 (i := 3) (by decide) dL_law_1514 ?_
    refine z_i (v := (xs 3)) rfl ?_
    refine lv_aload_n hx hb dL_law_1515 rfl (lv_at hl 1 rfl) ?_
    refine fin_i C w (run_H C w mh_L_217 (k223_step C.b0 n0 n107 n1 n2 n3 n7 n8 n12 n16 n21 n22 n37 ((xs 1)) ((xs 3)) g0 H.size) [0] rfl rfl (by decide) rfl hl.1 rfl (Nat.le_of_ble_eq_true rfl) dL_law_1516 (cells2 := 109) (slots2 := 210178) (by decide)) [0] [1] rfl rfl (by decide) (cells2 := 109) (slots2 := 210178) (by decide) (fun u5 H locs w => ?_)
    have w : Wd s G A [(n64, .inr (12, [.int 0, .int 0, .int 0, .int 0, .int 0, .int 0, .int 0, .int (-1), .ref n65, .ref n66, .ref n67, .int 0, .ref n68, .ref n69, .ref n70, .ref n71, .ref n72, .ref n73, .ref n74, .int 0, .ref n75, .ref n76, .ref n77, .ref n78, .ref n79, .ref n80, .ref n81, .int 0, .int (-1), .int 0, .ref n82, .ref n83, .ref n84, .ref n85, .ref n86, .ref n87, .ref n88, .ref n89, .int 0, .ref n90, .ref n91, .ref n92, .ref n93, .ref n94, .int 0, .ref n95, .ref n96, .ref n97, .ref n98, .int 0, .ref n99, .ref n100, .ref n101, .ref n102, .int 0, .int 0, .ref n103, .ref n104, .ref n105, .ref n106])), (n0, .inr (11, [.ref n1, .ref n2, .ref n3, .ref n7, .ref n8, .ref n12, .ref n16, .ref n21, .ref n22, .ref n37, .int 0, .int (-1), .int 0, .int 0, .null, .null, .null, .null, .null]))] H locs := w
    refine lv_istore (lv' := [(5, .int 1), (4, .int 0), (3, .ref n107), (2, .ref n64), (1, .ref n0), (0, .ref b)]) hx hb dL_law_1519 hl (by decide) rfl (fun ls hl => ?_)
    refine lv_aload_n hx hb dL_law_1521 rfl (lv_at hl 3 rfl) ?_
    refine lv_aload_n hx hb dL_law_1522 rfl (lv_at hl 5 rfl) ?_
    refine lv_iload hx hb dL_law_1523 (lv_at hl 1 rfl) ?_
    refine lv_iconst (v := 1) hx hb dL_law_1525 (by decide) ?_
    refine lv_iadd hx hb dL_law_1526 ?_
    refine z_i (v := 1) (by decide +kernel) ?_
    refine va_sld hx hb hX hbl hbA w.2.2 (i := 1) (by decide) dL_law_1527 ?_
    refine z_i (v := (xs 1)) rfl ?_
    refine lv_aload_n hx hb dL_law_1528 rfl (lv_at hl 5 rfl) ?_
    refine lv_iload hx hb dL_law_1529 (lv_at hl 1 rfl) ?_
    refine lv_iconst (v := 2) hx hb dL_law_1531 (by decide) ?_
    refine lv_iadd hx hb dL_law_1532 ?_
    refine z_i (v := 2) (by decide +kernel) ?_
    refine va_sld hx hb hX hbl hbA w.2.2 (i := 2) (by decide) dL_law_1533 ?_
    refine z_i (v := (xs 2)) rfl ?_
    refine lv_if_eq (tgt := 1541) hx hb dL_law_1534 (by decide) (fun h => absurd h hf1) (fun _ => ?_)
    refine lv_iconst (v := 1) hx hb dL_law_1537 (by decide) ?_
    refine lv_goto (tgt := 1542) hx hb dL_law_1538 (by decide) ?_
    refine lv_aload_n hx hb dL_law_1542 rfl (lv_at hl 5 rfl) ?_
    refine lv_iload hx hb dL_law_1543 (lv_at hl 1 rfl) ?_
    refine lv_iconst (v := 3) hx hb dL_law_1545 (by decide) ?_
    refine lv_iadd hx hb dL_law_1546 ?_
    refine z_i (v := 3) (by decide +kernel) ?_
    refine va_sld hx hb hX hbl hbA w.2.2 (i := 3) (by decide) dL_law_1547 ?_
    refine z_i (v := (xs 3)) rfl ?_
    refine fin_i C w (run_V C w mv_L_220 (k224_step C.b0 n64 n65 n66 n67 n68 n69 n70 n71 n72 n73 n74 n75 n76 n77 n78 n79 n80 n81 n82 n83 n84 n85 n86 n87 n88 n89 n90 n91 n92 n93 n94 n95 n96 n97 n98 n99 n100 n101 n102 n103 n104 n105 n106 ((xs 1)) ((xs 3)) g0 H.size) [0] rfl rfl 0 rfl rfl (by decide) rfl hl.1 rfl (Nat.le_of_ble_eq_true rfl) dL_law_1548 (cells2 := 109) (slots2 := 210178) (by decide)) [0] [1] rfl rfl (by decide) (cells2 := 109) (slots2 := 210178) (by decide) (fun u6 H locs w => ?_)
    have w : Wd s G A [(n0, .inr (11, [.ref n1, .ref n2, .ref n3, .ref n7, .ref n8, .ref n12, .ref n16, .ref n21, .ref n22, .ref n37, .int 0, .int (-1), .int 0, .int 0, .null, .null, .null, .null, .null])), (n64, .inr (12, [.int 1, .int 0, .int 0, .int 0, .int 0, .int 0, .int 0, .int (-1), .ref n65, .ref n66, .ref n67, .int 0, .ref n68, .ref n69, .ref n70, .ref n71, .ref n72, .ref n73, .ref n74, .int 0, .ref n75, .ref n76, .ref n77, .ref n78, .ref n79, .ref n80, .ref n81, .int 0, .int (-1), .int 0, .ref n82, .ref n83, .ref n84, .ref n85, .ref n86, .ref n87, .ref n88, .ref n89, .int 0, .ref n90, .ref n91, .ref n92, .ref n93, .ref n94, .int 0, .ref n95, .ref n96, .ref n97, .ref n98, .int 0, .ref n99, .ref n100, .ref n101, .ref n102, .int 0, .int 0, .ref n103, .ref n104, .ref n105, .ref n106]))] H locs := w
    refine lv_istore (lv' := [(6, .int 0), (5, .int 1), (4, .int 0), (3, .ref n107), (2, .ref n64), (1, .ref n0), (0, .ref b)]) hx hb dL_law_1551 hl (by decide) rfl (fun ls hl => ?_)
    refine lv_aload_n hx hb dL_law_1553 rfl (lv_at hl 4 rfl) ?_
    refine fin_i C w (run_V C w mv_L_150 (k20_thrown C.b0 n64 n65 n66 n67 n68 n69 n70 n71 n72 n73 n74 n75 n76 n77 n78 n79 n80 n81 n82 n83 n84 n85 n86 n87 n88 n89 n90 n91 n92 n93 n94 n95 n96 n97 n98 n99 n100 n101 n102 n103 n104 n105 n106 H.size) [1] rfl rfl 1 rfl rfl (by decide) rfl hl.1 rfl (Nat.le_of_ble_eq_true rfl) dL_law_1554 (cells2 := 109) (slots2 := 210178) (by decide)) [1] [0] rfl rfl (by decide) (cells2 := 109) (slots2 := 210178) (by decide) (fun u7 H locs w => ?_)
    have w : Wd s G A [(n0, .inr (11, [.ref n1, .ref n2, .ref n3, .ref n7, .ref n8, .ref n12, .ref n16, .ref n21, .ref n22, .ref n37, .int 0, .int (-1), .int 0, .int 0, .null, .null, .null, .null, .null])), (n64, .inr (12, [.int 1, .int 0, .int 0, .int 0, .int 0, .int 0, .int 0, .int (-1), .ref n65, .ref n66, .ref n67, .int 0, .ref n68, .ref n69, .ref n70, .ref n71, .ref n72, .ref n73, .ref n74, .int 0, .ref n75, .ref n76, .ref n77, .ref n78, .ref n79, .ref n80, .ref n81, .int 0, .int (-1), .int 0, .ref n82, .ref n83, .ref n84, .ref n85, .ref n86, .ref n87, .ref n88, .ref n89, .int 0, .ref n90, .ref n91, .ref n92, .ref n93, .ref n94, .int 0, .ref n95, .ref n96, .ref n97, .ref n98, .int 0, .ref n99, .ref n100, .ref n101, .ref n102, .int 0, .int 0, .ref n103, .ref n104, .ref n105, .ref n106]))] H locs := w
    refine lv_iload hx hb dL_law_1557 (lv_at hl 1 rfl) ?_
    refine lv_icmp_eq (tgt := 1564) hx hb dL_law_1559 (by decide) (fun _ => ?_) (fun h => absurd (by decide) h)
    refine lv_iload hx hb dL_law_1564 (lv_at hl 1 rfl) ?_
    refine lv_if_ne (tgt := 1581) hx hb dL_law_1566 (by decide) (fun _ => ?_) (fun h => h.elim (by decide))
    refine lv_goto (tgt := 3027) hx hb dL_law_1581 (by decide) ?_
    exact lc_end C hr hX hbl hbA w (lv_sub hl [2, 6] rfl) (by decide) (by decide)
set_option maxRecDepth 100000 in
set_option maxHeartbeats 4000000 in
theorem lc_21_1 {l : Launch} {G : GT} {p : Program} {e : Env} {s : State} {m : MethodId} {below : List Frame} {meth : Method} {c : Code} {A : Nat → Prop} {b : Nat} {xs : Nat → Int32} (C : Cx l s #[Value.ref b] G p s m #[Value.ref b] meth c RL cL_law 8 "law" A) (hr : meth.sig.returnType = some .boolean) (hX : va_X b 6 xs s s.heap) (hbl : b < s.heap.size) (hbA : ¬ A b) (n0 n1 n2 n3 n7 n8 n12 n16 n21 n22 n37 n64 n65 n66 n67 n68 n69 n70 n71 n72 n73 n74 n75 n76 n77 n78 n79 n80 n81 n82 n83 n84 n85 n86 n87 n88 n89 n90 n91 n92 n93 n94 n95 n96 n97 n98 n99 n100 n101 n102 n103 n104 n105 n106 n107 : Nat) (g0 : ¬ (xs 1) < 1) (g1 : 3000 < (xs 1)) {H : Heap} {locs : List Loc} {ls : Array Slot} (w : Wd s G A [(n0, .inr (11, [.ref n1, .ref n2, .ref n3, .ref n7, .ref n8, .ref n12, .ref n16, .ref n21, .ref n22, .ref n37, .int 0, .int (-1), .int 0, .int 0, .null, .null, .null, .null, .null])), (n64, .inr (12, [.int 0, .int 0, .int 0, .int 0, .int 0, .int 0, .int 0, .int (-1), .ref n65, .ref n66, .ref n67, .int 0, .ref n68, .ref n69, .ref n70, .ref n71, .ref n72, .ref n73, .ref n74, .int 0, .ref n75, .ref n76, .ref n77, .ref n78, .ref n79, .ref n80, .ref n81, .int 0, .int (-1), .int 0, .ref n82, .ref n83, .ref n84, .ref n85, .ref n86, .ref n87, .ref n88, .ref n89, .int 0, .ref n90, .ref n91, .ref n92, .ref n93, .ref n94, .int 0, .ref n95, .ref n96, .ref n97, .ref n98, .int 0, .ref n99, .ref n100, .ref n101, .ref n102, .int 0, .int 0, .ref n103, .ref n104, .ref n105, .ref n106]))] H locs) (hl : lv_has ls 8 [(4, .int 0), (3, .ref n107), (2, .ref n64), (1, .ref n0), (0, .ref b)]) : W p l e room_1 s m #[Value.ref b] below meth c H locs 108 210172 (lw_Z below #[Value.ref b] s) (F0 m 1488 ls []) := by
  have hx := C.hx
  have hb := C.hb
  refine lv_aload_n hx hb dL_law_1488 rfl (lv_at hl 3 rfl) ?_
  refine lv_aload_n hx hb dL_law_1489 rfl (lv_at hl 4 rfl) ?_
  refine lv_iload hx hb dL_law_1490 (lv_at hl 0 rfl) ?_
  refine lv_iconst (v := 1) hx hb dL_law_1492 (by decide) ?_
  refine lv_iadd hx hb dL_law_1493 ?_
  refine z_i (v := 1) (by decide +kernel) ?_
  refine va_sld hx hb hX hbl hbA w.2.2 (i := 1) (by decide) dL_law_1494 ?_
  refine z_i (v := (xs 1)) rfl ?_
  refine lv_aload_n hx hb dL_law_1495 rfl (lv_at hl 4 rfl) ?_
  refine lv_iload hx hb dL_law_1496 (lv_at hl 0 rfl) ?_
  refine lv_iconst (v := 2) hx hb dL_law_1498 (by decide) ?_
  refine lv_iadd hx hb dL_law_1499 ?_
  refine z_i (v := 2) (by decide +kernel) ?_
  refine va_sld hx hb hX hbl hbA w.2.2 (i := 2) (by decide) dL_law_1500 ?_
  refine z_i (v := (xs 2)) rfl ?_
  refine lv_if_eq (tgt := 1508) hx hb dL_law_1501 (by decide) (fun hf1 => ?_) (fun hf1 => ?_)
  · refine lv_iconst (v := 0) hx hb dL_law_1508 (by decide) ?_
    refine lv_aload_n hx hb dL_law_1509 rfl (lv_at hl 4 rfl) ?_
    refine lv_iload hx hb dL_law_1510 (lv_at hl 0 rfl) ?_
    refine lv_iconst (v := 3) hx hb dL_law_1512 (by decide) ?_
    refine lv_iadd hx hb dL_law_1513 ?_
    refine z_i (v := 3) (by decide +kernel) ?_
    refine va_sld hx hb hX hbl hbA w.2.2 (i := 3) (by decide) dL_law_1514 ?_
    refine z_i (v := (xs 3)) rfl ?_
    refine lv_aload_n hx hb dL_law_1515 rfl (lv_at hl 1 rfl) ?_
    refine fin_i C w (run_H C w mh_L_217 (k226_step C.b0 n0 n107 n1 n2 n3 n7 n8 n12 n16 n21 n22 n37 ((xs 1)) ((xs 3)) g1 g0 H.size) [0] rfl rfl (by decide) rfl hl.1 rfl (Nat.le_of_ble_eq_true rfl) dL_law_1516 (cells2 := 109) (slots2 := 210178) (by decide)) [0] [1] rfl rfl (by decide) (cells2 := 109) (slots2 := 210178) (by decide) (fun u2 H locs w => ?_)
    have w : Wd s G A [(n64, .inr (12, [.int 0, .int 0, .int 0, .int 0, .int 0, .int 0, .int 0, .int (-1), .ref n65, .ref n66, .ref n67, .int 0, .ref n68, .ref n69, .ref n70, .ref n71, .ref n72, .ref n73, .ref n74, .int 0, .ref n75, .ref n76, .ref n77, .ref n78, .ref n79, .ref n80, .ref n81, .int 0, .int (-1), .int 0, .ref n82, .ref n83, .ref n84, .ref n85, .ref n86, .ref n87, .ref n88, .ref n89, .int 0, .ref n90, .ref n91, .ref n92, .ref n93, .ref n94, .int 0, .ref n95, .ref n96, .ref n97, .ref n98, .int 0, .ref n99, .ref n100, .ref n101, .ref n102, .int 0, .int 0, .ref n103, .ref n104, .ref n105, .ref n106])), (n0, .inr (11, [.ref n1, .ref n2, .ref n3, .ref n7, .ref n8, .ref n12, .ref n16, .ref n21, .ref n22, .ref n37, .int 0, .int (-1), .int 0, .int 0, .null, .null, .null, .null, .null]))] H locs := w
    refine lv_istore (lv' := [(5, .int 1), (4, .int 0), (3, .ref n107), (2, .ref n64), (1, .ref n0), (0, .ref b)]) hx hb dL_law_1519 hl (by decide) rfl (fun ls hl => ?_)
    refine lv_aload_n hx hb dL_law_1521 rfl (lv_at hl 3 rfl) ?_
    refine lv_aload_n hx hb dL_law_1522 rfl (lv_at hl 5 rfl) ?_
    refine lv_iload hx hb dL_law_1523 (lv_at hl 1 rfl) ?_
    refine lv_iconst (v := 1) hx hb dL_law_1525 (by decide) ?_
    refine lv_iadd hx hb dL_law_1526 ?_
    refine z_i (v := 1) (by decide +kernel) ?_
    refine va_sld hx hb hX hbl hbA w.2.2 (i := 1) (by decide) dL_law_1527 ?_
    refine z_i (v := (xs 1)) rfl ?_
    refine lv_aload_n hx hb dL_law_1528 rfl (lv_at hl 5 rfl) ?_
    refine lv_iload hx hb dL_law_1529 (lv_at hl 1 rfl) ?_
    refine lv_iconst (v := 2) hx hb dL_law_1531 (by decide) ?_
    refine lv_iadd hx hb dL_law_1532 ?_
    refine z_i (v := 2) (by decide +kernel) ?_
    refine va_sld hx hb hX hbl hbA w.2.2 (i := 2) (by decide) dL_law_1533 ?_
    refine z_i (v := (xs 2)) rfl ?_
    refine lv_if_eq (tgt := 1541) hx hb dL_law_1534 (by decide) (fun _ => ?_) (fun h => absurd hf1 h)
    refine lv_iconst (v := 0) hx hb dL_law_1541 (by decide) ?_
    refine lv_aload_n hx hb dL_law_1542 rfl (lv_at hl 5 rfl) ?_
    refine lv_iload hx hb dL_law_1543 (lv_at hl 1 rfl) ?_
    refine lv_iconst (v := 3) hx hb dL_law_1545 (by decide) ?_
    refine lv_iadd hx hb dL_law_1546 ?_
    refine z_i (v := 3) (by decide +kernel) ?_
    refine va_sld hx hb hX hbl hbA w.2.2 (i := 3) (by decide) dL_law_1547 ?_
    refine z_i (v := (xs 3)) rfl ?_
    refine fin_i C w (run_V C w mv_L_220 (k227_step C.b0 n64 n65 n66 n67 n68 n69 n70 n71 n72 n73 n74 n75 n76 n77 n78 n79 n80 n81 n82 n83 n84 n85 n86 n87 n88 n89 n90 n91 n92 n93 n94 n95 n96 n97 n98 n99 n100 n101 n102 n103 n104 n105 n106 ((xs 1)) ((xs 3)) g1 g0 H.size) [0] rfl rfl 0 rfl rfl (by decide) rfl hl.1 rfl (Nat.le_of_ble_eq_true rfl) dL_law_1548 (cells2 := 109) (slots2 := 210178) (by decide)) [0] [1] rfl rfl (by decide) (cells2 := 109) (slots2 := 210178) (by decide) (fun u3 H locs w => ?_)
    have w : Wd s G A [(n0, .inr (11, [.ref n1, .ref n2, .ref n3, .ref n7, .ref n8, .ref n12, .ref n16, .ref n21, .ref n22, .ref n37, .int 0, .int (-1), .int 0, .int 0, .null, .null, .null, .null, .null])), (n64, .inr (12, [.int 1, .int 0, .int 0, .int 0, .int 0, .int 0, .int 0, .int (-1), .ref n65, .ref n66, .ref n67, .int 0, .ref n68, .ref n69, .ref n70, .ref n71, .ref n72, .ref n73, .ref n74, .int 0, .ref n75, .ref n76, .ref n77, .ref n78, .ref n79, .ref n80, .ref n81, .int 0, .int (-1), .int 0, .ref n82, .ref n83, .ref n84, .ref n85, .ref n86, .ref n87, .ref n88, .ref n89, .int 0, .ref n90, .ref n91, .ref n92, .ref n93, .ref n94, .int 0, .ref n95, .ref n96, .ref n97, .ref n98, .int 0, .ref n99, .ref n100, .ref n101, .ref n102, .int 0, .int 0, .ref n103, .ref n104, .ref n105, .ref n106]))] H locs := w
    refine lv_istore (lv' := [(6, .int 0), (5, .int 1), (4, .int 0), (3, .ref n107), (2, .ref n64), (1, .ref n0), (0, .ref b)]) hx hb dL_law_1551 hl (by decide) rfl (fun ls hl => ?_)
    refine lv_aload_n hx hb dL_law_1553 rfl (lv_at hl 4 rfl) ?_
    refine fin_i C w (run_V C w mv_L_150 (k20_thrown C.b0 n64 n65 n66 n67 n68 n69 n70 n71 n72 n73 n74 n75 n76 n77 n78 n79 n80 n81 n82 n83 n84 n85 n86 n87 n88 n89 n90 n91 n92 n93 n94 n95 n96 n97 n98 n99 n100 n101 n102 n103 n104 n105 n106 H.size) [1] rfl rfl 1 rfl rfl (by decide) rfl hl.1 rfl (Nat.le_of_ble_eq_true rfl) dL_law_1554 (cells2 := 109) (slots2 := 210178) (by decide)) [1] [0] rfl rfl (by decide) (cells2 := 109) (slots2 := 210178) (by decide) (fun u4 H locs w => ?_)
    have w : Wd s G A [(n0, .inr (11, [.ref n1, .ref n2, .ref n3, .ref n7, .ref n8, .ref n12, .ref n16, .ref n21, .ref n22, .ref n37, .int 0, .int (-1), .int 0, .int 0, .null, .null, .null, .null, .null])), (n64, .inr (12, [.int 1, .int 0, .int 0, .int 0, .int 0, .int 0, .int 0, .int (-1), .ref n65, .ref n66, .ref n67, .int 0, .ref n68, .ref n69, .ref n70, .ref n71, .ref n72, .ref n73, .ref n74, .int 0, .ref n75, .ref n76, .ref n77, .ref n78, .ref n79, .ref n80, .ref n81, .int 0, .int (-1), .int 0, .ref n82, .ref n83, .ref n84, .ref n85, .ref n86, .ref n87, .ref n88, .ref n89, .int 0, .ref n90, .ref n91, .ref n92, .ref n93, .ref n94, .int 0, .ref n95, .ref n96, .ref n97, .ref n98, .int 0, .ref n99, .ref n100, .ref n101, .ref n102, .int 0, .int 0, .ref n103, .ref n104, .ref n105, .ref n106]))] H locs := w
    refine lv_iload hx hb dL_law_1557 (lv_at hl 1 rfl) ?_
    refine lv_icmp_eq (tgt := 1564) hx hb dL_law_1559 (by decide) (fun _ => ?_) (fun h => absurd (by decide) h)
    refine lv_iload hx hb dL_law_1564 (lv_at hl 1 rfl) ?_
    refine lv_if_ne (tgt := 1581) hx hb dL_law_1566 (by decide) (fun _ => ?_) (fun h => h.elim (by decide))
    refine lv_goto (tgt := 3027) hx hb dL_law_1581 (by decide) ?_
    exact lc_end C hr hX hbl hbA w (lv_sub hl [2, 6] rfl) (by decide) (by decide)
  · refine lv_iconst (v := 1) hx hb dL_law_1504 (by decide) ?_
    refine lv_goto (tgt := 1509) hx hb dL_law_1505 (by decide) ?_
    refine lv_aload_n hx hb dL_law_1509 rfl (lv_at hl 4 rfl) ?_
    refine lv_iload hx hb dL_law_1510 (lv_at hl 0 rfl) ?_
    refine lv_iconst (v := 3) hx hb dL_law_1512 (by decide) ?_
    refine lv_iadd hx hb dL_law_1513 ?_
    refine z_i (v := 3) (by decide +kernel) ?_
    refine va_sld hx hb hX hbl hbA w.2.2 (i := 3) (by decide) dL_law_1514 ?_
    refine z_i (v := (xs 3)) rfl ?_
    refine lv_aload_n hx hb dL_law_1515 rfl (lv_at hl 1 rfl) ?_
    refine fin_i C w (run_H C w mh_L_217 (k229_step C.b0 n0 n107 n1 n2 n3 n7 n8 n12 n16 n21 n22 n37 ((xs 1)) ((xs 3)) g1 g0 H.size) [0] rfl rfl (by decide) rfl hl.1 rfl (Nat.le_of_ble_eq_true rfl) dL_law_1516 (cells2 := 109) (slots2 := 210178) (by decide)) [0] [1] rfl rfl (by decide) (cells2 := 109) (slots2 := 210178) (by decide) (fun u5 H locs w => ?_)
    have w : Wd s G A [(n64, .inr (12, [.int 0, .int 0, .int 0, .int 0, .int 0, .int 0, .int 0, .int (-1), .ref n65, .ref n66, .ref n67, .int 0, .ref n68, .ref n69, .ref n70, .ref n71, .ref n72, .ref n73, .ref n74, .int 0, .ref n75, .ref n76, .ref n77, .ref n78, .ref n79, .ref n80, .ref n81, .int 0, .int (-1), .int 0, .ref n82, .ref n83, .ref n84, .ref n85, .ref n86, .ref n87, .ref n88, .ref n89, .int 0, .ref n90, .ref n91, .ref n92, .ref n93, .ref n94, .int 0, .ref n95, .ref n96, .ref n97, .ref n98, .int 0, .ref n99, .ref n100, .ref n101, .ref n102, .int 0, .int 0, .ref n103, .ref n104, .ref n105, .ref n106])), (n0, .inr (11, [.ref n1, .ref n2, .ref n3, .ref n7, .ref n8, .ref n12, .ref n16, .ref n21, .ref n22, .ref n37, .int 0, .int (-1), .int 0, .int 0, .null, .null, .null, .null, .null]))] H locs := w
    refine lv_istore (lv' := [(5, .int 1), (4, .int 0), (3, .ref n107), (2, .ref n64), (1, .ref n0), (0, .ref b)]) hx hb dL_law_1519 hl (by decide) rfl (fun ls hl => ?_)
    refine lv_aload_n hx hb dL_law_1521 rfl (lv_at hl 3 rfl) ?_
    refine lv_aload_n hx hb dL_law_1522 rfl (lv_at hl 5 rfl) ?_
    refine lv_iload hx hb dL_law_1523 (lv_at hl 1 rfl) ?_
    refine lv_iconst (v := 1) hx hb dL_law_1525 (by decide) ?_
    refine lv_iadd hx hb dL_law_1526 ?_
    refine z_i (v := 1) (by decide +kernel) ?_
    refine va_sld hx hb hX hbl hbA w.2.2 (i := 1) (by decide) dL_law_1527 ?_
    refine z_i (v := (xs 1)) rfl ?_
    refine lv_aload_n hx hb dL_law_1528 rfl (lv_at hl 5 rfl) ?_
    refine lv_iload hx hb dL_law_1529 (lv_at hl 1 rfl) ?_
    refine lv_iconst (v := 2) hx hb dL_law_1531 (by decide) ?_
    refine lv_iadd hx hb dL_law_1532 ?_
    refine z_i (v := 2) (by decide +kernel) ?_
    refine va_sld hx hb hX hbl hbA w.2.2 (i := 2) (by decide) dL_law_1533 ?_
    refine z_i (v := (xs 2)) rfl ?_
    refine lv_if_eq (tgt := 1541) hx hb dL_law_1534 (by decide) (fun h => absurd h hf1) (fun _ => ?_)
    refine lv_iconst (v := 1) hx hb dL_law_1537 (by decide) ?_
    refine lv_goto (tgt := 1542) hx hb dL_law_1538 (by decide) ?_
    refine lv_aload_n hx hb dL_law_1542 rfl (lv_at hl 5 rfl) ?_
    refine lv_iload hx hb dL_law_1543 (lv_at hl 1 rfl) ?_
    refine lv_iconst (v := 3) hx hb dL_law_1545 (by decide) ?_
    refine lv_iadd hx hb dL_law_1546 ?_
    refine z_i (v := 3) (by decide +kernel) ?_
    refine va_sld hx hb hX hbl hbA w.2.2 (i := 3) (by decide) dL_law_1547 ?_
    refine z_i (v := (xs 3)) rfl ?_
    refine fin_i C w (run_V C w mv_L_220 (k230_step C.b0 n64 n65 n66 n67 n68 n69 n70 n71 n72 n73 n74 n75 n76 n77 n78 n79 n80 n81 n82 n83 n84 n85 n86 n87 n88 n89 n90 n91 n92 n93 n94 n95 n96 n97 n98 n99 n100 n101 n102 n103 n104 n105 n106 ((xs 1)) ((xs 3)) g1 g0 H.size) [0] rfl rfl 0 rfl rfl (by decide) rfl hl.1 rfl (Nat.le_of_ble_eq_true rfl) dL_law_1548 (cells2 := 109) (slots2 := 210178) (by decide)) [0] [1] rfl rfl (by decide) (cells2 := 109) (slots2 := 210178) (by decide) (fun u6 H locs w => ?_)
    have w : Wd s G A [(n0, .inr (11, [.ref n1, .ref n2, .ref n3, .ref n7, .ref n8, .ref n12, .ref n16, .ref n21, .ref n22, .ref n37, .int 0, .int (-1), .int 0, .int 0, .null, .null, .null, .null, .null])), (n64, .inr (12, [.int 1, .int 0, .int 0, .int 0, .int 0, .int 0, .int 0, .int (-1), .ref n65, .ref n66, .ref n67, .int 0, .ref n68, .ref n69, .ref n70, .ref n71, .ref n72, .ref n73, .ref n74, .int 0, .ref n75, .ref n76, .ref n77, .ref n78, .ref n79, .ref n80, .ref n81, .int 0, .int (-1), .int 0, .ref n82, .ref n83, .ref n84, .ref n85, .ref n86, .ref n87, .ref n88, .ref n89, .int 0, .ref n90, .ref n91, .ref n92, .ref n93, .ref n94, .int 0, .ref n95, .ref n96, .ref n97, .ref n98, .int 0, .ref n99, .ref n100, .ref n101, .ref n102, .int 0, .int 0, .ref n103, .ref n104, .ref n105, .ref n106]))] H locs := w
    refine lv_istore (lv' := [(6, .int 0), (5, .int 1), (4, .int 0), (3, .ref n107), (2, .ref n64), (1, .ref n0), (0, .ref b)]) hx hb dL_law_1551 hl (by decide) rfl (fun ls hl => ?_)
    refine lv_aload_n hx hb dL_law_1553 rfl (lv_at hl 4 rfl) ?_
    refine fin_i C w (run_V C w mv_L_150 (k20_thrown C.b0 n64 n65 n66 n67 n68 n69 n70 n71 n72 n73 n74 n75 n76 n77 n78 n79 n80 n81 n82 n83 n84 n85 n86 n87 n88 n89 n90 n91 n92 n93 n94 n95 n96 n97 n98 n99 n100 n101 n102 n103 n104 n105 n106 H.size) [1] rfl rfl 1 rfl rfl (by decide) rfl hl.1 rfl (Nat.le_of_ble_eq_true rfl) dL_law_1554 (cells2 := 109) (slots2 := 210178) (by decide)) [1] [0] rfl rfl (by decide) (cells2 := 109) (slots2 := 210178) (by decide) (fun u7 H locs w => ?_)
    have w : Wd s G A [(n0, .inr (11, [.ref n1, .ref n2, .ref n3, .ref n7, .ref n8, .ref n12, .ref n16, .ref n21, .ref n22, .ref n37, .int 0, .int (-1), .int 0, .int 0, .null, .null, .null, .null, .null])), (n64, .inr (12, [.int 1, .int 0, .int 0, .int 0, .int 0, .int 0, .int 0, .int (-1), .ref n65, .ref n66, .ref n67, .int 0, .ref n68, .ref n69, .ref n70, .ref n71, .ref n72, .ref n73, .ref n74, .int 0, .ref n75, .ref n76, .ref n77, .ref n78, .ref n79, .ref n80, .ref n81, .int 0, .int (-1), .int 0, .ref n82, .ref n83, .ref n84, .ref n85, .ref n86, .ref n87, .ref n88, .ref n89, .int 0, .ref n90, .ref n91, .ref n92, .ref n93, .ref n94, .int 0, .ref n95, .ref n96, .ref n97, .ref n98, .int 0, .ref n99, .ref n100, .ref n101, .ref n102, .int 0, .int 0, .ref n103, .ref n104, .ref n105, .ref n106]))] H locs := w
    refine lv_iload hx hb dL_law_1557 (lv_at hl 1 rfl) ?_
    refine lv_icmp_eq (tgt := 1564) hx hb dL_law_1559 (by decide) (fun _ => ?_) (fun h => absurd (by decide) h)
    refine lv_iload hx hb dL_law_1564 (lv_at hl 1 rfl) ?_
    refine lv_if_ne (tgt := 1581) hx hb dL_law_1566 (by decide) (fun _ => ?_) (fun h => h.elim (by decide))
    refine lv_goto (tgt := 3027) hx hb dL_law_1581 (by decide) ?_
    exact lc_end C hr hX hbl hbA w (lv_sub hl [2, 6] rfl) (by decide) (by decide)
set_option maxRecDepth 100000 in
set_option maxHeartbeats 4000000 in
theorem lc_21_2 {l : Launch} {G : GT} {p : Program} {e : Env} {s : State} {m : MethodId} {below : List Frame} {meth : Method} {c : Code} {A : Nat → Prop} {b : Nat} {xs : Nat → Int32} (C : Cx l s #[Value.ref b] G p s m #[Value.ref b] meth c RL cL_law 8 "law" A) (hr : meth.sig.returnType = some .boolean) (hX : va_X b 6 xs s s.heap) (hbl : b < s.heap.size) (hbA : ¬ A b) (n0 n1 n2 n3 n4 n5 n6 n7 n8 n12 n16 n21 n22 n23 n24 n25 n26 n27 n28 n29 n30 n31 n32 n33 n34 n35 n36 n37 n64 n65 n66 n67 n68 n69 n70 n71 n72 n73 n74 n75 n76 n77 n78 n79 n80 n81 n82 n83 n84 n85 n86 n87 n88 n89 n90 n91 n92 n93 n94 n95 n96 n97 n98 n99 n100 n101 n102 n103 n104 n105 n106 n107 : Nat) (g0 : ¬ (xs 1) < 1) (g1 : ¬ 3000 < (xs 1)) {H : Heap} {locs : List Loc} {ls : Array Slot} (w : Wd s G A [(n0, .inr (11, [.ref n1, .ref n2, .ref n3, .ref n7, .ref n8, .ref n12, .ref n16, .ref n21, .ref n22, .ref n37, .int 0, .int (-1), .int 0, .int 0, .null, .null, .null, .null, .null])), (n3, .inr (5, [.ref n4, .ref n5, .ref n6, .int 0])), (n4, .inl (G.2.1, 8, .inl (fun _ => 0))), (n22, .inr (2, [.int 0, .int 0, .ref n23, .ref n24, .ref n25, .ref n26, .ref n27, .ref n28, .ref n29, .ref n30, .ref n31, .ref n32, .ref n33, .ref n34, .ref n35, .ref n36, .int 0])), (n64, .inr (12, [.int 0, .int 0, .int 0, .int 0, .int 0, .int 0, .int 0, .int (-1), .ref n65, .ref n66, .ref n67, .int 0, .ref n68, .ref n69, .ref n70, .ref n71, .ref n72, .ref n73, .ref n74, .int 0, .ref n75, .ref n76, .ref n77, .ref n78, .ref n79, .ref n80, .ref n81, .int 0, .int (-1), .int 0, .ref n82, .ref n83, .ref n84, .ref n85, .ref n86, .ref n87, .ref n88, .ref n89, .int 0, .ref n90, .ref n91, .ref n92, .ref n93, .ref n94, .int 0, .ref n95, .ref n96, .ref n97, .ref n98, .int 0, .ref n99, .ref n100, .ref n101, .ref n102, .int 0, .int 0, .ref n103, .ref n104, .ref n105, .ref n106])), (n66, .inl (G.2.1, 242, .inl (fun _ => 0))), (n73, .inl (G.2.1, 57, .inl (fun _ => 0))), (n75, .inl (G.2.1, 8, .inl (fun _ => 0))), (n76, .inl (G.2.1, 24008, .inl (fun _ => 0))), (n78, .inl (G.2.1, 3000, .inl (fun _ => 0))), (n79, .inl (G.2.1, 3000, .inl (fun _ => 0))), (n80, .inl (G.2.1, 4096, .inl (fun _ => 0))), (n81, .inl (G.2.1, 3000, .inl (fun _ => 0))), (n107, .inl (G.2.2.1, 1, .inr (.inl (fun _ => 0))))] H locs) (hl : lv_has ls 8 [(4, .int 0), (3, .ref n107), (2, .ref n64), (1, .ref n0), (0, .ref b)]) : W p l e room_1 s m #[Value.ref b] below meth c H locs 108 210172 (lw_Z below #[Value.ref b] s) (F0 m 1488 ls []) := by
  have hx := C.hx
  have hb := C.hb
  refine lv_aload_n hx hb dL_law_1488 rfl (lv_at hl 3 rfl) ?_
  refine lv_aload_n hx hb dL_law_1489 rfl (lv_at hl 4 rfl) ?_
  refine lv_iload hx hb dL_law_1490 (lv_at hl 0 rfl) ?_
  refine lv_iconst (v := 1) hx hb dL_law_1492 (by decide) ?_
  refine lv_iadd hx hb dL_law_1493 ?_
  refine z_i (v := 1) (by decide +kernel) ?_
  refine va_sld hx hb hX hbl hbA w.2.2 (i := 1) (by decide) dL_law_1494 ?_
  refine z_i (v := (xs 1)) rfl ?_
  refine lv_aload_n hx hb dL_law_1495 rfl (lv_at hl 4 rfl) ?_
  refine lv_iload hx hb dL_law_1496 (lv_at hl 0 rfl) ?_
  refine lv_iconst (v := 2) hx hb dL_law_1498 (by decide) ?_
  refine lv_iadd hx hb dL_law_1499 ?_
  refine z_i (v := 2) (by decide +kernel) ?_
  refine va_sld hx hb hX hbl hbA w.2.2 (i := 2) (by decide) dL_law_1500 ?_
  refine z_i (v := (xs 2)) rfl ?_
  refine lv_if_eq (tgt := 1508) hx hb dL_law_1501 (by decide) (fun hf1 => ?_) (fun hf1 => ?_)
  · refine lv_iconst (v := 0) hx hb dL_law_1508 (by decide) ?_
    refine lv_aload_n hx hb dL_law_1509 rfl (lv_at hl 4 rfl) ?_
    refine lv_iload hx hb dL_law_1510 (lv_at hl 0 rfl) ?_
    refine lv_iconst (v := 3) hx hb dL_law_1512 (by decide) ?_
    refine lv_iadd hx hb dL_law_1513 ?_
    refine z_i (v := 3) (by decide +kernel) ?_
    refine va_sld hx hb hX hbl hbA w.2.2 (i := 3) (by decide) dL_law_1514 ?_
    refine z_i (v := (xs 3)) rfl ?_
    refine lv_aload_n hx hb dL_law_1515 rfl (lv_at hl 1 rfl) ?_
    refine fin_i C w (run_H C w mh_L_217 (k233_step C.b0 n0 n3 n22 n4 n107 n1 n2 n7 n8 n12 n16 n21 n37 n5 n6 n23 n24 n25 n26 n27 n28 n29 n30 n31 n32 n33 n34 n35 n36 ((xs 1)) ((xs 3)) g1 g0 H.size) [0, 1, 3, 2, 13] rfl rfl (by decide) rfl hl.1 rfl (Nat.le_of_ble_eq_true rfl) dL_law_1516 (cells2 := 117) (slots2 := 275538) (by decide)) [0, 1, 3, 2, 13] [4, 5, 6, 7, 8, 9, 10, 11, 12] rfl rfl (by decide) (cells2 := 117) (slots2 := 275538) (by decide) (fun u2 H locs w => ?_)
    have w : Wd s G A [(n64, .inr (12, [.int 0, .int 0, .int 0, .int 0, .int 0, .int 0, .int 0, .int (-1), .ref n65, .ref n66, .ref n67, .int 0, .ref n68, .ref n69, .ref n70, .ref n71, .ref n72, .ref n73, .ref n74, .int 0, .ref n75, .ref n76, .ref n77, .ref n78, .ref n79, .ref n80, .ref n81, .int 0, .int (-1), .int 0, .ref n82, .ref n83, .ref n84, .ref n85, .ref n86, .ref n87, .ref n88, .ref n89, .int 0, .ref n90, .ref n91, .ref n92, .ref n93, .ref n94, .int 0, .ref n95, .ref n96, .ref n97, .ref n98, .int 0, .ref n99, .ref n100, .ref n101, .ref n102, .int 0, .int 0, .ref n103, .ref n104, .ref n105, .ref n106])), (n66, .inl (G.2.1, 242, .inl (fun _ => 0))), (n73, .inl (G.2.1, 57, .inl (fun _ => 0))), (n75, .inl (G.2.1, 8, .inl (fun _ => 0))), (n76, .inl (G.2.1, 24008, .inl (fun _ => 0))), (n78, .inl (G.2.1, 3000, .inl (fun _ => 0))), (n79, .inl (G.2.1, 3000, .inl (fun _ => 0))), (n80, .inl (G.2.1, 4096, .inl (fun _ => 0))), (n81, .inl (G.2.1, 3000, .inl (fun _ => 0))), (n0, .inr (11, [.ref n1, .ref n2, .ref n3, .ref n7, .ref n8, .ref n12, .ref n16, .ref n21, .ref n22, .ref n37, .int 0, .int (-1), .int 0, .int 0, .ref (u2 0), .null, .null, .null, .null])), (n3, .inr (5, [.ref n4, .ref n5, .ref n6, .int 0])), (n22, .inr (2, [.int 0, .int 0, .ref n23, .ref n24, .ref n25, .ref n26, .ref n27, .ref n28, .ref n29, .ref n30, .ref n31, .ref n32, .ref n33, .ref n34, .ref n35, .ref n36, .int 0])), (n4, .inl (G.2.1, 8, .inl (fun _ => 0))), (n107, .inl (G.2.2.1, 1, .inr (.inl (vp_updL (fun _ => 0) 0 (-1))))), ((u2 0), .inr (1, [.int 0, .ref n22, .ref (u2 1), .ref (u2 2), .ref (u2 5), .ref (u2 6), .ref (u2 7), .ref (u2 8), .int 1])), ((u2 1), .inl (G.2.1, 24064, .inl (fun _ => 0))), ((u2 2), .inr (7, [.ref (u2 3), .int 0, .int 1, .int 3008, .ref (u2 4)])), ((u2 3), .inl (G.2.1, 24064, .inl (fun _ => 0))), ((u2 4), .inl (G.2.1, 8192, .inl (upd (fun _ => (-1)) 7 0))), ((u2 5), .inl (G.2.1, 3008, .inl (fun _ => 0))), ((u2 6), .inl (G.2.1, 3008, .inl (upd (fun _ => 0) 0 (-1)))), ((u2 7), .inl (G.2.1, 3008, .inl (upd (fun _ => 0) 0 (-1)))), ((u2 8), .inl (G.2.1, 8, .inl (fun _ => 0)))] H locs := w
    refine lv_istore (lv' := [(5, .int 0), (4, .int 0), (3, .ref n107), (2, .ref n64), (1, .ref n0), (0, .ref b)]) hx hb dL_law_1519 hl (by decide) rfl (fun ls hl => ?_)
    refine lv_aload_n hx hb dL_law_1521 rfl (lv_at hl 3 rfl) ?_
    refine lv_aload_n hx hb dL_law_1522 rfl (lv_at hl 5 rfl) ?_
    refine lv_iload hx hb dL_law_1523 (lv_at hl 1 rfl) ?_
    refine lv_iconst (v := 1) hx hb dL_law_1525 (by decide) ?_
    refine lv_iadd hx hb dL_law_1526 ?_
    refine z_i (v := 1) (by decide +kernel) ?_
    refine va_sld hx hb hX hbl hbA w.2.2 (i := 1) (by decide) dL_law_1527 ?_
    refine z_i (v := (xs 1)) rfl ?_
    refine lv_aload_n hx hb dL_law_1528 rfl (lv_at hl 5 rfl) ?_
    refine lv_iload hx hb dL_law_1529 (lv_at hl 1 rfl) ?_
    refine lv_iconst (v := 2) hx hb dL_law_1531 (by decide) ?_
    refine lv_iadd hx hb dL_law_1532 ?_
    refine z_i (v := 2) (by decide +kernel) ?_
    refine va_sld hx hb hX hbl hbA w.2.2 (i := 2) (by decide) dL_law_1533 ?_
    refine z_i (v := (xs 2)) rfl ?_
    refine lv_if_eq (tgt := 1541) hx hb dL_law_1534 (by decide) (fun _ => ?_) (fun h => absurd hf1 h)
    refine lv_iconst (v := 0) hx hb dL_law_1541 (by decide) ?_
    refine lv_aload_n hx hb dL_law_1542 rfl (lv_at hl 5 rfl) ?_
    refine lv_iload hx hb dL_law_1543 (lv_at hl 1 rfl) ?_
    refine lv_iconst (v := 3) hx hb dL_law_1545 (by decide) ?_
    refine lv_iadd hx hb dL_law_1546 ?_
    refine z_i (v := 3) (by decide +kernel) ?_
    refine va_sld hx hb hX hbl hbA w.2.2 (i := 3) (by decide) dL_law_1547 ?_
    refine z_i (v := (xs 3)) rfl ?_
    refine fin_i C w (run_V C w mv_L_220 (k234_step C.b0 n64 n80 n73 n75 n76 n81 n78 n79 n66 n65 n67 n68 n69 n70 n71 n72 n74 n77 n82 n83 n84 n85 n86 n87 n88 n89 n90 n91 n92 n93 n94 n95 n96 n97 n98 n99 n100 n101 n102 n103 n104 n105 n106 ((xs 1)) ((xs 3)) g1 g0 H.size) [0, 7, 2, 3, 4, 8, 5, 6, 1] rfl rfl 0 rfl rfl (by decide) rfl hl.1 rfl (Nat.le_of_ble_eq_true rfl) dL_law_1548 (cells2 := 117) (slots2 := 275538) (by decide)) [0, 7, 2, 3, 4, 8, 5, 6, 1] [9, 10, 11, 12, 13, 14, 15, 16, 17, 18, 19, 20, 21, 22] rfl rfl (by decide) (cells2 := 117) (slots2 := 275538) (by decide) (fun u3 H locs w => ?_)
    have w : Wd s G A [(n0, .inr (11, [.ref n1, .ref n2, .ref n3, .ref n7, .ref n8, .ref n12, .ref n16, .ref n21, .ref n22, .ref n37, .int 0, .int (-1), .int 0, .int 0, .ref (u2 0), .null, .null, .null, .null])), (n3, .inr (5, [.ref n4, .ref n5, .ref n6, .int 0])), (n22, .inr (2, [.int 0, .int 0, .ref n23, .ref n24, .ref n25, .ref n26, .ref n27, .ref n28, .ref n29, .ref n30, .ref n31, .ref n32, .ref n33, .ref n34, .ref n35, .ref n36, .int 0])), (n4, .inl (G.2.1, 8, .inl (fun _ => 0))), (n107, .inl (G.2.2.1, 1, .inr (.inl (vp_updL (fun _ => 0) 0 (-1))))), ((u2 0), .inr (1, [.int 0, .ref n22, .ref (u2 1), .ref (u2 2), .ref (u2 5), .ref (u2 6), .ref (u2 7), .ref (u2 8), .int 1])), ((u2 1), .inl (G.2.1, 24064, .inl (fun _ => 0))), ((u2 2), .inr (7, [.ref (u2 3), .int 0, .int 1, .int 3008, .ref (u2 4)])), ((u2 3), .inl (G.2.1, 24064, .inl (fun _ => 0))), ((u2 4), .inl (G.2.1, 8192, .inl (upd (fun _ => (-1)) 7 0))), ((u2 5), .inl (G.2.1, 3008, .inl (fun _ => 0))), ((u2 6), .inl (G.2.1, 3008, .inl (upd (fun _ => 0) 0 (-1)))), ((u2 7), .inl (G.2.1, 3008, .inl (upd (fun _ => 0) 0 (-1)))), ((u2 8), .inl (G.2.1, 8, .inl (fun _ => 0))), (n64, .inr (12, [.int 0, .int 0, .int 0, .int 0, .int 0, .int 0, .int 0, .int (-1), .ref n65, .ref n66, .ref n67, .int 0, .ref n68, .ref n69, .ref n70, .ref n71, .ref n72, .ref n73, .ref n74, .int 0, .ref n75, .ref n76, .ref n77, .ref n78, .ref n79, .ref n80, .ref n81, .int 1, .int (-1), .int 0, .ref n82, .ref n83, .ref n84, .ref n85, .ref n86, .ref n87, .ref n88, .ref n89, .int 0, .ref n90, .ref n91, .ref n92, .ref n93, .ref n94, .int 0, .ref n95, .ref n96, .ref n97, .ref n98, .int 0, .ref n99, .ref n100, .ref n101, .ref n102, .int 0, .int 0, .ref n103, .ref n104, .ref n105, .ref n106])), (n80, .inl (G.2.1, 4096, .inl (upd (fun _ => (-1)) 0 0))), (n73, .inl (G.2.1, 57, .inl (fun _ => 0))), (n75, .inl (G.2.1, 8, .inl (fun _ => 0))), (n76, .inl (G.2.1, 24008, .inl (fun _ => 0))), (n81, .inl (G.2.1, 3000, .inl (upd (fun _ => 0) 0 (-1)))), (n78, .inl (G.2.1, 3000, .inl (upd (fun _ => 0) 0 (-1)))), (n79, .inl (G.2.1, 3000, .inl (upd (fun _ => 0) 0 (-1)))), (n66, .inl (G.2.1, 242, .inl (fun _ => 0)))] H locs := w
    refine lv_istore (lv' := [(6, .int (-1)), (5, .int 0), (4, .int 0), (3, .ref n107), (2, .ref n64), (1, .ref n0), (0, .ref b)]) hx hb dL_law_1551 hl (by decide) rfl (fun ls hl => ?_)
    refine lv_aload_n hx hb dL_law_1553 rfl (lv_at hl 4 rfl) ?_
    refine fin_i C w (run_V C w mv_L_150 (k126_thrown C.b0 n64 n65 n66 n67 n68 n69 n70 n71 n72 n73 n74 n75 n76 n77 n78 n79 n80 n81 n82 n83 n84 n85 n86 n87 n88 n89 n90 n91 n92 n93 n94 n95 n96 n97 n98 n99 n100 n101 n102 n103 n104 n105 n106 H.size) [14] rfl rfl 14 rfl rfl (by decide) rfl hl.1 rfl (Nat.le_of_ble_eq_true rfl) dL_law_1554 (cells2 := 117) (slots2 := 275538) (by decide)) [14] [0, 1, 2, 3, 4, 5, 6, 7, 8, 9, 10, 11, 12, 13, 15, 16, 17, 18, 19, 20, 21, 22] rfl rfl (by decide) (cells2 := 117) (slots2 := 275538) (by decide) (fun u4 H locs w => ?_)
    have w : Wd s G A [(n0, .inr (11, [.ref n1, .ref n2, .ref n3, .ref n7, .ref n8, .ref n12, .ref n16, .ref n21, .ref n22, .ref n37, .int 0, .int (-1), .int 0, .int 0, .ref (u2 0), .null, .null, .null, .null])), (n3, .inr (5, [.ref n4, .ref n5, .ref n6, .int 0])), (n22, .inr (2, [.int 0, .int 0, .ref n23, .ref n24, .ref n25, .ref n26, .ref n27, .ref n28, .ref n29, .ref n30, .ref n31, .ref n32, .ref n33, .ref n34, .ref n35, .ref n36, .int 0])), (n4, .inl (G.2.1, 8, .inl (fun _ => 0))), (n107, .inl (G.2.2.1, 1, .inr (.inl (vp_updL (fun _ => 0) 0 (-1))))), ((u2 0), .inr (1, [.int 0, .ref n22, .ref (u2 1), .ref (u2 2), .ref (u2 5), .ref (u2 6), .ref (u2 7), .ref (u2 8), .int 1])), ((u2 1), .inl (G.2.1, 24064, .inl (fun _ => 0))), ((u2 2), .inr (7, [.ref (u2 3), .int 0, .int 1, .int 3008, .ref (u2 4)])), ((u2 3), .inl (G.2.1, 24064, .inl (fun _ => 0))), ((u2 4), .inl (G.2.1, 8192, .inl (upd (fun _ => (-1)) 7 0))), ((u2 5), .inl (G.2.1, 3008, .inl (fun _ => 0))), ((u2 6), .inl (G.2.1, 3008, .inl (upd (fun _ => 0) 0 (-1)))), ((u2 7), .inl (G.2.1, 3008, .inl (upd (fun _ => 0) 0 (-1)))), ((u2 8), .inl (G.2.1, 8, .inl (fun _ => 0))), (n80, .inl (G.2.1, 4096, .inl (upd (fun _ => (-1)) 0 0))), (n73, .inl (G.2.1, 57, .inl (fun _ => 0))), (n75, .inl (G.2.1, 8, .inl (fun _ => 0))), (n76, .inl (G.2.1, 24008, .inl (fun _ => 0))), (n81, .inl (G.2.1, 3000, .inl (upd (fun _ => 0) 0 (-1)))), (n78, .inl (G.2.1, 3000, .inl (upd (fun _ => 0) 0 (-1)))), (n79, .inl (G.2.1, 3000, .inl (upd (fun _ => 0) 0 (-1)))), (n66, .inl (G.2.1, 242, .inl (fun _ => 0))), (n64, .inr (12, [.int 0, .int 0, .int 0, .int 0, .int 0, .int 0, .int 0, .int (-1), .ref n65, .ref n66, .ref n67, .int 0, .ref n68, .ref n69, .ref n70, .ref n71, .ref n72, .ref n73, .ref n74, .int 0, .ref n75, .ref n76, .ref n77, .ref n78, .ref n79, .ref n80, .ref n81, .int 1, .int (-1), .int 0, .ref n82, .ref n83, .ref n84, .ref n85, .ref n86, .ref n87, .ref n88, .ref n89, .int 0, .ref n90, .ref n91, .ref n92, .ref n93, .ref n94, .int 0, .ref n95, .ref n96, .ref n97, .ref n98, .int 0, .ref n99, .ref n100, .ref n101, .ref n102, .int 0, .int 0, .ref n103, .ref n104, .ref n105, .ref n106]))] H locs := w
    refine lv_iload hx hb dL_law_1557 (lv_at hl 1 rfl) ?_
    refine lv_icmp_eq (tgt := 1564) hx hb dL_law_1559 (by decide) (fun _ => ?_) (fun h => absurd (by decide) h)
    refine lv_iload hx hb dL_law_1564 (lv_at hl 1 rfl) ?_
    refine lv_if_ne (tgt := 1581) hx hb dL_law_1566 (by decide) (fun h => absurd (by decide) h) (fun _ => ?_)
    refine lv_aload_n hx hb dL_law_1569 rfl (lv_at hl 3 rfl) ?_
    refine lv_iconst (v := 0) hx hb dL_law_1570 (by decide) ?_
    refine r_lald C w 4 rfl (IX.of (k := 0) (by decide +kernel)) (v := (-1)) rfl dL_law_1571 ?_
    refine lv_iload hx hb dL_law_1572 (lv_at hl 0 rfl) ?_
    refine lv_i2l (v := (-1)) hx hb dL_law_1574 (by decide +kernel) ?_
    refine W.lcmp hx hb dL_law_1575 ?_
    refine z_i (v := 0) (by decide +kernel) ?_
    refine lv_if_eq (tgt := 1581) hx hb dL_law_1576 (by decide) (fun _ => ?_) (fun h => absurd (by decide) h)
    refine lv_goto (tgt := 3027) hx hb dL_law_1581 (by decide) ?_
    exact lc_end C hr hX hbl hbA w (lv_sub hl [2, 6] rfl) (by decide) (by decide)
  · refine lv_iconst (v := 1) hx hb dL_law_1504 (by decide) ?_
    refine lv_goto (tgt := 1509) hx hb dL_law_1505 (by decide) ?_
    refine lv_aload_n hx hb dL_law_1509 rfl (lv_at hl 4 rfl) ?_
    refine lv_iload hx hb dL_law_1510 (lv_at hl 0 rfl) ?_
    refine lv_iconst (v := 3) hx hb dL_law_1512 (by decide) ?_
    refine lv_iadd hx hb dL_law_1513 ?_
    refine z_i (v := 3) (by decide +kernel) ?_
    refine va_sld hx hb hX hbl hbA w.2.2 (i := 3) (by decide) dL_law_1514 ?_
    refine z_i (v := (xs 3)) rfl ?_
    refine lv_aload_n hx hb dL_law_1515 rfl (lv_at hl 1 rfl) ?_
    refine fin_i C w (run_H C w mh_L_217 (k236_step C.b0 n0 n3 n22 n4 n107 n1 n2 n7 n8 n12 n16 n21 n37 n5 n6 n23 n24 n25 n26 n27 n28 n29 n30 n31 n32 n33 n34 n35 n36 ((xs 1)) ((xs 3)) g1 g0 H.size) [0, 1, 3, 2, 13] rfl rfl (by decide) rfl hl.1 rfl (Nat.le_of_ble_eq_true rfl) dL_law_1516 (cells2 := 117) (slots2 := 275538) (by decide)) [0, 1, 3, 2, 13] [4, 5, 6, 7, 8, 9, 10, 11, 12] rfl rfl (by decide) (cells2 := 117) (slots2 := 275538) (by decide) (fun u5 H locs w => ?_)
    have w : Wd s G A [(n64, .inr (12, [.int 0, .int 0, .int 0, .int 0, .int 0, .int 0, .int 0, .int (-1), .ref n65, .ref n66, .ref n67, .int 0, .ref n68, .ref n69, .ref n70, .ref n71, .ref n72, .ref n73, .ref n74, .int 0, .ref n75, .ref n76, .ref n77, .ref n78, .ref n79, .ref n80, .ref n81, .int 0, .int (-1), .int 0, .ref n82, .ref n83, .ref n84, .ref n85, .ref n86, .ref n87, .ref n88, .ref n89, .int 0, .ref n90, .ref n91, .ref n92, .ref n93, .ref n94, .int 0, .ref n95, .ref n96, .ref n97, .ref n98, .int 0, .ref n99, .ref n100, .ref n101, .ref n102, .int 0, .int 0, .ref n103, .ref n104, .ref n105, .ref n106])), (n66, .inl (G.2.1, 242, .inl (fun _ => 0))), (n73, .inl (G.2.1, 57, .inl (fun _ => 0))), (n75, .inl (G.2.1, 8, .inl (fun _ => 0))), (n76, .inl (G.2.1, 24008, .inl (fun _ => 0))), (n78, .inl (G.2.1, 3000, .inl (fun _ => 0))), (n79, .inl (G.2.1, 3000, .inl (fun _ => 0))), (n80, .inl (G.2.1, 4096, .inl (fun _ => 0))), (n81, .inl (G.2.1, 3000, .inl (fun _ => 0))), (n0, .inr (11, [.ref n1, .ref n2, .ref n3, .ref n7, .ref n8, .ref n12, .ref n16, .ref n21, .ref n22, .ref n37, .int 0, .int (-1), .int 0, .int 0, .ref (u5 0), .null, .null, .null, .null])), (n3, .inr (5, [.ref n4, .ref n5, .ref n6, .int 0])), (n22, .inr (2, [.int 0, .int 0, .ref n23, .ref n24, .ref n25, .ref n26, .ref n27, .ref n28, .ref n29, .ref n30, .ref n31, .ref n32, .ref n33, .ref n34, .ref n35, .ref n36, .int 0])), (n4, .inl (G.2.1, 8, .inl (fun _ => 0))), (n107, .inl (G.2.2.1, 1, .inr (.inl (vp_updL (fun _ => 0) 0 (-1))))), ((u5 0), .inr (1, [.int 0, .ref n22, .ref (u5 1), .ref (u5 2), .ref (u5 5), .ref (u5 6), .ref (u5 7), .ref (u5 8), .int 1])), ((u5 1), .inl (G.2.1, 24064, .inl (fun _ => 0))), ((u5 2), .inr (7, [.ref (u5 3), .int 0, .int 1, .int 3008, .ref (u5 4)])), ((u5 3), .inl (G.2.1, 24064, .inl (fun _ => 0))), ((u5 4), .inl (G.2.1, 8192, .inl (upd (fun _ => (-1)) 7 0))), ((u5 5), .inl (G.2.1, 3008, .inl (fun _ => 0))), ((u5 6), .inl (G.2.1, 3008, .inl (upd (fun _ => 0) 0 (-1)))), ((u5 7), .inl (G.2.1, 3008, .inl (upd (fun _ => 0) 0 (-1)))), ((u5 8), .inl (G.2.1, 8, .inl (fun _ => 0)))] H locs := w
    refine lv_istore (lv' := [(5, .int 0), (4, .int 0), (3, .ref n107), (2, .ref n64), (1, .ref n0), (0, .ref b)]) hx hb dL_law_1519 hl (by decide) rfl (fun ls hl => ?_)
    refine lv_aload_n hx hb dL_law_1521 rfl (lv_at hl 3 rfl) ?_
    refine lv_aload_n hx hb dL_law_1522 rfl (lv_at hl 5 rfl) ?_
    refine lv_iload hx hb dL_law_1523 (lv_at hl 1 rfl) ?_
    refine lv_iconst (v := 1) hx hb dL_law_1525 (by decide) ?_
    refine lv_iadd hx hb dL_law_1526 ?_
    refine z_i (v := 1) (by decide +kernel) ?_
    refine va_sld hx hb hX hbl hbA w.2.2 (i := 1) (by decide) dL_law_1527 ?_
    refine z_i (v := (xs 1)) rfl ?_
    refine lv_aload_n hx hb dL_law_1528 rfl (lv_at hl 5 rfl) ?_
    refine lv_iload hx hb dL_law_1529 (lv_at hl 1 rfl) ?_
    refine lv_iconst (v := 2) hx hb dL_law_1531 (by decide) ?_
    refine lv_iadd hx hb dL_law_1532 ?_
    refine z_i (v := 2) (by decide +kernel) ?_
    refine va_sld hx hb hX hbl hbA w.2.2 (i := 2) (by decide) dL_law_1533 ?_
    refine z_i (v := (xs 2)) rfl ?_
    refine lv_if_eq (tgt := 1541) hx hb dL_law_1534 (by decide) (fun h => absurd h hf1) (fun _ => ?_)
    refine lv_iconst (v := 1) hx hb dL_law_1537 (by decide) ?_
    refine lv_goto (tgt := 1542) hx hb dL_law_1538 (by decide) ?_
    refine lv_aload_n hx hb dL_law_1542 rfl (lv_at hl 5 rfl) ?_
    refine lv_iload hx hb dL_law_1543 (lv_at hl 1 rfl) ?_
    refine lv_iconst (v := 3) hx hb dL_law_1545 (by decide) ?_
    refine lv_iadd hx hb dL_law_1546 ?_
    refine z_i (v := 3) (by decide +kernel) ?_
    refine va_sld hx hb hX hbl hbA w.2.2 (i := 3) (by decide) dL_law_1547 ?_
    refine z_i (v := (xs 3)) rfl ?_
    refine fin_i C w (run_V C w mv_L_220 (k237_step C.b0 n64 n80 n73 n75 n76 n81 n78 n79 n66 n65 n67 n68 n69 n70 n71 n72 n74 n77 n82 n83 n84 n85 n86 n87 n88 n89 n90 n91 n92 n93 n94 n95 n96 n97 n98 n99 n100 n101 n102 n103 n104 n105 n106 ((xs 1)) ((xs 3)) g1 g0 H.size) [0, 7, 2, 3, 4, 8, 5, 6, 1] rfl rfl 0 rfl rfl (by decide) rfl hl.1 rfl (Nat.le_of_ble_eq_true rfl) dL_law_1548 (cells2 := 117) (slots2 := 275538) (by decide)) [0, 7, 2, 3, 4, 8, 5, 6, 1] [9, 10, 11, 12, 13, 14, 15, 16, 17, 18, 19, 20, 21, 22] rfl rfl (by decide) (cells2 := 117) (slots2 := 275538) (by decide) (fun u6 H locs w => ?_)
    have w : Wd s G A [(n0, .inr (11, [.ref n1, .ref n2, .ref n3, .ref n7, .ref n8, .ref n12, .ref n16, .ref n21, .ref n22, .ref n37, .int 0, .int (-1), .int 0, .int 0, .ref (u5 0), .null, .null, .null, .null])), (n3, .inr (5, [.ref n4, .ref n5, .ref n6, .int 0])), (n22, .inr (2, [.int 0, .int 0, .ref n23, .ref n24, .ref n25, .ref n26, .ref n27, .ref n28, .ref n29, .ref n30, .ref n31, .ref n32, .ref n33, .ref n34, .ref n35, .ref n36, .int 0])), (n4, .inl (G.2.1, 8, .inl (fun _ => 0))), (n107, .inl (G.2.2.1, 1, .inr (.inl (vp_updL (fun _ => 0) 0 (-1))))), ((u5 0), .inr (1, [.int 0, .ref n22, .ref (u5 1), .ref (u5 2), .ref (u5 5), .ref (u5 6), .ref (u5 7), .ref (u5 8), .int 1])), ((u5 1), .inl (G.2.1, 24064, .inl (fun _ => 0))), ((u5 2), .inr (7, [.ref (u5 3), .int 0, .int 1, .int 3008, .ref (u5 4)])), ((u5 3), .inl (G.2.1, 24064, .inl (fun _ => 0))), ((u5 4), .inl (G.2.1, 8192, .inl (upd (fun _ => (-1)) 7 0))), ((u5 5), .inl (G.2.1, 3008, .inl (fun _ => 0))), ((u5 6), .inl (G.2.1, 3008, .inl (upd (fun _ => 0) 0 (-1)))), ((u5 7), .inl (G.2.1, 3008, .inl (upd (fun _ => 0) 0 (-1)))), ((u5 8), .inl (G.2.1, 8, .inl (fun _ => 0))), (n64, .inr (12, [.int 0, .int 0, .int 0, .int 0, .int 0, .int 0, .int 0, .int (-1), .ref n65, .ref n66, .ref n67, .int 0, .ref n68, .ref n69, .ref n70, .ref n71, .ref n72, .ref n73, .ref n74, .int 0, .ref n75, .ref n76, .ref n77, .ref n78, .ref n79, .ref n80, .ref n81, .int 1, .int (-1), .int 0, .ref n82, .ref n83, .ref n84, .ref n85, .ref n86, .ref n87, .ref n88, .ref n89, .int 0, .ref n90, .ref n91, .ref n92, .ref n93, .ref n94, .int 0, .ref n95, .ref n96, .ref n97, .ref n98, .int 0, .ref n99, .ref n100, .ref n101, .ref n102, .int 0, .int 0, .ref n103, .ref n104, .ref n105, .ref n106])), (n80, .inl (G.2.1, 4096, .inl (upd (fun _ => (-1)) 0 0))), (n73, .inl (G.2.1, 57, .inl (fun _ => 0))), (n75, .inl (G.2.1, 8, .inl (fun _ => 0))), (n76, .inl (G.2.1, 24008, .inl (fun _ => 0))), (n81, .inl (G.2.1, 3000, .inl (upd (fun _ => 0) 0 (-1)))), (n78, .inl (G.2.1, 3000, .inl (upd (fun _ => 0) 0 (-1)))), (n79, .inl (G.2.1, 3000, .inl (upd (fun _ => 0) 0 (-1)))), (n66, .inl (G.2.1, 242, .inl (fun _ => 0)))] H locs := w
    refine lv_istore (lv' := [(6, .int (-1)), (5, .int 0), (4, .int 0), (3, .ref n107), (2, .ref n64), (1, .ref n0), (0, .ref b)]) hx hb dL_law_1551 hl (by decide) rfl (fun ls hl => ?_)
    refine lv_aload_n hx hb dL_law_1553 rfl (lv_at hl 4 rfl) ?_
    refine fin_i C w (run_V C w mv_L_150 (k126_thrown C.b0 n64 n65 n66 n67 n68 n69 n70 n71 n72 n73 n74 n75 n76 n77 n78 n79 n80 n81 n82 n83 n84 n85 n86 n87 n88 n89 n90 n91 n92 n93 n94 n95 n96 n97 n98 n99 n100 n101 n102 n103 n104 n105 n106 H.size) [14] rfl rfl 14 rfl rfl (by decide) rfl hl.1 rfl (Nat.le_of_ble_eq_true rfl) dL_law_1554 (cells2 := 117) (slots2 := 275538) (by decide)) [14] [0, 1, 2, 3, 4, 5, 6, 7, 8, 9, 10, 11, 12, 13, 15, 16, 17, 18, 19, 20, 21, 22] rfl rfl (by decide) (cells2 := 117) (slots2 := 275538) (by decide) (fun u7 H locs w => ?_)
    have w : Wd s G A [(n0, .inr (11, [.ref n1, .ref n2, .ref n3, .ref n7, .ref n8, .ref n12, .ref n16, .ref n21, .ref n22, .ref n37, .int 0, .int (-1), .int 0, .int 0, .ref (u5 0), .null, .null, .null, .null])), (n3, .inr (5, [.ref n4, .ref n5, .ref n6, .int 0])), (n22, .inr (2, [.int 0, .int 0, .ref n23, .ref n24, .ref n25, .ref n26, .ref n27, .ref n28, .ref n29, .ref n30, .ref n31, .ref n32, .ref n33, .ref n34, .ref n35, .ref n36, .int 0])), (n4, .inl (G.2.1, 8, .inl (fun _ => 0))), (n107, .inl (G.2.2.1, 1, .inr (.inl (vp_updL (fun _ => 0) 0 (-1))))), ((u5 0), .inr (1, [.int 0, .ref n22, .ref (u5 1), .ref (u5 2), .ref (u5 5), .ref (u5 6), .ref (u5 7), .ref (u5 8), .int 1])), ((u5 1), .inl (G.2.1, 24064, .inl (fun _ => 0))), ((u5 2), .inr (7, [.ref (u5 3), .int 0, .int 1, .int 3008, .ref (u5 4)])), ((u5 3), .inl (G.2.1, 24064, .inl (fun _ => 0))), ((u5 4), .inl (G.2.1, 8192, .inl (upd (fun _ => (-1)) 7 0))), ((u5 5), .inl (G.2.1, 3008, .inl (fun _ => 0))), ((u5 6), .inl (G.2.1, 3008, .inl (upd (fun _ => 0) 0 (-1)))), ((u5 7), .inl (G.2.1, 3008, .inl (upd (fun _ => 0) 0 (-1)))), ((u5 8), .inl (G.2.1, 8, .inl (fun _ => 0))), (n80, .inl (G.2.1, 4096, .inl (upd (fun _ => (-1)) 0 0))), (n73, .inl (G.2.1, 57, .inl (fun _ => 0))), (n75, .inl (G.2.1, 8, .inl (fun _ => 0))), (n76, .inl (G.2.1, 24008, .inl (fun _ => 0))), (n81, .inl (G.2.1, 3000, .inl (upd (fun _ => 0) 0 (-1)))), (n78, .inl (G.2.1, 3000, .inl (upd (fun _ => 0) 0 (-1)))), (n79, .inl (G.2.1, 3000, .inl (upd (fun _ => 0) 0 (-1)))), (n66, .inl (G.2.1, 242, .inl (fun _ => 0))), (n64, .inr (12, [.int 0, .int 0, .int 0, .int 0, .int 0, .int 0, .int 0, .int (-1), .ref n65, .ref n66, .ref n67, .int 0, .ref n68, .ref n69, .ref n70, .ref n71, .ref n72, .ref n73, .ref n74, .int 0, .ref n75, .ref n76, .ref n77, .ref n78, .ref n79, .ref n80, .ref n81, .int 1, .int (-1), .int 0, .ref n82, .ref n83, .ref n84, .ref n85, .ref n86, .ref n87, .ref n88, .ref n89, .int 0, .ref n90, .ref n91, .ref n92, .ref n93, .ref n94, .int 0, .ref n95, .ref n96, .ref n97, .ref n98, .int 0, .ref n99, .ref n100, .ref n101, .ref n102, .int 0, .int 0, .ref n103, .ref n104, .ref n105, .ref n106]))] H locs := w
    refine lv_iload hx hb dL_law_1557 (lv_at hl 1 rfl) ?_
    refine lv_icmp_eq (tgt := 1564) hx hb dL_law_1559 (by decide) (fun _ => ?_) (fun h => absurd (by decide) h)
    refine lv_iload hx hb dL_law_1564 (lv_at hl 1 rfl) ?_
    refine lv_if_ne (tgt := 1581) hx hb dL_law_1566 (by decide) (fun h => absurd (by decide) h) (fun _ => ?_)
    refine lv_aload_n hx hb dL_law_1569 rfl (lv_at hl 3 rfl) ?_
    refine lv_iconst (v := 0) hx hb dL_law_1570 (by decide) ?_
    refine r_lald C w 4 rfl (IX.of (k := 0) (by decide +kernel)) (v := (-1)) rfl dL_law_1571 ?_
    refine lv_iload hx hb dL_law_1572 (lv_at hl 0 rfl) ?_
    refine lv_i2l (v := (-1)) hx hb dL_law_1574 (by decide +kernel) ?_
    refine W.lcmp hx hb dL_law_1575 ?_
    refine z_i (v := 0) (by decide +kernel) ?_
    refine lv_if_eq (tgt := 1581) hx hb dL_law_1576 (by decide) (fun _ => ?_) (fun h => absurd (by decide) h)
    refine lv_goto (tgt := 3027) hx hb dL_law_1581 (by decide) ?_
    exact lc_end C hr hX hbl hbA w (lv_sub hl [2, 6] rfl) (by decide) (by decide)
set_option maxRecDepth 100000 in
set_option maxHeartbeats 4000000 in
theorem lc_22_0 {l : Launch} {G : GT} {p : Program} {e : Env} {s : State} {m : MethodId} {below : List Frame} {meth : Method} {c : Code} {A : Nat → Prop} {b : Nat} {xs : Nat → Int32} (C : Cx l s #[Value.ref b] G p s m #[Value.ref b] meth c RL cL_law 8 "law" A) (hr : meth.sig.returnType = some .boolean) (hX : va_X b 6 xs s s.heap) (hbl : b < s.heap.size) (hbA : ¬ A b) (n0 n1 n2 n3 n7 n8 n12 n16 n21 n22 n37 n64 n65 n66 n67 n68 n69 n70 n71 n72 n73 n74 n75 n76 n77 n78 n79 n80 n81 n82 n83 n84 n85 n86 n87 n88 n89 n90 n91 n92 n93 n94 n95 n96 n97 n98 n99 n100 n101 n102 n103 n104 n105 n106 n107 : Nat) (g0 : (xs 1) < 1) {H : Heap} {locs : List Loc} {ls : Array Slot} (w : Wd s G A [(n0, .inr (11, [.ref n1, .ref n2, .ref n3, .ref n7, .ref n8, .ref n12, .ref n16, .ref n21, .ref n22, .ref n37, .int 0, .int (-1), .int 0, .int 0, .null, .null, .null, .null, .null])), (n64, .inr (12, [.int 0, .int 0, .int 0, .int 0, .int 0, .int 0, .int 0, .int (-1), .ref n65, .ref n66, .ref n67, .int 0, .ref n68, .ref n69, .ref n70, .ref n71, .ref n72, .ref n73, .ref n74, .int 0, .ref n75, .ref n76, .ref n77, .ref n78, .ref n79, .ref n80, .ref n81, .int 0, .int (-1), .int 0, .ref n82, .ref n83, .ref n84, .ref n85, .ref n86, .ref n87, .ref n88, .ref n89, .int 0, .ref n90, .ref n91, .ref n92, .ref n93, .ref n94, .int 0, .ref n95, .ref n96, .ref n97, .ref n98, .int 0, .ref n99, .ref n100, .ref n101, .ref n102, .int 0, .int 0, .ref n103, .ref n104, .ref n105, .ref n106]))] H locs) (hl : lv_has ls 8 [(4, .int 0), (3, .ref n107), (2, .ref n64), (1, .ref n0), (0, .ref b)]) : W p l e room_1 s m #[Value.ref b] below meth c H locs 108 210172 (lw_Z below #[Value.ref b] s) (F0 m 1584 ls []) := by
  have hx := C.hx
  have hb := C.hb
  refine lv_aload_n hx hb dL_law_1584 rfl (lv_at hl 3 rfl) ?_
  refine lv_aload_n hx hb dL_law_1585 rfl (lv_at hl 4 rfl) ?_
  refine lv_iload hx hb dL_law_1586 (lv_at hl 0 rfl) ?_
  refine lv_iconst (v := 1) hx hb dL_law_1588 (by decide) ?_
  refine lv_iadd hx hb dL_law_1589 ?_
  refine z_i (v := 1) (by decide +kernel) ?_
  refine va_sld hx hb hX hbl hbA w.2.2 (i := 1) (by decide) dL_law_1590 ?_
  refine z_i (v := (xs 1)) rfl ?_
  refine lv_aload_n hx hb dL_law_1591 rfl (lv_at hl 4 rfl) ?_
  refine lv_iload hx hb dL_law_1592 (lv_at hl 0 rfl) ?_
  refine lv_iconst (v := 2) hx hb dL_law_1594 (by decide) ?_
  refine lv_iadd hx hb dL_law_1595 ?_
  refine z_i (v := 2) (by decide +kernel) ?_
  refine va_sld hx hb hX hbl hbA w.2.2 (i := 2) (by decide) dL_law_1596 ?_
  refine z_i (v := (xs 2)) rfl ?_
  refine lv_if_eq (tgt := 1604) hx hb dL_law_1597 (by decide) (fun hf1 => ?_) (fun hf1 => ?_)
  · refine lv_iconst (v := 0) hx hb dL_law_1604 (by decide) ?_
    refine lv_aload_n hx hb dL_law_1605 rfl (lv_at hl 1 rfl) ?_
    refine fin_i C w (run_H C w mh_L_221 (k239_cheapest C.b0 n0 n107 n1 n2 n3 n7 n8 n12 n16 n21 n22 n37 ((xs 1)) g0 H.size) [0] rfl rfl (by decide) rfl hl.1 rfl (Nat.le_of_ble_eq_true rfl) dL_law_1606 (cells2 := 109) (slots2 := 210178) (by decide)) [0] [1] rfl rfl (by decide) (cells2 := 109) (slots2 := 210178) (by decide) (fun u2 H locs w => ?_)
    have w : Wd s G A [(n64, .inr (12, [.int 0, .int 0, .int 0, .int 0, .int 0, .int 0, .int 0, .int (-1), .ref n65, .ref n66, .ref n67, .int 0, .ref n68, .ref n69, .ref n70, .ref n71, .ref n72, .ref n73, .ref n74, .int 0, .ref n75, .ref n76, .ref n77, .ref n78, .ref n79, .ref n80, .ref n81, .int 0, .int (-1), .int 0, .ref n82, .ref n83, .ref n84, .ref n85, .ref n86, .ref n87, .ref n88, .ref n89, .int 0, .ref n90, .ref n91, .ref n92, .ref n93, .ref n94, .int 0, .ref n95, .ref n96, .ref n97, .ref n98, .int 0, .ref n99, .ref n100, .ref n101, .ref n102, .int 0, .int 0, .ref n103, .ref n104, .ref n105, .ref n106])), (n0, .inr (11, [.ref n1, .ref n2, .ref n3, .ref n7, .ref n8, .ref n12, .ref n16, .ref n21, .ref n22, .ref n37, .int 0, .int (-1), .int 0, .int 0, .null, .null, .null, .null, .null]))] H locs := w
    refine lv_istore (lv' := [(5, .int 1), (4, .int 0), (3, .ref n107), (2, .ref n64), (1, .ref n0), (0, .ref b)]) hx hb dL_law_1609 hl (by decide) rfl (fun ls hl => ?_)
    refine lv_aload_n hx hb dL_law_1611 rfl (lv_at hl 3 rfl) ?_
    refine lv_aload_n hx hb dL_law_1612 rfl (lv_at hl 5 rfl) ?_
    refine lv_iload hx hb dL_law_1613 (lv_at hl 1 rfl) ?_
    refine lv_iconst (v := 1) hx hb dL_law_1615 (by decide) ?_
    refine lv_iadd hx hb dL_law_1616 ?_
    refine z_i (v := 1) (by decide +kernel) ?_
    refine va_sld hx hb hX hbl hbA w.2.2 (i := 1) (by decide) dL_law_1617 ?_
    refine z_i (v := (xs 1)) rfl ?_
    refine lv_aload_n hx hb dL_law_1618 rfl (lv_at hl 5 rfl) ?_
    refine lv_iload hx hb dL_law_1619 (lv_at hl 1 rfl) ?_
    refine lv_iconst (v := 2) hx hb dL_law_1621 (by decide) ?_
    refine lv_iadd hx hb dL_law_1622 ?_
    refine z_i (v := 2) (by decide +kernel) ?_
    refine va_sld hx hb hX hbl hbA w.2.2 (i := 2) (by decide) dL_law_1623 ?_
    refine z_i (v := (xs 2)) rfl ?_
    refine lv_if_eq (tgt := 1631) hx hb dL_law_1624 (by decide) (fun _ => ?_) (fun h => absurd hf1 h)
    refine lv_iconst (v := 0) hx hb dL_law_1631 (by decide) ?_
    refine fin_i C w (run_V C w mv_L_223 (k240_cheapest C.b0 n64 n65 n66 n67 n68 n69 n70 n71 n72 n73 n74 n75 n76 n77 n78 n79 n80 n81 n82 n83 n84 n85 n86 n87 n88 n89 n90 n91 n92 n93 n94 n95 n96 n97 n98 n99 n100 n101 n102 n103 n104 n105 n106 ((xs 1)) g0 H.size) [0] rfl rfl 0 rfl rfl (by decide) rfl hl.1 rfl (Nat.le_of_ble_eq_true rfl) dL_law_1632 (cells2 := 109) (slots2 := 210178) (by decide)) [0] [1] rfl rfl (by decide) (cells2 := 109) (slots2 := 210178) (by decide) (fun u3 H locs w => ?_)
    have w : Wd s G A [(n0, .inr (11, [.ref n1, .ref n2, .ref n3, .ref n7, .ref n8, .ref n12, .ref n16, .ref n21, .ref n22, .ref n37, .int 0, .int (-1), .int 0, .int 0, .null, .null, .null, .null, .null])), (n64, .inr (12, [.int 1, .int 0, .int 0, .int 0, .int 0, .int 0, .int 0, .int (-1), .ref n65, .ref n66, .ref n67, .int 0, .ref n68, .ref n69, .ref n70, .ref n71, .ref n72, .ref n73, .ref n74, .int 0, .ref n75, .ref n76, .ref n77, .ref n78, .ref n79, .ref n80, .ref n81, .int 0, .int (-1), .int 0, .ref n82, .ref n83, .ref n84, .ref n85, .ref n86, .ref n87, .ref n88, .ref n89, .int 0, .ref n90, .ref n91, .ref n92, .ref n93, .ref n94, .int 0, .ref n95, .ref n96, .ref n97, .ref n98, .int 0, .ref n99, .ref n100, .ref n101, .ref n102, .int 0, .int 0, .ref n103, .ref n104, .ref n105, .ref n106]))] H locs := w
    refine lv_istore (lv' := [(6, .int 0), (5, .int 1), (4, .int 0), (3, .ref n107), (2, .ref n64), (1, .ref n0), (0, .ref b)]) hx hb dL_law_1635 hl (by decide) rfl (fun ls hl => ?_)
    refine lv_aload_n hx hb dL_law_1637 rfl (lv_at hl 4 rfl) ?_
    refine fin_i C w (run_V C w mv_L_150 (k20_thrown C.b0 n64 n65 n66 n67 n68 n69 n70 n71 n72 n73 n74 n75 n76 n77 n78 n79 n80 n81 n82 n83 n84 n85 n86 n87 n88 n89 n90 n91 n92 n93 n94 n95 n96 n97 n98 n99 n100 n101 n102 n103 n104 n105 n106 H.size) [1] rfl rfl 1 rfl rfl (by decide) rfl hl.1 rfl (Nat.le_of_ble_eq_true rfl) dL_law_1638 (cells2 := 109) (slots2 := 210178) (by decide)) [1] [0] rfl rfl (by decide) (cells2 := 109) (slots2 := 210178) (by decide) (fun u4 H locs w => ?_)
    have w : Wd s G A [(n0, .inr (11, [.ref n1, .ref n2, .ref n3, .ref n7, .ref n8, .ref n12, .ref n16, .ref n21, .ref n22, .ref n37, .int 0, .int (-1), .int 0, .int 0, .null, .null, .null, .null, .null])), (n64, .inr (12, [.int 1, .int 0, .int 0, .int 0, .int 0, .int 0, .int 0, .int (-1), .ref n65, .ref n66, .ref n67, .int 0, .ref n68, .ref n69, .ref n70, .ref n71, .ref n72, .ref n73, .ref n74, .int 0, .ref n75, .ref n76, .ref n77, .ref n78, .ref n79, .ref n80, .ref n81, .int 0, .int (-1), .int 0, .ref n82, .ref n83, .ref n84, .ref n85, .ref n86, .ref n87, .ref n88, .ref n89, .int 0, .ref n90, .ref n91, .ref n92, .ref n93, .ref n94, .int 0, .ref n95, .ref n96, .ref n97, .ref n98, .int 0, .ref n99, .ref n100, .ref n101, .ref n102, .int 0, .int 0, .ref n103, .ref n104, .ref n105, .ref n106]))] H locs := w
    refine lv_iload hx hb dL_law_1641 (lv_at hl 1 rfl) ?_
    refine lv_icmp_eq (tgt := 1648) hx hb dL_law_1643 (by decide) (fun _ => ?_) (fun h => absurd (by decide) h)
    refine lv_iload hx hb dL_law_1648 (lv_at hl 1 rfl) ?_
    refine lv_if_ne (tgt := 1665) hx hb dL_law_1650 (by decide) (fun _ => ?_) (fun h => h.elim (by decide))
    refine lv_goto (tgt := 3027) hx hb dL_law_1665 (by decide) ?_
    exact lc_end C hr hX hbl hbA w (lv_sub hl [2, 6] rfl) (by decide) (by decide)
  · refine lv_iconst (v := 1) hx hb dL_law_1600 (by decide) ?_
    refine lv_goto (tgt := 1605) hx hb dL_law_1601 (by decide) ?_
    refine lv_aload_n hx hb dL_law_1605 rfl (lv_at hl 1 rfl) ?_
    refine fin_i C w (run_H C w mh_L_221 (k242_cheapest C.b0 n0 n107 n1 n2 n3 n7 n8 n12 n16 n21 n22 n37 ((xs 1)) g0 H.size) [0] rfl rfl (by decide) rfl hl.1 rfl (Nat.le_of_ble_eq_true rfl) dL_law_1606 (cells2 := 109) (slots2 := 210178) (by decide)) [0] [1] rfl rfl (by decide) (cells2 := 109) (slots2 := 210178) (by decide) (fun u5 H locs w => ?_)
    have w : Wd s G A [(n64, .inr (12, [.int 0, .int 0, .int 0, .int 0, .int 0, .int 0, .int 0, .int (-1), .ref n65, .ref n66, .ref n67, .int 0, .ref n68, .ref n69, .ref n70, .ref n71, .ref n72, .ref n73, .ref n74, .int 0, .ref n75, .ref n76, .ref n77, .ref n78, .ref n79, .ref n80, .ref n81, .int 0, .int (-1), .int 0, .ref n82, .ref n83, .ref n84, .ref n85, .ref n86, .ref n87, .ref n88, .ref n89, .int 0, .ref n90, .ref n91, .ref n92, .ref n93, .ref n94, .int 0, .ref n95, .ref n96, .ref n97, .ref n98, .int 0, .ref n99, .ref n100, .ref n101, .ref n102, .int 0, .int 0, .ref n103, .ref n104, .ref n105, .ref n106])), (n0, .inr (11, [.ref n1, .ref n2, .ref n3, .ref n7, .ref n8, .ref n12, .ref n16, .ref n21, .ref n22, .ref n37, .int 0, .int (-1), .int 0, .int 0, .null, .null, .null, .null, .null]))] H locs := w
    refine lv_istore (lv' := [(5, .int 1), (4, .int 0), (3, .ref n107), (2, .ref n64), (1, .ref n0), (0, .ref b)]) hx hb dL_law_1609 hl (by decide) rfl (fun ls hl => ?_)
    refine lv_aload_n hx hb dL_law_1611 rfl (lv_at hl 3 rfl) ?_
    refine lv_aload_n hx hb dL_law_1612 rfl (lv_at hl 5 rfl) ?_
    refine lv_iload hx hb dL_law_1613 (lv_at hl 1 rfl) ?_
    refine lv_iconst (v := 1) hx hb dL_law_1615 (by decide) ?_
    refine lv_iadd hx hb dL_law_1616 ?_
    refine z_i (v := 1) (by decide +kernel) ?_
    refine va_sld hx hb hX hbl hbA w.2.2 (i := 1) (by decide) dL_law_1617 ?_
    refine z_i (v := (xs 1)) rfl ?_
    refine lv_aload_n hx hb dL_law_1618 rfl (lv_at hl 5 rfl) ?_
    refine lv_iload hx hb dL_law_1619 (lv_at hl 1 rfl) ?_
    refine lv_iconst (v := 2) hx hb dL_law_1621 (by decide) ?_
    refine lv_iadd hx hb dL_law_1622 ?_
    refine z_i (v := 2) (by decide +kernel) ?_
    refine va_sld hx hb hX hbl hbA w.2.2 (i := 2) (by decide) dL_law_1623 ?_
    refine z_i (v := (xs 2)) rfl ?_
    refine lv_if_eq (tgt := 1631) hx hb dL_law_1624 (by decide) (fun h => absurd h hf1) (fun _ => ?_)
    refine lv_iconst (v := 1) hx hb dL_law_1627 (by decide) ?_
    refine lv_goto (tgt := 1632) hx hb dL_law_1628 (by decide) ?_
    refine fin_i C w (run_V C w mv_L_223 (k243_cheapest C.b0 n64 n65 n66 n67 n68 n69 n70 n71 n72 n73 n74 n75 n76 n77 n78 n79 n80 n81 n82 n83 n84 n85 n86 n87 n88 n89 n90 n91 n92 n93 n94 n95 n96 n97 n98 n99 n100 n101 n102 n103 n104 n105 n106 ((xs 1)) g0 H.size) [0] rfl rfl 0 rfl rfl (by decide) rfl hl.1 rfl (Nat.le_of_ble_eq_true rfl) dL_law_1632 (cells2 := 109) (slots2 := 210178) (by decide)) [0] [1] rfl rfl (by decide) (cells2 := 109) (slots2 := 210178) (by decide) (fun u6 H locs w => ?_)
    have w : Wd s G A [(n0, .inr (11, [.ref n1, .ref n2, .ref n3, .ref n7, .ref n8, .ref n12, .ref n16, .ref n21, .ref n22, .ref n37, .int 0, .int (-1), .int 0, .int 0, .null, .null, .null, .null, .null])), (n64, .inr (12, [.int 1, .int 0, .int 0, .int 0, .int 0, .int 0, .int 0, .int (-1), .ref n65, .ref n66, .ref n67, .int 0, .ref n68, .ref n69, .ref n70, .ref n71, .ref n72, .ref n73, .ref n74, .int 0, .ref n75, .ref n76, .ref n77, .ref n78, .ref n79, .ref n80, .ref n81, .int 0, .int (-1), .int 0, .ref n82, .ref n83, .ref n84, .ref n85, .ref n86, .ref n87, .ref n88, .ref n89, .int 0, .ref n90, .ref n91, .ref n92, .ref n93, .ref n94, .int 0, .ref n95, .ref n96, .ref n97, .ref n98, .int 0, .ref n99, .ref n100, .ref n101, .ref n102, .int 0, .int 0, .ref n103, .ref n104, .ref n105, .ref n106]))] H locs := w
    refine lv_istore (lv' := [(6, .int 0), (5, .int 1), (4, .int 0), (3, .ref n107), (2, .ref n64), (1, .ref n0), (0, .ref b)]) hx hb dL_law_1635 hl (by decide) rfl (fun ls hl => ?_)
    refine lv_aload_n hx hb dL_law_1637 rfl (lv_at hl 4 rfl) ?_
    refine fin_i C w (run_V C w mv_L_150 (k20_thrown C.b0 n64 n65 n66 n67 n68 n69 n70 n71 n72 n73 n74 n75 n76 n77 n78 n79 n80 n81 n82 n83 n84 n85 n86 n87 n88 n89 n90 n91 n92 n93 n94 n95 n96 n97 n98 n99 n100 n101 n102 n103 n104 n105 n106 H.size) [1] rfl rfl 1 rfl rfl (by decide) rfl hl.1 rfl (Nat.le_of_ble_eq_true rfl) dL_law_1638 (cells2 := 109) (slots2 := 210178) (by decide)) [1] [0] rfl rfl (by decide) (cells2 := 109) (slots2 := 210178) (by decide) (fun u7 H locs w => ?_)
    have w : Wd s G A [(n0, .inr (11, [.ref n1, .ref n2, .ref n3, .ref n7, .ref n8, .ref n12, .ref n16, .ref n21, .ref n22, .ref n37, .int 0, .int (-1), .int 0, .int 0, .null, .null, .null, .null, .null])), (n64, .inr (12, [.int 1, .int 0, .int 0, .int 0, .int 0, .int 0, .int 0, .int (-1), .ref n65, .ref n66, .ref n67, .int 0, .ref n68, .ref n69, .ref n70, .ref n71, .ref n72, .ref n73, .ref n74, .int 0, .ref n75, .ref n76, .ref n77, .ref n78, .ref n79, .ref n80, .ref n81, .int 0, .int (-1), .int 0, .ref n82, .ref n83, .ref n84, .ref n85, .ref n86, .ref n87, .ref n88, .ref n89, .int 0, .ref n90, .ref n91, .ref n92, .ref n93, .ref n94, .int 0, .ref n95, .ref n96, .ref n97, .ref n98, .int 0, .ref n99, .ref n100, .ref n101, .ref n102, .int 0, .int 0, .ref n103, .ref n104, .ref n105, .ref n106]))] H locs := w
    refine lv_iload hx hb dL_law_1641 (lv_at hl 1 rfl) ?_
    refine lv_icmp_eq (tgt := 1648) hx hb dL_law_1643 (by decide) (fun _ => ?_) (fun h => absurd (by decide) h)
    refine lv_iload hx hb dL_law_1648 (lv_at hl 1 rfl) ?_
    refine lv_if_ne (tgt := 1665) hx hb dL_law_1650 (by decide) (fun _ => ?_) (fun h => h.elim (by decide))
    refine lv_goto (tgt := 3027) hx hb dL_law_1665 (by decide) ?_
    exact lc_end C hr hX hbl hbA w (lv_sub hl [2, 6] rfl) (by decide) (by decide)
set_option maxRecDepth 100000 in
set_option maxHeartbeats 4000000 in
theorem lc_22_1 {l : Launch} {G : GT} {p : Program} {e : Env} {s : State} {m : MethodId} {below : List Frame} {meth : Method} {c : Code} {A : Nat → Prop} {b : Nat} {xs : Nat → Int32} (C : Cx l s #[Value.ref b] G p s m #[Value.ref b] meth c RL cL_law 8 "law" A) (hr : meth.sig.returnType = some .boolean) (hX : va_X b 6 xs s s.heap) (hbl : b < s.heap.size) (hbA : ¬ A b) (n0 n1 n2 n3 n7 n8 n12 n16 n21 n22 n37 n64 n65 n66 n67 n68 n69 n70 n71 n72 n73 n74 n75 n76 n77 n78 n79 n80 n81 n82 n83 n84 n85 n86 n87 n88 n89 n90 n91 n92 n93 n94 n95 n96 n97 n98 n99 n100 n101 n102 n103 n104 n105 n106 n107 : Nat) (g0 : ¬ (xs 1) < 1) (g1 : 3000 < (xs 1)) {H : Heap} {locs : List Loc} {ls : Array Slot} (w : Wd s G A [(n0, .inr (11, [.ref n1, .ref n2, .ref n3, .ref n7, .ref n8, .ref n12, .ref n16, .ref n21, .ref n22, .ref n37, .int 0, .int (-1), .int 0, .int 0, .null, .null, .null, .null, .null])), (n64, .inr (12, [.int 0, .int 0, .int 0, .int 0, .int 0, .int 0, .int 0, .int (-1), .ref n65, .ref n66, .ref n67, .int 0, .ref n68, .ref n69, .ref n70, .ref n71, .ref n72, .ref n73, .ref n74, .int 0, .ref n75, .ref n76, .ref n77, .ref n78, .ref n79, .ref n80, .ref n81, .int 0, .int (-1), .int 0, .ref n82, .ref n83, .ref n84, .ref n85, .ref n86, .ref n87, .ref n88, .ref n89, .int 0, .ref n90, .ref n91, .ref n92, .ref n93, .ref n94, .int 0, .ref n95, .ref n96, .ref n97, .ref n98, .int 0, .ref n99, .ref n100, .ref n101, .ref n102, .int 0, .int 0, .ref n103, .ref n104, .ref n105, .ref n106]))] H locs) (hl : lv_has ls 8 [(4, .int 0), (3, .ref n107), (2, .ref n64), (1, .ref n0), (0, .ref b)]) : W p l e room_1 s m #[Value.ref b] below meth c H locs 108 210172 (lw_Z below #[Value.ref b] s) (F0 m 1584 ls []) := by
  have hx := C.hx
  have hb := C.hb
  refine lv_aload_n hx hb dL_law_1584 rfl (lv_at hl 3 rfl) ?_
  refine lv_aload_n hx hb dL_law_1585 rfl (lv_at hl 4 rfl) ?_
  refine lv_iload hx hb dL_law_1586 (lv_at hl 0 rfl) ?_
  refine lv_iconst (v := 1) hx hb dL_law_1588 (by decide) ?_
  refine lv_iadd hx hb dL_law_1589 ?_
  refine z_i (v := 1) (by decide +kernel) ?_
  refine va_sld hx hb hX hbl hbA w.2.2 (i := 1) (by decide) dL_law_1590 ?_
  refine z_i (v := (xs 1)) rfl ?_
  refine lv_aload_n hx hb dL_law_1591 rfl (lv_at hl 4 rfl) ?_
  refine lv_iload hx hb dL_law_1592 (lv_at hl 0 rfl) ?_
  refine lv_iconst (v := 2) hx hb dL_law_1594 (by decide) ?_
  refine lv_iadd hx hb dL_law_1595 ?_
  refine z_i (v := 2) (by decide +kernel) ?_
  refine va_sld hx hb hX hbl hbA w.2.2 (i := 2) (by decide) dL_law_1596 ?_
  refine z_i (v := (xs 2)) rfl ?_
  refine lv_if_eq (tgt := 1604) hx hb dL_law_1597 (by decide) (fun hf1 => ?_) (fun hf1 => ?_)
  · refine lv_iconst (v := 0) hx hb dL_law_1604 (by decide) ?_
    refine lv_aload_n hx hb dL_law_1605 rfl (lv_at hl 1 rfl) ?_
    refine fin_i C w (run_H C w mh_L_221 (k245_cheapest C.b0 n0 n107 n1 n2 n3 n7 n8 n12 n16 n21 n22 n37 ((xs 1)) g1 g0 H.size) [0] rfl rfl (by decide) rfl hl.1 rfl (Nat.le_of_ble_eq_true rfl) dL_law_1606 (cells2 := 109) (slots2 := 210178) (by decide)) [0] [1] rfl rfl (by decide) (cells2 := 109) (slots2 := 210178) (by decide) (fun u2 H locs w => ?_)
    have w : Wd s G A [(n64, .inr (12, [.int 0, .int 0, .int 0, .int 0, .int 0, .int 0, .int 0, .int (-1), .ref n65, .ref n66, .ref n67, .int 0, .ref n68, .ref n69, .ref n70, .ref n71, .ref n72, .ref n73, .ref n74, .int 0, .ref n75, .ref n76, .ref n77, .ref n78, .ref n79, .ref n80, .ref n81, .int 0, .int (-1), .int 0, .ref n82, .ref n83, .ref n84, .ref n85, .ref n86, .ref n87, .ref n88, .ref n89, .int 0, .ref n90, .ref n91, .ref n92, .ref n93, .ref n94, .int 0, .ref n95, .ref n96, .ref n97, .ref n98, .int 0, .ref n99, .ref n100, .ref n101, .ref n102, .int 0, .int 0, .ref n103, .ref n104, .ref n105, .ref n106])), (n0, .inr (11, [.ref n1, .ref n2, .ref n3, .ref n7, .ref n8, .ref n12, .ref n16, .ref n21, .ref n22, .ref n37, .int 0, .int (-1), .int 0, .int 0, .null, .null, .null, .null, .null]))] H locs := w
    refine lv_istore (lv' := [(5, .int 1), (4, .int 0), (3, .ref n107), (2, .ref n64), (1, .ref n0), (0, .ref b)]) hx hb dL_law_1609 hl (by decide) rfl (fun ls hl => ?_)
    refine lv_aload_n hx hb dL_law_1611 rfl (lv_at hl 3 rfl) ?_
    refine lv_aload_n hx hb dL_law_1612 rfl (lv_at hl 5 rfl) ?_
    refine lv_iload hx hb dL_law_1613 (lv_at hl 1 rfl) ?_
    refine lv_iconst (v := 1) hx hb dL_law_1615 (by decide) ?_
    refine lv_iadd hx hb dL_law_1616 ?_
    refine z_i (v := 1) (by decide +kernel) ?_
    refine va_sld hx hb hX hbl hbA w.2.2 (i := 1) (by decide) dL_law_1617 ?_
    refine z_i (v := (xs 1)) rfl ?_
    refine lv_aload_n hx hb dL_law_1618 rfl (lv_at hl 5 rfl) ?_
    refine lv_iload hx hb dL_law_1619 (lv_at hl 1 rfl) ?_
    refine lv_iconst (v := 2) hx hb dL_law_1621 (by decide) ?_
    refine lv_iadd hx hb dL_law_1622 ?_
    refine z_i (v := 2) (by decide +kernel) ?_
    refine va_sld hx hb hX hbl hbA w.2.2 (i := 2) (by decide) dL_law_1623 ?_
    refine z_i (v := (xs 2)) rfl ?_
    refine lv_if_eq (tgt := 1631) hx hb dL_law_1624 (by decide) (fun _ => ?_) (fun h => absurd hf1 h)
    refine lv_iconst (v := 0) hx hb dL_law_1631 (by decide) ?_
    refine fin_i C w (run_V C w mv_L_223 (k246_cheapest C.b0 n64 n65 n66 n67 n68 n69 n70 n71 n72 n73 n74 n75 n76 n77 n78 n79 n80 n81 n82 n83 n84 n85 n86 n87 n88 n89 n90 n91 n92 n93 n94 n95 n96 n97 n98 n99 n100 n101 n102 n103 n104 n105 n106 ((xs 1)) g1 g0 H.size) [0] rfl rfl 0 rfl rfl (by decide) rfl hl.1 rfl (Nat.le_of_ble_eq_true rfl) dL_law_1632 (cells2 := 109) (slots2 := 210178) (by decide)) [0] [1] rfl rfl (by decide) (cells2 := 109) (slots2 := 210178) (by decide) (fun u3 H locs w => ?_)
    have w : Wd s G A [(n0, .inr (11, [.ref n1, .ref n2, .ref n3, .ref n7, .ref n8, .ref n12, .ref n16, .ref n21, .ref n22, .ref n37, .int 0, .int (-1), .int 0, .int 0, .null, .null, .null, .null, .null])), (n64, .inr (12, [.int 1, .int 0, .int 0, .int 0, .int 0, .int 0, .int 0, .int (-1), .ref n65, .ref n66, .ref n67, .int 0, .ref n68, .ref n69, .ref n70, .ref n71, .ref n72, .ref n73, .ref n74, .int 0, .ref n75, .ref n76, .ref n77, .ref n78, .ref n79, .ref n80, .ref n81, .int 0, .int (-1), .int 0, .ref n82, .ref n83, .ref n84, .ref n85, .ref n86, .ref n87, .ref n88, .ref n89, .int 0, .ref n90, .ref n91, .ref n92, .ref n93, .ref n94, .int 0, .ref n95, .ref n96, .ref n97, .ref n98, .int 0, .ref n99, .ref n100, .ref n101, .ref n102, .int 0, .int 0, .ref n103, .ref n104, .ref n105, .ref n106]))] H locs := w
    refine lv_istore (lv' := [(6, .int 0), (5, .int 1), (4, .int 0), (3, .ref n107), (2, .ref n64), (1, .ref n0), (0, .ref b)]) hx hb dL_law_1635 hl (by decide) rfl (fun ls hl => ?_)
    refine lv_aload_n hx hb dL_law_1637 rfl (lv_at hl 4 rfl) ?_
    refine fin_i C w (run_V C w mv_L_150 (k20_thrown C.b0 n64 n65 n66 n67 n68 n69 n70 n71 n72 n73 n74 n75 n76 n77 n78 n79 n80 n81 n82 n83 n84 n85 n86 n87 n88 n89 n90 n91 n92 n93 n94 n95 n96 n97 n98 n99 n100 n101 n102 n103 n104 n105 n106 H.size) [1] rfl rfl 1 rfl rfl (by decide) rfl hl.1 rfl (Nat.le_of_ble_eq_true rfl) dL_law_1638 (cells2 := 109) (slots2 := 210178) (by decide)) [1] [0] rfl rfl (by decide) (cells2 := 109) (slots2 := 210178) (by decide) (fun u4 H locs w => ?_)
    have w : Wd s G A [(n0, .inr (11, [.ref n1, .ref n2, .ref n3, .ref n7, .ref n8, .ref n12, .ref n16, .ref n21, .ref n22, .ref n37, .int 0, .int (-1), .int 0, .int 0, .null, .null, .null, .null, .null])), (n64, .inr (12, [.int 1, .int 0, .int 0, .int 0, .int 0, .int 0, .int 0, .int (-1), .ref n65, .ref n66, .ref n67, .int 0, .ref n68, .ref n69, .ref n70, .ref n71, .ref n72, .ref n73, .ref n74, .int 0, .ref n75, .ref n76, .ref n77, .ref n78, .ref n79, .ref n80, .ref n81, .int 0, .int (-1), .int 0, .ref n82, .ref n83, .ref n84, .ref n85, .ref n86, .ref n87, .ref n88, .ref n89, .int 0, .ref n90, .ref n91, .ref n92, .ref n93, .ref n94, .int 0, .ref n95, .ref n96, .ref n97, .ref n98, .int 0, .ref n99, .ref n100, .ref n101, .ref n102, .int 0, .int 0, .ref n103, .ref n104, .ref n105, .ref n106]))] H locs := w
    refine lv_iload hx hb dL_law_1641 (lv_at hl 1 rfl) ?_
    refine lv_icmp_eq (tgt := 1648) hx hb dL_law_1643 (by decide) (fun _ => ?_) (fun h => absurd (by decide) h)
    refine lv_iload hx hb dL_law_1648 (lv_at hl 1 rfl) ?_
    refine lv_if_ne (tgt := 1665) hx hb dL_law_1650 (by decide) (fun _ => ?_) (fun h => h.elim (by decide))
    refine lv_goto (tgt := 3027) hx hb dL_law_1665 (by decide) ?_
    exact lc_end C hr hX hbl hbA w (lv_sub hl [2, 6] rfl) (by decide) (by decide)
  · refine lv_iconst (v := 1) hx hb dL_law_1600 (by decide) ?_
    refine lv_goto (tgt := 1605) hx hb dL_law_1601 (by decide) ?_
    refine lv_aload_n hx hb dL_law_1605 rfl (lv_at hl 1 rfl) ?_
    refine fin_i C w (run_H C w mh_L_221 (k248_cheapest C.b0 n0 n107 n1 n2 n3 n7 n8 n12 n16 n21 n22 n37 ((xs 1)) g1 g0 H.size) [0] rfl rfl (by decide) rfl hl.1 rfl (Nat.le_of_ble_eq_true rfl) dL_law_1606 (cells2 := 109) (slots2 := 210178) (by decide)) [0] [1] rfl rfl (by decide) (cells2 := 109) (slots2 := 210178) (by decide) (fun u5 H locs w => ?_)
    have w : Wd s G A [(n64, .inr (12, [.int 0, .int 0, .int 0, .int 0, .int 0, .int 0, .int 0, .int (-1), .ref n65, .ref n66, .ref n67, .int 0, .ref n68, .ref n69, .ref n70, .ref n71, .ref n72, .ref n73, .ref n74, .int 0, .ref n75, .ref n76, .ref n77, .ref n78, .ref n79, .ref n80, .ref n81, .int 0, .int (-1), .int 0, .ref n82, .ref n83, .ref n84, .ref n85, .ref n86, .ref n87, .ref n88, .ref n89, .int 0, .ref n90, .ref n91, .ref n92, .ref n93, .ref n94, .int 0, .ref n95, .ref n96, .ref n97, .ref n98, .int 0, .ref n99, .ref n100, .ref n101, .ref n102, .int 0, .int 0, .ref n103, .ref n104, .ref n105, .ref n106])), (n0, .inr (11, [.ref n1, .ref n2, .ref n3, .ref n7, .ref n8, .ref n12, .ref n16, .ref n21, .ref n22, .ref n37, .int 0, .int (-1), .int 0, .int 0, .null, .null, .null, .null, .null]))] H locs := w
    refine lv_istore (lv' := [(5, .int 1), (4, .int 0), (3, .ref n107), (2, .ref n64), (1, .ref n0), (0, .ref b)]) hx hb dL_law_1609 hl (by decide) rfl (fun ls hl => ?_)
    refine lv_aload_n hx hb dL_law_1611 rfl (lv_at hl 3 rfl) ?_
    refine lv_aload_n hx hb dL_law_1612 rfl (lv_at hl 5 rfl) ?_
    refine lv_iload hx hb dL_law_1613 (lv_at hl 1 rfl) ?_
    refine lv_iconst (v := 1) hx hb dL_law_1615 (by decide) ?_
    refine lv_iadd hx hb dL_law_1616 ?_
    refine z_i (v := 1) (by decide +kernel) ?_
    refine va_sld hx hb hX hbl hbA w.2.2 (i := 1) (by decide) dL_law_1617 ?_
    refine z_i (v := (xs 1)) rfl ?_
    refine lv_aload_n hx hb dL_law_1618 rfl (lv_at hl 5 rfl) ?_
    refine lv_iload hx hb dL_law_1619 (lv_at hl 1 rfl) ?_
    refine lv_iconst (v := 2) hx hb dL_law_1621 (by decide) ?_
    refine lv_iadd hx hb dL_law_1622 ?_
    refine z_i (v := 2) (by decide +kernel) ?_
    refine va_sld hx hb hX hbl hbA w.2.2 (i := 2) (by decide) dL_law_1623 ?_
    refine z_i (v := (xs 2)) rfl ?_
    refine lv_if_eq (tgt := 1631) hx hb dL_law_1624 (by decide) (fun h => absurd h hf1) (fun _ => ?_)
    refine lv_iconst (v := 1) hx hb dL_law_1627 (by decide) ?_
    refine lv_goto (tgt := 1632) hx hb dL_law_1628 (by decide) ?_
    refine fin_i C w (run_V C w mv_L_223 (k249_cheapest C.b0 n64 n65 n66 n67 n68 n69 n70 n71 n72 n73 n74 n75 n76 n77 n78 n79 n80 n81 n82 n83 n84 n85 n86 n87 n88 n89 n90 n91 n92 n93 n94 n95 n96 n97 n98 n99 n100 n101 n102 n103 n104 n105 n106 ((xs 1)) g1 g0 H.size) [0] rfl rfl 0 rfl rfl (by decide) rfl hl.1 rfl (Nat.le_of_ble_eq_true rfl) dL_law_1632 (cells2 := 109) (slots2 := 210178) (by decide)) [0] [1] rfl rfl (by decide) (cells2 := 109) (slots2 := 210178) (by decide) (fun u6 H locs w => ?_)
    have w : Wd s G A [(n0, .inr (11, [.ref n1, .ref n2, .ref n3, .ref n7, .ref n8, .ref n12, .ref n16, .ref n21, .ref n22, .ref n37, .int 0, .int (-1), .int 0, .int 0, .null, .null, .null, .null, .null])), (n64, .inr (12, [.int 1, .int 0, .int 0, .int 0, .int 0, .int 0, .int 0, .int (-1), .ref n65, .ref n66, .ref n67, .int 0, .ref n68, .ref n69, .ref n70, .ref n71, .ref n72, .ref n73, .ref n74, .int 0, .ref n75, .ref n76, .ref n77, .ref n78, .ref n79, .ref n80, .ref n81, .int 0, .int (-1), .int 0, .ref n82, .ref n83, .ref n84, .ref n85, .ref n86, .ref n87, .ref n88, .ref n89, .int 0, .ref n90, .ref n91, .ref n92, .ref n93, .ref n94, .int 0, .ref n95, .ref n96, .ref n97, .ref n98, .int 0, .ref n99, .ref n100, .ref n101, .ref n102, .int 0, .int 0, .ref n103, .ref n104, .ref n105, .ref n106]))] H locs := w
    refine lv_istore (lv' := [(6, .int 0), (5, .int 1), (4, .int 0), (3, .ref n107), (2, .ref n64), (1, .ref n0), (0, .ref b)]) hx hb dL_law_1635 hl (by decide) rfl (fun ls hl => ?_)
    refine lv_aload_n hx hb dL_law_1637 rfl (lv_at hl 4 rfl) ?_
    refine fin_i C w (run_V C w mv_L_150 (k20_thrown C.b0 n64 n65 n66 n67 n68 n69 n70 n71 n72 n73 n74 n75 n76 n77 n78 n79 n80 n81 n82 n83 n84 n85 n86 n87 n88 n89 n90 n91 n92 n93 n94 n95 n96 n97 n98 n99 n100 n101 n102 n103 n104 n105 n106 H.size) [1] rfl rfl 1 rfl rfl (by decide) rfl hl.1 rfl (Nat.le_of_ble_eq_true rfl) dL_law_1638 (cells2 := 109) (slots2 := 210178) (by decide)) [1] [0] rfl rfl (by decide) (cells2 := 109) (slots2 := 210178) (by decide) (fun u7 H locs w => ?_)
    have w : Wd s G A [(n0, .inr (11, [.ref n1, .ref n2, .ref n3, .ref n7, .ref n8, .ref n12, .ref n16, .ref n21, .ref n22, .ref n37, .int 0, .int (-1), .int 0, .int 0, .null, .null, .null, .null, .null])), (n64, .inr (12, [.int 1, .int 0, .int 0, .int 0, .int 0, .int 0, .int 0, .int (-1), .ref n65, .ref n66, .ref n67, .int 0, .ref n68, .ref n69, .ref n70, .ref n71, .ref n72, .ref n73, .ref n74, .int 0, .ref n75, .ref n76, .ref n77, .ref n78, .ref n79, .ref n80, .ref n81, .int 0, .int (-1), .int 0, .ref n82, .ref n83, .ref n84, .ref n85, .ref n86, .ref n87, .ref n88, .ref n89, .int 0, .ref n90, .ref n91, .ref n92, .ref n93, .ref n94, .int 0, .ref n95, .ref n96, .ref n97, .ref n98, .int 0, .ref n99, .ref n100, .ref n101, .ref n102, .int 0, .int 0, .ref n103, .ref n104, .ref n105, .ref n106]))] H locs := w
    refine lv_iload hx hb dL_law_1641 (lv_at hl 1 rfl) ?_
    refine lv_icmp_eq (tgt := 1648) hx hb dL_law_1643 (by decide) (fun _ => ?_) (fun h => absurd (by decide) h)
    refine lv_iload hx hb dL_law_1648 (lv_at hl 1 rfl) ?_
    refine lv_if_ne (tgt := 1665) hx hb dL_law_1650 (by decide) (fun _ => ?_) (fun h => h.elim (by decide))
    refine lv_goto (tgt := 3027) hx hb dL_law_1665 (by decide) ?_
    exact lc_end C hr hX hbl hbA w (lv_sub hl [2, 6] rfl) (by decide) (by decide)
set_option maxRecDepth 100000 in
set_option maxHeartbeats 4000000 in
theorem lc_22_2 {l : Launch} {G : GT} {p : Program} {e : Env} {s : State} {m : MethodId} {below : List Frame} {meth : Method} {c : Code} {A : Nat → Prop} {b : Nat} {xs : Nat → Int32} (C : Cx l s #[Value.ref b] G p s m #[Value.ref b] meth c RL cL_law 8 "law" A) (hr : meth.sig.returnType = some .boolean) (hX : va_X b 6 xs s s.heap) (hbl : b < s.heap.size) (hbA : ¬ A b) (n0 n1 n2 n3 n4 n5 n6 n7 n8 n12 n16 n21 n22 n23 n24 n25 n26 n27 n28 n29 n30 n31 n32 n33 n34 n35 n36 n37 n64 n65 n66 n67 n68 n69 n70 n71 n72 n73 n74 n75 n76 n77 n78 n79 n80 n81 n82 n83 n84 n85 n86 n87 n88 n89 n90 n91 n92 n93 n94 n95 n96 n97 n98 n99 n100 n101 n102 n103 n104 n105 n106 n107 : Nat) (g0 : ¬ (xs 1) < 1) (g1 : ¬ 3000 < (xs 1)) {H : Heap} {locs : List Loc} {ls : Array Slot} (w : Wd s G A [(n0, .inr (11, [.ref n1, .ref n2, .ref n3, .ref n7, .ref n8, .ref n12, .ref n16, .ref n21, .ref n22, .ref n37, .int 0, .int (-1), .int 0, .int 0, .null, .null, .null, .null, .null])), (n3, .inr (5, [.ref n4, .ref n5, .ref n6, .int 0])), (n4, .inl (G.2.1, 8, .inl (fun _ => 0))), (n22, .inr (2, [.int 0, .int 0, .ref n23, .ref n24, .ref n25, .ref n26, .ref n27, .ref n28, .ref n29, .ref n30, .ref n31, .ref n32, .ref n33, .ref n34, .ref n35, .ref n36, .int 0])), (n64, .inr (12, [.int 0, .int 0, .int 0, .int 0, .int 0, .int 0, .int 0, .int (-1), .ref n65, .ref n66, .ref n67, .int 0, .ref n68, .ref n69, .ref n70, .ref n71, .ref n72, .ref n73, .ref n74, .int 0, .ref n75, .ref n76, .ref n77, .ref n78, .ref n79, .ref n80, .ref n81, .int 0, .int (-1), .int 0, .ref n82, .ref n83, .ref n84, .ref n85, .ref n86, .ref n87, .ref n88, .ref n89, .int 0, .ref n90, .ref n91, .ref n92, .ref n93, .ref n94, .int 0, .ref n95, .ref n96, .ref n97, .ref n98, .int 0, .ref n99, .ref n100, .ref n101, .ref n102, .int 0, .int 0, .ref n103, .ref n104, .ref n105, .ref n106])), (n66, .inl (G.2.1, 242, .inl (fun _ => 0))), (n73, .inl (G.2.1, 57, .inl (fun _ => 0))), (n75, .inl (G.2.1, 8, .inl (fun _ => 0))), (n76, .inl (G.2.1, 24008, .inl (fun _ => 0))), (n78, .inl (G.2.1, 3000, .inl (fun _ => 0))), (n79, .inl (G.2.1, 3000, .inl (fun _ => 0))), (n80, .inl (G.2.1, 4096, .inl (fun _ => 0))), (n81, .inl (G.2.1, 3000, .inl (fun _ => 0))), (n86, .inl (G.2.2.2.1, 3000, .inl (fun _ => 0))), (n90, .inl (G.2.1, 3000, .inl (fun _ => 0))), (n107, .inl (G.2.2.1, 1, .inr (.inl (fun _ => 0))))] H locs) (hl : lv_has ls 8 [(4, .int 0), (3, .ref n107), (2, .ref n64), (1, .ref n0), (0, .ref b)]) : W p l e room_1 s m #[Value.ref b] below meth c H locs 108 210172 (lw_Z below #[Value.ref b] s) (F0 m 1584 ls []) := by
  have hx := C.hx
  have hb := C.hb
  refine lv_aload_n hx hb dL_law_1584 rfl (lv_at hl 3 rfl) ?_
  refine lv_aload_n hx hb dL_law_1585 rfl (lv_at hl 4 rfl) ?_
  refine lv_iload hx hb dL_law_1586 (lv_at hl 0 rfl) ?_
  refine lv_iconst (v := 1) hx hb dL_law_1588 (by decide) ?_
  refine lv_iadd hx hb dL_law_1589 ?_
  refine z_i (v := 1) (by decide +kernel) ?_
  refine va_sld hx hb hX hbl hbA w.2.2 (i := 1) (by decide) dL_law_1590 ?_
  refine z_i (v := (xs 1)) rfl ?_
  refine lv_aload_n hx hb dL_law_1591 rfl (lv_at hl 4 rfl) ?_
  refine lv_iload hx hb dL_law_1592 (lv_at hl 0 rfl) ?_
  refine lv_iconst (v := 2) hx hb dL_law_1594 (by decide) ?_
  refine lv_iadd hx hb dL_law_1595 ?_
  refine z_i (v := 2) (by decide +kernel) ?_
  refine va_sld hx hb hX hbl hbA w.2.2 (i := 2) (by decide) dL_law_1596 ?_
  refine z_i (v := (xs 2)) rfl ?_
  refine lv_if_eq (tgt := 1604) hx hb dL_law_1597 (by decide) (fun hf1 => ?_) (fun hf1 => ?_)
  · refine lv_iconst (v := 0) hx hb dL_law_1604 (by decide) ?_
    refine lv_aload_n hx hb dL_law_1605 rfl (lv_at hl 1 rfl) ?_
    refine fin_i C w (run_H C w mh_L_221 (k253_cheapest C.b0 n0 n3 n22 n4 n107 n1 n2 n7 n8 n12 n16 n21 n37 n5 n6 n23 n24 n25 n26 n27 n28 n29 n30 n31 n32 n33 n34 n35 n36 ((xs 1)) g1 g0 H.size) [0, 1, 3, 2, 15] rfl rfl (by decide) rfl hl.1 rfl (Nat.le_of_ble_eq_true rfl) dL_law_1606 (cells2 := 132) (slots2 := 314762) (by decide)) [0, 1, 3, 2, 15] [4, 5, 6, 7, 8, 9, 10, 11, 12, 13, 14] rfl rfl (by decide) (cells2 := 132) (slots2 := 314762) (by decide) (fun u2 H locs w => ?_)
    have w : Wd s G A [(n64, .inr (12, [.int 0, .int 0, .int 0, .int 0, .int 0, .int 0, .int 0, .int (-1), .ref n65, .ref n66, .ref n67, .int 0, .ref n68, .ref n69, .ref n70, .ref n71, .ref n72, .ref n73, .ref n74, .int 0, .ref n75, .ref n76, .ref n77, .ref n78, .ref n79, .ref n80, .ref n81, .int 0, .int (-1), .int 0, .ref n82, .ref n83, .ref n84, .ref n85, .ref n86, .ref n87, .ref n88, .ref n89, .int 0, .ref n90, .ref n91, .ref n92, .ref n93, .ref n94, .int 0, .ref n95, .ref n96, .ref n97, .ref n98, .int 0, .ref n99, .ref n100, .ref n101, .ref n102, .int 0, .int 0, .ref n103, .ref n104, .ref n105, .ref n106])), (n66, .inl (G.2.1, 242, .inl (fun _ => 0))), (n73, .inl (G.2.1, 57, .inl (fun _ => 0))), (n75, .inl (G.2.1, 8, .inl (fun _ => 0))), (n76, .inl (G.2.1, 24008, .inl (fun _ => 0))), (n78, .inl (G.2.1, 3000, .inl (fun _ => 0))), (n79, .inl (G.2.1, 3000, .inl (fun _ => 0))), (n80, .inl (G.2.1, 4096, .inl (fun _ => 0))), (n81, .inl (G.2.1, 3000, .inl (fun _ => 0))), (n86, .inl (G.2.2.2.1, 3000, .inl (fun _ => 0))), (n90, .inl (G.2.1, 3000, .inl (fun _ => 0))), (n0, .inr (11, [.ref n1, .ref n2, .ref n3, .ref n7, .ref n8, .ref n12, .ref n16, .ref n21, .ref n22, .ref n37, .int 0, .int (-1), .int 0, .int 0, .ref (u2 0), .ref (u2 9), .null, .null, .null])), (n3, .inr (5, [.ref n4, .ref n5, .ref n6, .int 0])), (n22, .inr (2, [.int 0, .int 0, .ref n23, .ref n24, .ref n25, .ref n26, .ref n27, .ref n28, .ref n29, .ref n30, .ref n31, .ref n32, .ref n33, .ref n34, .ref n35, .ref n36, .int 0])), (n4, .inl (G.2.1, 8, .inl (fun _ => 0))), (n107, .inl (G.2.2.1, 1, .inr (.inl (fun _ => 0)))), ((u2 0), .inr (1, [.int 0, .ref n22, .ref (u2 1), .ref (u2 2), .ref (u2 5), .ref (u2 6), .ref (u2 7), .ref (u2 8), .int 1])), ((u2 1), .inl (G.2.1, 24064, .inl (fun _ => 0))), ((u2 2), .inr (7, [.ref (u2 3), .int 0, .int 1, .int 3008, .ref (u2 4)])), ((u2 3), .inl (G.2.1, 24064, .inl (fun _ => 0))), ((u2 4), .inl (G.2.1, 8192, .inl (upd (fun _ => (-1)) 7 0))), ((u2 5), .inl (G.2.1, 3008, .inl (fun _ => 0))), ((u2 6), .inl (G.2.1, 3008, .inl (upd (fun _ => 0) 0 (-1)))), ((u2 7), .inl (G.2.1, 3008, .inl (upd (fun _ => 0) 0 (-1)))), ((u2 8), .inl (G.2.1, 8, .inl (fun _ => 0))), ((u2 9), .inr (6, [.int (-1), .ref (u2 0), .ref (u2 10), .ref (u2 11), .ref (u2 12), .ref (u2 13), .ref (u2 14), .ref (u2 15), .ref (u2 16), .ref (u2 17), .ref (u2 18), .ref (u2 19), .ref (u2 20), .ref (u2 21), .ref (u2 22), .ref (u2 23), .int 0, .int 0, .int 0, .int 0])), ((u2 10), .inl (G.2.1, 3008, .inl (fun _ => 0))), ((u2 11), .inl (G.2.1, 3008, .inl (fun _ => 0))), ((u2 12), .inl (G.2.1, 3008, .inl (fun _ => 0))), ((u2 13), .inl (G.2.1, 3008, .inl (fun _ => 0))), ((u2 14), .inl (G.2.1, 3008, .inl (fun _ => 0))), ((u2 15), .inl (G.2.1, 3008, .inl (fun _ => 0))), ((u2 16), .inl (G.2.1, 3008, .inl (fun _ => 0))), ((u2 17), .inl (G.2.1, 3008, .inl (fun _ => 0))), ((u2 18), .inl (G.2.1, 3008, .inl (upd (fun _ => (-1)) 0 0))), ((u2 19), .inl (G.2.1, 3008, .inl (upd (fun _ => 0) 0 (-1)))), ((u2 20), .inl (G.2.1, 3008, .inl (upd (fun _ => 0) 0 (-1)))), ((u2 21), .inl (G.2.1, 100, .inl (upd (fun _ => (-1)) 0 0))), ((u2 22), .inl (G.2.2.1, 3008, .inr (.inl (fun _ => 0)))), ((u2 23), .inl (G.2.2.1, 3008, .inr (.inl (fun _ => 0))))] H locs := w
    refine lv_istore (lv' := [(5, .int 0), (4, .int 0), (3, .ref n107), (2, .ref n64), (1, .ref n0), (0, .ref b)]) hx hb dL_law_1609 hl (by decide) rfl (fun ls hl => ?_)
    refine lv_aload_n hx hb dL_law_1611 rfl (lv_at hl 3 rfl) ?_
    refine lv_aload_n hx hb dL_law_1612 rfl (lv_at hl 5 rfl) ?_
    refine lv_iload hx hb dL_law_1613 (lv_at hl 1 rfl) ?_
    refine lv_iconst (v := 1) hx hb dL_law_1615 (by decide) ?_
    refine lv_iadd hx hb dL_law_1616 ?_
    refine z_i (v := 1) (by decide +kernel) ?_
    refine va_sld hx hb hX hbl hbA w.2.2 (i := 1) (by decide) dL_law_1617 ?_
    refine z_i (v := (xs 1)) rfl ?_
    refine lv_aload_n hx hb dL_law_1618 rfl (lv_at hl 5 rfl) ?_
    refine lv_iload hx hb dL_law_1619 (lv_at hl 1 rfl) ?_
    refine lv_iconst (v := 2) hx hb dL_law_1621 (by decide) ?_
    refine lv_iadd hx hb dL_law_1622 ?_
    refine z_i (v := 2) (by decide +kernel) ?_
    refine va_sld hx hb hX hbl hbA w.2.2 (i := 2) (by decide) dL_law_1623 ?_
    refine z_i (v := (xs 2)) rfl ?_
    refine lv_if_eq (tgt := 1631) hx hb dL_law_1624 (by decide) (fun _ => ?_) (fun h => absurd hf1 h)
    refine lv_iconst (v := 0) hx hb dL_law_1631 (by decide) ?_
    refine fin_i C w (run_V C w mv_L_223 (k254_cheapest C.b0 n64 n80 n73 n75 n76 n81 n78 n79 n66 n90 n86 n65 n67 n68 n69 n70 n71 n72 n74 n77 n82 n83 n84 n85 n87 n88 n89 n91 n92 n93 n94 n95 n96 n97 n98 n99 n100 n101 n102 n103 n104 n105 n106 ((xs 1)) g1 g0 H.size) [0, 7, 2, 3, 4, 8, 5, 6, 1, 10, 9] rfl rfl 0 rfl rfl (by decide) rfl hl.1 rfl (Nat.le_of_ble_eq_true rfl) dL_law_1632 (cells2 := 132) (slots2 := 314762) (by decide)) [0, 7, 2, 3, 4, 8, 5, 6, 1, 10, 9] [11, 12, 13, 14, 15, 16, 17, 18, 19, 20, 21, 22, 23, 24, 25, 26, 27, 28, 29, 30, 31, 32, 33, 34, 35, 36, 37, 38, 39] rfl rfl (by decide) (cells2 := 132) (slots2 := 314762) (by decide) (fun u3 H locs w => ?_)
    have w : Wd s G A [(n0, .inr (11, [.ref n1, .ref n2, .ref n3, .ref n7, .ref n8, .ref n12, .ref n16, .ref n21, .ref n22, .ref n37, .int 0, .int (-1), .int 0, .int 0, .ref (u2 0), .ref (u2 9), .null, .null, .null])), (n3, .inr (5, [.ref n4, .ref n5, .ref n6, .int 0])), (n22, .inr (2, [.int 0, .int 0, .ref n23, .ref n24, .ref n25, .ref n26, .ref n27, .ref n28, .ref n29, .ref n30, .ref n31, .ref n32, .ref n33, .ref n34, .ref n35, .ref n36, .int 0])), (n4, .inl (G.2.1, 8, .inl (fun _ => 0))), (n107, .inl (G.2.2.1, 1, .inr (.inl (fun _ => 0)))), ((u2 0), .inr (1, [.int 0, .ref n22, .ref (u2 1), .ref (u2 2), .ref (u2 5), .ref (u2 6), .ref (u2 7), .ref (u2 8), .int 1])), ((u2 1), .inl (G.2.1, 24064, .inl (fun _ => 0))), ((u2 2), .inr (7, [.ref (u2 3), .int 0, .int 1, .int 3008, .ref (u2 4)])), ((u2 3), .inl (G.2.1, 24064, .inl (fun _ => 0))), ((u2 4), .inl (G.2.1, 8192, .inl (upd (fun _ => (-1)) 7 0))), ((u2 5), .inl (G.2.1, 3008, .inl (fun _ => 0))), ((u2 6), .inl (G.2.1, 3008, .inl (upd (fun _ => 0) 0 (-1)))), ((u2 7), .inl (G.2.1, 3008, .inl (upd (fun _ => 0) 0 (-1)))), ((u2 8), .inl (G.2.1, 8, .inl (fun _ => 0))), ((u2 9), .inr (6, [.int (-1), .ref (u2 0), .ref (u2 10), .ref (u2 11), .ref (u2 12), .ref (u2 13), .ref (u2 14), .ref (u2 15), .ref (u2 16), .ref (u2 17), .ref (u2 18), .ref (u2 19), .ref (u2 20), .ref (u2 21), .ref (u2 22), .ref (u2 23), .int 0, .int 0, .int 0, .int 0])), ((u2 10), .inl (G.2.1, 3008, .inl (fun _ => 0))), ((u2 11), .inl (G.2.1, 3008, .inl (fun _ => 0))), ((u2 12), .inl (G.2.1, 3008, .inl (fun _ => 0))), ((u2 13), .inl (G.2.1, 3008, .inl (fun _ => 0))), ((u2 14), .inl (G.2.1, 3008, .inl (fun _ => 0))), ((u2 15), .inl (G.2.1, 3008, .inl (fun _ => 0))), ((u2 16), .inl (G.2.1, 3008, .inl (fun _ => 0))), ((u2 17), .inl (G.2.1, 3008, .inl (fun _ => 0))), ((u2 18), .inl (G.2.1, 3008, .inl (upd (fun _ => (-1)) 0 0))), ((u2 19), .inl (G.2.1, 3008, .inl (upd (fun _ => 0) 0 (-1)))), ((u2 20), .inl (G.2.1, 3008, .inl (upd (fun _ => 0) 0 (-1)))), ((u2 21), .inl (G.2.1, 100, .inl (upd (fun _ => (-1)) 0 0))), ((u2 22), .inl (G.2.2.1, 3008, .inr (.inl (fun _ => 0)))), ((u2 23), .inl (G.2.2.1, 3008, .inr (.inl (fun _ => 0)))), (n64, .inr (12, [.int 0, .int 0, .int 0, .int 0, .int 0, .int 0, .int 0, .int (-1), .ref n65, .ref n66, .ref n67, .int 0, .ref n68, .ref n69, .ref n70, .ref n71, .ref n72, .ref n73, .ref n74, .int 0, .ref n75, .ref n76, .ref n77, .ref n78, .ref n79, .ref n80, .ref n81, .int 1, .int (-1), .int 0, .ref n82, .ref n83, .ref n84, .ref n85, .ref n86, .ref n87, .ref n88, .ref n89, .int 0, .ref n90, .ref n91, .ref n92, .ref n93, .ref n94, .int 0, .ref n95, .ref n96, .ref n97, .ref n98, .int 0, .ref n99, .ref n100, .ref n101, .ref n102, .int 0, .int 0, .ref n103, .ref n104, .ref n105, .ref n106])), (n80, .inl (G.2.1, 4096, .inl (upd (fun _ => (-1)) 0 0))), (n73, .inl (G.2.1, 57, .inl (fun _ => 0))), (n75, .inl (G.2.1, 8, .inl (fun _ => 0))), (n76, .inl (G.2.1, 24008, .inl (fun _ => 0))), (n81, .inl (G.2.1, 3000, .inl (upd (fun _ => 0) 0 (-1)))), (n78, .inl (G.2.1, 3000, .inl (upd (fun _ => 0) 0 (-1)))), (n79, .inl (G.2.1, 3000, .inl (upd (fun _ => 0) 0 (-1)))), (n66, .inl (G.2.1, 242, .inl (fun _ => 0))), (n90, .inl (G.2.1, 3000, .inl (fun _ => 0))), (n86, .inl (G.2.2.2.1, 3000, .inl (fun _ => 0)))] H locs := w
    refine lv_istore (lv' := [(6, .int 0), (5, .int 0), (4, .int 0), (3, .ref n107), (2, .ref n64), (1, .ref n0), (0, .ref b)]) hx hb dL_law_1635 hl (by decide) rfl (fun ls hl => ?_)
    refine lv_aload_n hx hb dL_law_1637 rfl (lv_at hl 4 rfl) ?_
    refine fin_i C w (run_V C w mv_L_150 (k126_thrown C.b0 n64 n65 n66 n67 n68 n69 n70 n71 n72 n73 n74 n75 n76 n77 n78 n79 n80 n81 n82 n83 n84 n85 n86 n87 n88 n89 n90 n91 n92 n93 n94 n95 n96 n97 n98 n99 n100 n101 n102 n103 n104 n105 n106 H.size) [29] rfl rfl 29 rfl rfl (by decide) rfl hl.1 rfl (Nat.le_of_ble_eq_true rfl) dL_law_1638 (cells2 := 132) (slots2 := 314762) (by decide)) [29] [0, 1, 2, 3, 4, 5, 6, 7, 8, 9, 10, 11, 12, 13, 14, 15, 16, 17, 18, 19, 20, 21, 22, 23, 24, 25, 26, 27, 28, 30, 31, 32, 33, 34, 35, 36, 37, 38, 39] rfl rfl (by decide) (cells2 := 132) (slots2 := 314762) (by decide) (fun u4 H locs w => ?_)
    have w : Wd s G A [(n0, .inr (11, [.ref n1, .ref n2, .ref n3, .ref n7, .ref n8, .ref n12, .ref n16, .ref n21, .ref n22, .ref n37, .int 0, .int (-1), .int 0, .int 0, .ref (u2 0), .ref (u2 9), .null, .null, .null])), (n3, .inr (5, [.ref n4, .ref n5, .ref n6, .int 0])), (n22, .inr (2, [.int 0, .int 0, .ref n23, .ref n24, .ref n25, .ref n26, .ref n27, .ref n28, .ref n29, .ref n30, .ref n31, .ref n32, .ref n33, .ref n34, .ref n35, .ref n36, .int 0])), (n4, .inl (G.2.1, 8, .inl (fun _ => 0))), (n107, .inl (G.2.2.1, 1, .inr (.inl (fun _ => 0)))), ((u2 0), .inr (1, [.int 0, .ref n22, .ref (u2 1), .ref (u2 2), .ref (u2 5), .ref (u2 6), .ref (u2 7), .ref (u2 8), .int 1])), ((u2 1), .inl (G.2.1, 24064, .inl (fun _ => 0))), ((u2 2), .inr (7, [.ref (u2 3), .int 0, .int 1, .int 3008, .ref (u2 4)])), ((u2 3), .inl (G.2.1, 24064, .inl (fun _ => 0))), ((u2 4), .inl (G.2.1, 8192, .inl (upd (fun _ => (-1)) 7 0))), ((u2 5), .inl (G.2.1, 3008, .inl (fun _ => 0))), ((u2 6), .inl (G.2.1, 3008, .inl (upd (fun _ => 0) 0 (-1)))), ((u2 7), .inl (G.2.1, 3008, .inl (upd (fun _ => 0) 0 (-1)))), ((u2 8), .inl (G.2.1, 8, .inl (fun _ => 0))), ((u2 9), .inr (6, [.int (-1), .ref (u2 0), .ref (u2 10), .ref (u2 11), .ref (u2 12), .ref (u2 13), .ref (u2 14), .ref (u2 15), .ref (u2 16), .ref (u2 17), .ref (u2 18), .ref (u2 19), .ref (u2 20), .ref (u2 21), .ref (u2 22), .ref (u2 23), .int 0, .int 0, .int 0, .int 0])), ((u2 10), .inl (G.2.1, 3008, .inl (fun _ => 0))), ((u2 11), .inl (G.2.1, 3008, .inl (fun _ => 0))), ((u2 12), .inl (G.2.1, 3008, .inl (fun _ => 0))), ((u2 13), .inl (G.2.1, 3008, .inl (fun _ => 0))), ((u2 14), .inl (G.2.1, 3008, .inl (fun _ => 0))), ((u2 15), .inl (G.2.1, 3008, .inl (fun _ => 0))), ((u2 16), .inl (G.2.1, 3008, .inl (fun _ => 0))), ((u2 17), .inl (G.2.1, 3008, .inl (fun _ => 0))), ((u2 18), .inl (G.2.1, 3008, .inl (upd (fun _ => (-1)) 0 0))), ((u2 19), .inl (G.2.1, 3008, .inl (upd (fun _ => 0) 0 (-1)))), ((u2 20), .inl (G.2.1, 3008, .inl (upd (fun _ => 0) 0 (-1)))), ((u2 21), .inl (G.2.1, 100, .inl (upd (fun _ => (-1)) 0 0))), ((u2 22), .inl (G.2.2.1, 3008, .inr (.inl (fun _ => 0)))), ((u2 23), .inl (G.2.2.1, 3008, .inr (.inl (fun _ => 0)))), (n80, .inl (G.2.1, 4096, .inl (upd (fun _ => (-1)) 0 0))), (n73, .inl (G.2.1, 57, .inl (fun _ => 0))), (n75, .inl (G.2.1, 8, .inl (fun _ => 0))), (n76, .inl (G.2.1, 24008, .inl (fun _ => 0))), (n81, .inl (G.2.1, 3000, .inl (upd (fun _ => 0) 0 (-1)))), (n78, .inl (G.2.1, 3000, .inl (upd (fun _ => 0) 0 (-1)))), (n79, .inl (G.2.1, 3000, .inl (upd (fun _ => 0) 0 (-1)))), (n66, .inl (G.2.1, 242, .inl (fun _ => 0))), (n90, .inl (G.2.1, 3000, .inl (fun _ => 0))), (n86, .inl (G.2.2.2.1, 3000, .inl (fun _ => 0))), (n64, .inr (12, [.int 0, .int 0, .int 0, .int 0, .int 0, .int 0, .int 0, .int (-1), .ref n65, .ref n66, .ref n67, .int 0, .ref n68, .ref n69, .ref n70, .ref n71, .ref n72, .ref n73, .ref n74, .int 0, .ref n75, .ref n76, .ref n77, .ref n78, .ref n79, .ref n80, .ref n81, .int 1, .int (-1), .int 0, .ref n82, .ref n83, .ref n84, .ref n85, .ref n86, .ref n87, .ref n88, .ref n89, .int 0, .ref n90, .ref n91, .ref n92, .ref n93, .ref n94, .int 0, .ref n95, .ref n96, .ref n97, .ref n98, .int 0, .ref n99, .ref n100, .ref n101, .ref n102, .int 0, .int 0, .ref n103, .ref n104, .ref n105, .ref n106]))] H locs := w
    refine lv_iload hx hb dL_law_1641 (lv_at hl 1 rfl) ?_
    refine lv_icmp_eq (tgt := 1648) hx hb dL_law_1643 (by decide) (fun _ => ?_) (fun h => absurd (by decide) h)
    refine lv_iload hx hb dL_law_1648 (lv_at hl 1 rfl) ?_
    refine lv_if_ne (tgt := 1665) hx hb dL_law_1650 (by decide) (fun h => absurd (by decide) h) (fun _ => ?_)
    refine lv_aload_n hx hb dL_law_1653 rfl (lv_at hl 3 rfl) ?_
    refine lv_iconst (v := 0) hx hb dL_law_1654 (by decide) ?_
    refine r_lald C w 4 rfl (IX.of (k := 0) (by decide +kernel)) (v := 0) rfl dL_law_1655 ?_
    refine lv_iload hx hb dL_law_1656 (lv_at hl 0 rfl) ?_
    refine lv_i2l (v := 0) hx hb dL_law_1658 (by decide +kernel) ?_
    refine W.lcmp hx hb dL_law_1659 ?_
    refine z_i (v := 0) (by decide +kernel) ?_
    refine lv_if_eq (tgt := 1665) hx hb dL_law_1660 (by decide) (fun _ => ?_) (fun h => absurd (by decide) h)
    refine lv_goto (tgt := 3027) hx hb dL_law_1665 (by decide) ?_
    exact lc_end C hr hX hbl hbA w (lv_sub hl [2, 6] rfl) (by decide) (by decide)
  · refine lv_iconst (v := 1) hx hb dL_law_1600 (by decide) ?_
    refine lv_goto (tgt := 1605) hx hb dL_law_1601 (by decide) ?_
    refine lv_aload_n hx hb dL_law_1605 rfl (lv_at hl 1 rfl) ?_
    refine fin_i C w (run_H C w mh_L_221 (k257_cheapest C.b0 n0 n3 n22 n4 n107 n1 n2 n7 n8 n12 n16 n21 n37 n5 n6 n23 n24 n25 n26 n27 n28 n29 n30 n31 n32 n33 n34 n35 n36 ((xs 1)) g1 g0 H.size) [0, 1, 3, 2, 15] rfl rfl (by decide) rfl hl.1 rfl (Nat.le_of_ble_eq_true rfl) dL_law_1606 (cells2 := 132) (slots2 := 314762) (by decide)) [0, 1, 3, 2, 15] [4, 5, 6, 7, 8, 9, 10, 11, 12, 13, 14] rfl rfl (by decide) (cells2 := 132) (slots2 := 314762) (by decide) (fun u5 H locs w => ?_)
    have w : Wd s G A [(n64, .inr (12, [.int 0, .int 0, .int 0, .int 0, .int 0, .int 0, .int 0, .int (-1), .ref n65, .ref n66, .ref n67, .int 0, .ref n68, .ref n69, .ref n70, .ref n71, .ref n72, .ref n73, .ref n74, .int 0, .ref n75, .ref n76, .ref n77, .ref n78, .ref n79, .ref n80, .ref n81, .int 0, .int (-1), .int 0, .ref n82, .ref n83, .ref n84, .ref n85, .ref n86, .ref n87, .ref n88, .ref n89, .int 0, .ref n90, .ref n91, .ref n92, .ref n93, .ref n94, .int 0, .ref n95, .ref n96, .ref n97, .ref n98, .int 0, .ref n99, .ref n100, .ref n101, .ref n102, .int 0, .int 0, .ref n103, .ref n104, .ref n105, .ref n106])), (n66, .inl (G.2.1, 242, .inl (fun _ => 0))), (n73, .inl (G.2.1, 57, .inl (fun _ => 0))), (n75, .inl (G.2.1, 8, .inl (fun _ => 0))), (n76, .inl (G.2.1, 24008, .inl (fun _ => 0))), (n78, .inl (G.2.1, 3000, .inl (fun _ => 0))), (n79, .inl (G.2.1, 3000, .inl (fun _ => 0))), (n80, .inl (G.2.1, 4096, .inl (fun _ => 0))), (n81, .inl (G.2.1, 3000, .inl (fun _ => 0))), (n86, .inl (G.2.2.2.1, 3000, .inl (fun _ => 0))), (n90, .inl (G.2.1, 3000, .inl (fun _ => 0))), (n0, .inr (11, [.ref n1, .ref n2, .ref n3, .ref n7, .ref n8, .ref n12, .ref n16, .ref n21, .ref n22, .ref n37, .int 0, .int (-1), .int 0, .int 0, .ref (u5 0), .ref (u5 9), .null, .null, .null])), (n3, .inr (5, [.ref n4, .ref n5, .ref n6, .int 0])), (n22, .inr (2, [.int 0, .int 0, .ref n23, .ref n24, .ref n25, .ref n26, .ref n27, .ref n28, .ref n29, .ref n30, .ref n31, .ref n32, .ref n33, .ref n34, .ref n35, .ref n36, .int 0])), (n4, .inl (G.2.1, 8, .inl (fun _ => 0))), (n107, .inl (G.2.2.1, 1, .inr (.inl (fun _ => 0)))), ((u5 0), .inr (1, [.int 0, .ref n22, .ref (u5 1), .ref (u5 2), .ref (u5 5), .ref (u5 6), .ref (u5 7), .ref (u5 8), .int 1])), ((u5 1), .inl (G.2.1, 24064, .inl (fun _ => 0))), ((u5 2), .inr (7, [.ref (u5 3), .int 0, .int 1, .int 3008, .ref (u5 4)])), ((u5 3), .inl (G.2.1, 24064, .inl (fun _ => 0))), ((u5 4), .inl (G.2.1, 8192, .inl (upd (fun _ => (-1)) 7 0))), ((u5 5), .inl (G.2.1, 3008, .inl (fun _ => 0))), ((u5 6), .inl (G.2.1, 3008, .inl (upd (fun _ => 0) 0 (-1)))), ((u5 7), .inl (G.2.1, 3008, .inl (upd (fun _ => 0) 0 (-1)))), ((u5 8), .inl (G.2.1, 8, .inl (fun _ => 0))), ((u5 9), .inr (6, [.int (-1), .ref (u5 0), .ref (u5 10), .ref (u5 11), .ref (u5 12), .ref (u5 13), .ref (u5 14), .ref (u5 15), .ref (u5 16), .ref (u5 17), .ref (u5 18), .ref (u5 19), .ref (u5 20), .ref (u5 21), .ref (u5 22), .ref (u5 23), .int 0, .int 0, .int 0, .int 0])), ((u5 10), .inl (G.2.1, 3008, .inl (fun _ => 0))), ((u5 11), .inl (G.2.1, 3008, .inl (fun _ => 0))), ((u5 12), .inl (G.2.1, 3008, .inl (fun _ => 0))), ((u5 13), .inl (G.2.1, 3008, .inl (fun _ => 0))), ((u5 14), .inl (G.2.1, 3008, .inl (fun _ => 0))), ((u5 15), .inl (G.2.1, 3008, .inl (fun _ => 0))), ((u5 16), .inl (G.2.1, 3008, .inl (fun _ => 0))), ((u5 17), .inl (G.2.1, 3008, .inl (fun _ => 0))), ((u5 18), .inl (G.2.1, 3008, .inl (upd (fun _ => (-1)) 0 0))), ((u5 19), .inl (G.2.1, 3008, .inl (upd (fun _ => 0) 0 (-1)))), ((u5 20), .inl (G.2.1, 3008, .inl (upd (fun _ => 0) 0 (-1)))), ((u5 21), .inl (G.2.1, 100, .inl (upd (fun _ => (-1)) 0 0))), ((u5 22), .inl (G.2.2.1, 3008, .inr (.inl (fun _ => 0)))), ((u5 23), .inl (G.2.2.1, 3008, .inr (.inl (fun _ => 0))))] H locs := w
    refine lv_istore (lv' := [(5, .int 0), (4, .int 0), (3, .ref n107), (2, .ref n64), (1, .ref n0), (0, .ref b)]) hx hb dL_law_1609 hl (by decide) rfl (fun ls hl => ?_)
    refine lv_aload_n hx hb dL_law_1611 rfl (lv_at hl 3 rfl) ?_
    refine lv_aload_n hx hb dL_law_1612 rfl (lv_at hl 5 rfl) ?_
    refine lv_iload hx hb dL_law_1613 (lv_at hl 1 rfl) ?_
    refine lv_iconst (v := 1) hx hb dL_law_1615 (by decide) ?_
    refine lv_iadd hx hb dL_law_1616 ?_
    refine z_i (v := 1) (by decide +kernel) ?_
    refine va_sld hx hb hX hbl hbA w.2.2 (i := 1) (by decide) dL_law_1617 ?_
    refine z_i (v := (xs 1)) rfl ?_
    refine lv_aload_n hx hb dL_law_1618 rfl (lv_at hl 5 rfl) ?_
    refine lv_iload hx hb dL_law_1619 (lv_at hl 1 rfl) ?_
    refine lv_iconst (v := 2) hx hb dL_law_1621 (by decide) ?_
    refine lv_iadd hx hb dL_law_1622 ?_
    refine z_i (v := 2) (by decide +kernel) ?_
    refine va_sld hx hb hX hbl hbA w.2.2 (i := 2) (by decide) dL_law_1623 ?_
    refine z_i (v := (xs 2)) rfl ?_
    refine lv_if_eq (tgt := 1631) hx hb dL_law_1624 (by decide) (fun h => absurd h hf1) (fun _ => ?_)
    refine lv_iconst (v := 1) hx hb dL_law_1627 (by decide) ?_
    refine lv_goto (tgt := 1632) hx hb dL_law_1628 (by decide) ?_
    refine fin_i C w (run_V C w mv_L_223 (k258_cheapest C.b0 n64 n80 n73 n75 n76 n81 n78 n79 n66 n90 n86 n65 n67 n68 n69 n70 n71 n72 n74 n77 n82 n83 n84 n85 n87 n88 n89 n91 n92 n93 n94 n95 n96 n97 n98 n99 n100 n101 n102 n103 n104 n105 n106 ((xs 1)) g1 g0 H.size) [0, 7, 2, 3, 4, 8, 5, 6, 1, 10, 9] rfl rfl 0 rfl rfl (by decide) rfl hl.1 rfl (Nat.le_of_ble_eq_true rfl) dL_law_1632 (cells2 := 132) (slots2 := 314762) (by decide)) [0, 7, 2, 3, 4, 8, 5, 6, 1, 10, 9] [11, 12, 13, 14, 15, 16, 17, 18, 19, 20, 21, 22, 23, 24, 25, 26, 27, 28, 29, 30, 31, 32, 33, 34, 35, 36, 37, 38, 39] rfl rfl (by decide) (cells2 := 132) (slots2 := 314762) (by decide) (fun u6 H locs w => ?_)
    have w : Wd s G A [(n0, .inr (11, [.ref n1, .ref n2, .ref n3, .ref n7, .ref n8, .ref n12, .ref n16, .ref n21, .ref n22, .ref n37, .int 0, .int (-1), .int 0, .int 0, .ref (u5 0), .ref (u5 9), .null, .null, .null])), (n3, .inr (5, [.ref n4, .ref n5, .ref n6, .int 0])), (n22, .inr (2, [.int 0, .int 0, .ref n23, .ref n24, .ref n25, .ref n26, .ref n27, .ref n28, .ref n29, .ref n30, .ref n31, .ref n32, .ref n33, .ref n34, .ref n35, .ref n36, .int 0])), (n4, .inl (G.2.1, 8, .inl (fun _ => 0))), (n107, .inl (G.2.2.1, 1, .inr (.inl (fun _ => 0)))), ((u5 0), .inr (1, [.int 0, .ref n22, .ref (u5 1), .ref (u5 2), .ref (u5 5), .ref (u5 6), .ref (u5 7), .ref (u5 8), .int 1])), ((u5 1), .inl (G.2.1, 24064, .inl (fun _ => 0))), ((u5 2), .inr (7, [.ref (u5 3), .int 0, .int 1, .int 3008, .ref (u5 4)])), ((u5 3), .inl (G.2.1, 24064, .inl (fun _ => 0))), ((u5 4), .inl (G.2.1, 8192, .inl (upd (fun _ => (-1)) 7 0))), ((u5 5), .inl (G.2.1, 3008, .inl (fun _ => 0))), ((u5 6), .inl (G.2.1, 3008, .inl (upd (fun _ => 0) 0 (-1)))), ((u5 7), .inl (G.2.1, 3008, .inl (upd (fun _ => 0) 0 (-1)))), ((u5 8), .inl (G.2.1, 8, .inl (fun _ => 0))), ((u5 9), .inr (6, [.int (-1), .ref (u5 0), .ref (u5 10), .ref (u5 11), .ref (u5 12), .ref (u5 13), .ref (u5 14), .ref (u5 15), .ref (u5 16), .ref (u5 17), .ref (u5 18), .ref (u5 19), .ref (u5 20), .ref (u5 21), .ref (u5 22), .ref (u5 23), .int 0, .int 0, .int 0, .int 0])), ((u5 10), .inl (G.2.1, 3008, .inl (fun _ => 0))), ((u5 11), .inl (G.2.1, 3008, .inl (fun _ => 0))), ((u5 12), .inl (G.2.1, 3008, .inl (fun _ => 0))), ((u5 13), .inl (G.2.1, 3008, .inl (fun _ => 0))), ((u5 14), .inl (G.2.1, 3008, .inl (fun _ => 0))), ((u5 15), .inl (G.2.1, 3008, .inl (fun _ => 0))), ((u5 16), .inl (G.2.1, 3008, .inl (fun _ => 0))), ((u5 17), .inl (G.2.1, 3008, .inl (fun _ => 0))), ((u5 18), .inl (G.2.1, 3008, .inl (upd (fun _ => (-1)) 0 0))), ((u5 19), .inl (G.2.1, 3008, .inl (upd (fun _ => 0) 0 (-1)))), ((u5 20), .inl (G.2.1, 3008, .inl (upd (fun _ => 0) 0 (-1)))), ((u5 21), .inl (G.2.1, 100, .inl (upd (fun _ => (-1)) 0 0))), ((u5 22), .inl (G.2.2.1, 3008, .inr (.inl (fun _ => 0)))), ((u5 23), .inl (G.2.2.1, 3008, .inr (.inl (fun _ => 0)))), (n64, .inr (12, [.int 0, .int 0, .int 0, .int 0, .int 0, .int 0, .int 0, .int (-1), .ref n65, .ref n66, .ref n67, .int 0, .ref n68, .ref n69, .ref n70, .ref n71, .ref n72, .ref n73, .ref n74, .int 0, .ref n75, .ref n76, .ref n77, .ref n78, .ref n79, .ref n80, .ref n81, .int 1, .int (-1), .int 0, .ref n82, .ref n83, .ref n84, .ref n85, .ref n86, .ref n87, .ref n88, .ref n89, .int 0, .ref n90, .ref n91, .ref n92, .ref n93, .ref n94, .int 0, .ref n95, .ref n96, .ref n97, .ref n98, .int 0, .ref n99, .ref n100, .ref n101, .ref n102, .int 0, .int 0, .ref n103, .ref n104, .ref n105, .ref n106])), (n80, .inl (G.2.1, 4096, .inl (upd (fun _ => (-1)) 0 0))), (n73, .inl (G.2.1, 57, .inl (fun _ => 0))), (n75, .inl (G.2.1, 8, .inl (fun _ => 0))), (n76, .inl (G.2.1, 24008, .inl (fun _ => 0))), (n81, .inl (G.2.1, 3000, .inl (upd (fun _ => 0) 0 (-1)))), (n78, .inl (G.2.1, 3000, .inl (upd (fun _ => 0) 0 (-1)))), (n79, .inl (G.2.1, 3000, .inl (upd (fun _ => 0) 0 (-1)))), (n66, .inl (G.2.1, 242, .inl (fun _ => 0))), (n90, .inl (G.2.1, 3000, .inl (fun _ => 0))), (n86, .inl (G.2.2.2.1, 3000, .inl (fun _ => 0)))] H locs := w
    refine lv_istore (lv' := [(6, .int 0), (5, .int 0), (4, .int 0), (3, .ref n107), (2, .ref n64), (1, .ref n0), (0, .ref b)]) hx hb dL_law_1635 hl (by decide) rfl (fun ls hl => ?_)
    refine lv_aload_n hx hb dL_law_1637 rfl (lv_at hl 4 rfl) ?_
    refine fin_i C w (run_V C w mv_L_150 (k126_thrown C.b0 n64 n65 n66 n67 n68 n69 n70 n71 n72 n73 n74 n75 n76 n77 n78 n79 n80 n81 n82 n83 n84 n85 n86 n87 n88 n89 n90 n91 n92 n93 n94 n95 n96 n97 n98 n99 n100 n101 n102 n103 n104 n105 n106 H.size) [29] rfl rfl 29 rfl rfl (by decide) rfl hl.1 rfl (Nat.le_of_ble_eq_true rfl) dL_law_1638 (cells2 := 132) (slots2 := 314762) (by decide)) [29] [0, 1, 2, 3, 4, 5, 6, 7, 8, 9, 10, 11, 12, 13, 14, 15, 16, 17, 18, 19, 20, 21, 22, 23, 24, 25, 26, 27, 28, 30, 31, 32, 33, 34, 35, 36, 37, 38, 39] rfl rfl (by decide) (cells2 := 132) (slots2 := 314762) (by decide) (fun u7 H locs w => ?_)
    have w : Wd s G A [(n0, .inr (11, [.ref n1, .ref n2, .ref n3, .ref n7, .ref n8, .ref n12, .ref n16, .ref n21, .ref n22, .ref n37, .int 0, .int (-1), .int 0, .int 0, .ref (u5 0), .ref (u5 9), .null, .null, .null])), (n3, .inr (5, [.ref n4, .ref n5, .ref n6, .int 0])), (n22, .inr (2, [.int 0, .int 0, .ref n23, .ref n24, .ref n25, .ref n26, .ref n27, .ref n28, .ref n29, .ref n30, .ref n31, .ref n32, .ref n33, .ref n34, .ref n35, .ref n36, .int 0])), (n4, .inl (G.2.1, 8, .inl (fun _ => 0))), (n107, .inl (G.2.2.1, 1, .inr (.inl (fun _ => 0)))), ((u5 0), .inr (1, [.int 0, .ref n22, .ref (u5 1), .ref (u5 2), .ref (u5 5), .ref (u5 6), .ref (u5 7), .ref (u5 8), .int 1])), ((u5 1), .inl (G.2.1, 24064, .inl (fun _ => 0))), ((u5 2), .inr (7, [.ref (u5 3), .int 0, .int 1, .int 3008, .ref (u5 4)])), ((u5 3), .inl (G.2.1, 24064, .inl (fun _ => 0))), ((u5 4), .inl (G.2.1, 8192, .inl (upd (fun _ => (-1)) 7 0))), ((u5 5), .inl (G.2.1, 3008, .inl (fun _ => 0))), ((u5 6), .inl (G.2.1, 3008, .inl (upd (fun _ => 0) 0 (-1)))), ((u5 7), .inl (G.2.1, 3008, .inl (upd (fun _ => 0) 0 (-1)))), ((u5 8), .inl (G.2.1, 8, .inl (fun _ => 0))), ((u5 9), .inr (6, [.int (-1), .ref (u5 0), .ref (u5 10), .ref (u5 11), .ref (u5 12), .ref (u5 13), .ref (u5 14), .ref (u5 15), .ref (u5 16), .ref (u5 17), .ref (u5 18), .ref (u5 19), .ref (u5 20), .ref (u5 21), .ref (u5 22), .ref (u5 23), .int 0, .int 0, .int 0, .int 0])), ((u5 10), .inl (G.2.1, 3008, .inl (fun _ => 0))), ((u5 11), .inl (G.2.1, 3008, .inl (fun _ => 0))), ((u5 12), .inl (G.2.1, 3008, .inl (fun _ => 0))), ((u5 13), .inl (G.2.1, 3008, .inl (fun _ => 0))), ((u5 14), .inl (G.2.1, 3008, .inl (fun _ => 0))), ((u5 15), .inl (G.2.1, 3008, .inl (fun _ => 0))), ((u5 16), .inl (G.2.1, 3008, .inl (fun _ => 0))), ((u5 17), .inl (G.2.1, 3008, .inl (fun _ => 0))), ((u5 18), .inl (G.2.1, 3008, .inl (upd (fun _ => (-1)) 0 0))), ((u5 19), .inl (G.2.1, 3008, .inl (upd (fun _ => 0) 0 (-1)))), ((u5 20), .inl (G.2.1, 3008, .inl (upd (fun _ => 0) 0 (-1)))), ((u5 21), .inl (G.2.1, 100, .inl (upd (fun _ => (-1)) 0 0))), ((u5 22), .inl (G.2.2.1, 3008, .inr (.inl (fun _ => 0)))), ((u5 23), .inl (G.2.2.1, 3008, .inr (.inl (fun _ => 0)))), (n80, .inl (G.2.1, 4096, .inl (upd (fun _ => (-1)) 0 0))), (n73, .inl (G.2.1, 57, .inl (fun _ => 0))), (n75, .inl (G.2.1, 8, .inl (fun _ => 0))), (n76, .inl (G.2.1, 24008, .inl (fun _ => 0))), (n81, .inl (G.2.1, 3000, .inl (upd (fun _ => 0) 0 (-1)))), (n78, .inl (G.2.1, 3000, .inl (upd (fun _ => 0) 0 (-1)))), (n79, .inl (G.2.1, 3000, .inl (upd (fun _ => 0) 0 (-1)))), (n66, .inl (G.2.1, 242, .inl (fun _ => 0))), (n90, .inl (G.2.1, 3000, .inl (fun _ => 0))), (n86, .inl (G.2.2.2.1, 3000, .inl (fun _ => 0))), (n64, .inr (12, [.int 0, .int 0, .int 0, .int 0, .int 0, .int 0, .int 0, .int (-1), .ref n65, .ref n66, .ref n67, .int 0, .ref n68, .ref n69, .ref n70, .ref n71, .ref n72, .ref n73, .ref n74, .int 0, .ref n75, .ref n76, .ref n77, .ref n78, .ref n79, .ref n80, .ref n81, .int 1, .int (-1), .int 0, .ref n82, .ref n83, .ref n84, .ref n85, .ref n86, .ref n87, .ref n88, .ref n89, .int 0, .ref n90, .ref n91, .ref n92, .ref n93, .ref n94, .int 0, .ref n95, .ref n96, .ref n97, .ref n98, .int 0, .ref n99, .ref n100, .ref n101, .ref n102, .int 0, .int 0, .ref n103, .ref n104, .ref n105, .ref n106]))] H locs := w
    refine lv_iload hx hb dL_law_1641 (lv_at hl 1 rfl) ?_
    refine lv_icmp_eq (tgt := 1648) hx hb dL_law_1643 (by decide) (fun _ => ?_) (fun h => absurd (by decide) h)
    refine lv_iload hx hb dL_law_1648 (lv_at hl 1 rfl) ?_
    refine lv_if_ne (tgt := 1665) hx hb dL_law_1650 (by decide) (fun h => absurd (by decide) h) (fun _ => ?_)
    refine lv_aload_n hx hb dL_law_1653 rfl (lv_at hl 3 rfl) ?_
    refine lv_iconst (v := 0) hx hb dL_law_1654 (by decide) ?_
    refine r_lald C w 4 rfl (IX.of (k := 0) (by decide +kernel)) (v := 0) rfl dL_law_1655 ?_
    refine lv_iload hx hb dL_law_1656 (lv_at hl 0 rfl) ?_
    refine lv_i2l (v := 0) hx hb dL_law_1658 (by decide +kernel) ?_
    refine W.lcmp hx hb dL_law_1659 ?_
    refine z_i (v := 0) (by decide +kernel) ?_
    refine lv_if_eq (tgt := 1665) hx hb dL_law_1660 (by decide) (fun _ => ?_) (fun h => absurd (by decide) h)
    refine lv_goto (tgt := 3027) hx hb dL_law_1665 (by decide) ?_
    exact lc_end C hr hX hbl hbA w (lv_sub hl [2, 6] rfl) (by decide) (by decide)
set_option maxRecDepth 100000 in
set_option maxHeartbeats 4000000 in
theorem lc_23_0 {l : Launch} {G : GT} {p : Program} {e : Env} {s : State} {m : MethodId} {below : List Frame} {meth : Method} {c : Code} {A : Nat → Prop} {b : Nat} {xs : Nat → Int32} (C : Cx l s #[Value.ref b] G p s m #[Value.ref b] meth c RL cL_law 8 "law" A) (hr : meth.sig.returnType = some .boolean) (hX : va_X b 6 xs s s.heap) (hbl : b < s.heap.size) (hbA : ¬ A b) (n0 n1 n2 n3 n7 n8 n12 n16 n21 n22 n37 n64 n65 n66 n67 n68 n69 n70 n71 n72 n73 n74 n75 n76 n77 n78 n79 n80 n81 n82 n83 n84 n85 n86 n87 n88 n89 n90 n91 n92 n93 n94 n95 n96 n97 n98 n99 n100 n101 n102 n103 n104 n105 n106 n107 : Nat) (g0 : (xs 1) < 1) {H : Heap} {locs : List Loc} {ls : Array Slot} (w : Wd s G A [(n0, .inr (11, [.ref n1, .ref n2, .ref n3, .ref n7, .ref n8, .ref n12, .ref n16, .ref n21, .ref n22, .ref n37, .int 0, .int (-1), .int 0, .int 0, .null, .null, .null, .null, .null])), (n64, .inr (12, [.int 0, .int 0, .int 0, .int 0, .int 0, .int 0, .int 0, .int (-1), .ref n65, .ref n66, .ref n67, .int 0, .ref n68, .ref n69, .ref n70, .ref n71, .ref n72, .ref n73, .ref n74, .int 0, .ref n75, .ref n76, .ref n77, .ref n78, .ref n79, .ref n80, .ref n81, .int 0, .int (-1), .int 0, .ref n82, .ref n83, .ref n84, .ref n85, .ref n86, .ref n87, .ref n88, .ref n89, .int 0, .ref n90, .ref n91, .ref n92, .ref n93, .ref n94, .int 0, .ref n95, .ref n96, .ref n97, .ref n98, .int 0, .ref n99, .ref n100, .ref n101, .ref n102, .int 0, .int 0, .ref n103, .ref n104, .ref n105, .ref n106]))] H locs) (hl : lv_has ls 8 [(4, .int 0), (3, .ref n107), (2, .ref n64), (1, .ref n0), (0, .ref b)]) : W p l e room_1 s m #[Value.ref b] below meth c H locs 108 210172 (lw_Z below #[Value.ref b] s) (F0 m 1668 ls []) := by
  have hx := C.hx
  have hb := C.hb
  refine lv_aload_n hx hb dL_law_1668 rfl (lv_at hl 3 rfl) ?_
  refine lv_aload_n hx hb dL_law_1669 rfl (lv_at hl 4 rfl) ?_
  refine lv_iload hx hb dL_law_1670 (lv_at hl 0 rfl) ?_
  refine lv_iconst (v := 1) hx hb dL_law_1672 (by decide) ?_
  refine lv_iadd hx hb dL_law_1673 ?_
  refine z_i (v := 1) (by decide +kernel) ?_
  refine va_sld hx hb hX hbl hbA w.2.2 (i := 1) (by decide) dL_law_1674 ?_
  refine z_i (v := (xs 1)) rfl ?_
  refine lv_aload_n hx hb dL_law_1675 rfl (lv_at hl 4 rfl) ?_
  refine lv_iload hx hb dL_law_1676 (lv_at hl 0 rfl) ?_
  refine lv_iconst (v := 2) hx hb dL_law_1678 (by decide) ?_
  refine lv_iadd hx hb dL_law_1679 ?_
  refine z_i (v := 2) (by decide +kernel) ?_
  refine va_sld hx hb hX hbl hbA w.2.2 (i := 2) (by decide) dL_law_1680 ?_
  refine z_i (v := (xs 2)) rfl ?_
  refine lv_aload_n hx hb dL_law_1681 rfl (lv_at hl 1 rfl) ?_
  refine fin_i C w (run_H C w mh_L_224 (k260_rows C.b0 n0 n107 n1 n2 n3 n7 n8 n12 n16 n21 n22 n37 ((xs 1)) ((xs 2)) g0 H.size) [0] rfl rfl (by decide) rfl hl.1 rfl (Nat.le_of_ble_eq_true rfl) dL_law_1682 (cells2 := 109) (slots2 := 210178) (by decide)) [0] [1] rfl rfl (by decide) (cells2 := 109) (slots2 := 210178) (by decide) (fun u1 H locs w => ?_)
  have w : Wd s G A [(n64, .inr (12, [.int 0, .int 0, .int 0, .int 0, .int 0, .int 0, .int 0, .int (-1), .ref n65, .ref n66, .ref n67, .int 0, .ref n68, .ref n69, .ref n70, .ref n71, .ref n72, .ref n73, .ref n74, .int 0, .ref n75, .ref n76, .ref n77, .ref n78, .ref n79, .ref n80, .ref n81, .int 0, .int (-1), .int 0, .ref n82, .ref n83, .ref n84, .ref n85, .ref n86, .ref n87, .ref n88, .ref n89, .int 0, .ref n90, .ref n91, .ref n92, .ref n93, .ref n94, .int 0, .ref n95, .ref n96, .ref n97, .ref n98, .int 0, .ref n99, .ref n100, .ref n101, .ref n102, .int 0, .int 0, .ref n103, .ref n104, .ref n105, .ref n106])), (n0, .inr (11, [.ref n1, .ref n2, .ref n3, .ref n7, .ref n8, .ref n12, .ref n16, .ref n21, .ref n22, .ref n37, .int 0, .int (-1), .int 0, .int 0, .null, .null, .null, .null, .null]))] H locs := w
  refine lv_istore (lv' := [(5, .int 1), (4, .int 0), (3, .ref n107), (2, .ref n64), (1, .ref n0), (0, .ref b)]) hx hb dL_law_1685 hl (by decide) rfl (fun ls hl => ?_)
  refine lv_aload_n hx hb dL_law_1687 rfl (lv_at hl 3 rfl) ?_
  refine lv_aload_n hx hb dL_law_1688 rfl (lv_at hl 5 rfl) ?_
  refine lv_iload hx hb dL_law_1689 (lv_at hl 1 rfl) ?_
  refine lv_iconst (v := 1) hx hb dL_law_1691 (by decide) ?_
  refine lv_iadd hx hb dL_law_1692 ?_
  refine z_i (v := 1) (by decide +kernel) ?_
  refine va_sld hx hb hX hbl hbA w.2.2 (i := 1) (by decide) dL_law_1693 ?_
  refine z_i (v := (xs 1)) rfl ?_
  refine lv_aload_n hx hb dL_law_1694 rfl (lv_at hl 5 rfl) ?_
  refine lv_iload hx hb dL_law_1695 (lv_at hl 1 rfl) ?_
  refine lv_iconst (v := 2) hx hb dL_law_1697 (by decide) ?_
  refine lv_iadd hx hb dL_law_1698 ?_
  refine z_i (v := 2) (by decide +kernel) ?_
  refine va_sld hx hb hX hbl hbA w.2.2 (i := 2) (by decide) dL_law_1699 ?_
  refine z_i (v := (xs 2)) rfl ?_
  refine fin_l C w (run_V C w mv_L_226 (k261_rows C.b0 n64 n65 n66 n67 n68 n69 n70 n71 n72 n73 n74 n75 n76 n77 n78 n79 n80 n81 n82 n83 n84 n85 n86 n87 n88 n89 n90 n91 n92 n93 n94 n95 n96 n97 n98 n99 n100 n101 n102 n103 n104 n105 n106 ((xs 1)) ((xs 2)) g0 H.size) [0] rfl rfl 0 rfl rfl (by decide) rfl hl.1 rfl (Nat.le_of_ble_eq_true rfl) dL_law_1700 (cells2 := 109) (slots2 := 210178) (by decide)) [0] [1] rfl rfl (by decide) (cells2 := 109) (slots2 := 210178) (by decide) (fun u2 H locs w => ?_)
  have w : Wd s G A [(n0, .inr (11, [.ref n1, .ref n2, .ref n3, .ref n7, .ref n8, .ref n12, .ref n16, .ref n21, .ref n22, .ref n37, .int 0, .int (-1), .int 0, .int 0, .null, .null, .null, .null, .null])), (n64, .inr (12, [.int 1, .int 0, .int 0, .int 0, .int 0, .int 0, .int 0, .int (-1), .ref n65, .ref n66, .ref n67, .int 0, .ref n68, .ref n69, .ref n70, .ref n71, .ref n72, .ref n73, .ref n74, .int 0, .ref n75, .ref n76, .ref n77, .ref n78, .ref n79, .ref n80, .ref n81, .int 0, .int (-1), .int 0, .ref n82, .ref n83, .ref n84, .ref n85, .ref n86, .ref n87, .ref n88, .ref n89, .int 0, .ref n90, .ref n91, .ref n92, .ref n93, .ref n94, .int 0, .ref n95, .ref n96, .ref n97, .ref n98, .int 0, .ref n99, .ref n100, .ref n101, .ref n102, .int 0, .int 0, .ref n103, .ref n104, .ref n105, .ref n106]))] H locs := w
  refine lv_lstore (lv' := [(6, .long 0), (5, .int 1), (4, .int 0), (3, .ref n107), (2, .ref n64), (1, .ref n0), (0, .ref b)]) hx hb dL_law_1703 hl (by decide) rfl (fun ls hl => ?_)
  refine lv_aload_n hx hb dL_law_1705 rfl (lv_at hl 4 rfl) ?_
  refine fin_i C w (run_V C w mv_L_150 (k20_thrown C.b0 n64 n65 n66 n67 n68 n69 n70 n71 n72 n73 n74 n75 n76 n77 n78 n79 n80 n81 n82 n83 n84 n85 n86 n87 n88 n89 n90 n91 n92 n93 n94 n95 n96 n97 n98 n99 n100 n101 n102 n103 n104 n105 n106 H.size) [1] rfl rfl 1 rfl rfl (by decide) rfl hl.1 rfl (Nat.le_of_ble_eq_true rfl) dL_law_1706 (cells2 := 109) (slots2 := 210178) (by decide)) [1] [0] rfl rfl (by decide) (cells2 := 109) (slots2 := 210178) (by decide) (fun u3 H locs w => ?_)
  have w : Wd s G A [(n0, .inr (11, [.ref n1, .ref n2, .ref n3, .ref n7, .ref n8, .ref n12, .ref n16, .ref n21, .ref n22, .ref n37, .int 0, .int (-1), .int 0, .int 0, .null, .null, .null, .null, .null])), (n64, .inr (12, [.int 1, .int 0, .int 0, .int 0, .int 0, .int 0, .int 0, .int (-1), .ref n65, .ref n66, .ref n67, .int 0, .ref n68, .ref n69, .ref n70, .ref n71, .ref n72, .ref n73, .ref n74, .int 0, .ref n75, .ref n76, .ref n77, .ref n78, .ref n79, .ref n80, .ref n81, .int 0, .int (-1), .int 0, .ref n82, .ref n83, .ref n84, .ref n85, .ref n86, .ref n87, .ref n88, .ref n89, .int 0, .ref n90, .ref n91, .ref n92, .ref n93, .ref n94, .int 0, .ref n95, .ref n96, .ref n97, .ref n98, .int 0, .ref n99, .ref n100, .ref n101, .ref n102, .int 0, .int 0, .ref n103, .ref n104, .ref n105, .ref n106]))] H locs := w
  refine lv_iload hx hb dL_law_1709 (lv_at hl 1 rfl) ?_
  refine lv_icmp_eq (tgt := 1716) hx hb dL_law_1711 (by decide) (fun _ => ?_) (fun h => absurd (by decide) h)
  refine lv_iload hx hb dL_law_1716 (lv_at hl 1 rfl) ?_
  refine lv_if_ne (tgt := 1732) hx hb dL_law_1718 (by decide) (fun _ => ?_) (fun h => h.elim (by decide))
  refine lv_goto (tgt := 3027) hx hb dL_law_1732 (by decide) ?_
  exact lc_end C hr hX hbl hbA w (lv_sub hl [2, 6] rfl) (by decide) (by decide)
set_option maxRecDepth 100000 in
set_option maxHeartbeats 4000000 in
theorem lc_23_1 {l : Launch} {G : GT} {p : Program} {e : Env} {s : State} {m : MethodId} {below : List Frame} {meth : Method} {c : Code} {A : Nat → Prop} {b : Nat} {xs : Nat → Int32} (C : Cx l s #[Value.ref b] G p s m #[Value.ref b] meth c RL cL_law 8 "law" A) (hr : meth.sig.returnType = some .boolean) (hX : va_X b 6 xs s s.heap) (hbl : b < s.heap.size) (hbA : ¬ A b) (n0 n1 n2 n3 n7 n8 n12 n16 n21 n22 n37 n64 n65 n66 n67 n68 n69 n70 n71 n72 n73 n74 n75 n76 n77 n78 n79 n80 n81 n82 n83 n84 n85 n86 n87 n88 n89 n90 n91 n92 n93 n94 n95 n96 n97 n98 n99 n100 n101 n102 n103 n104 n105 n106 n107 : Nat) (g0 : ¬ (xs 1) < 1) (g1 : 3000 < (xs 1)) {H : Heap} {locs : List Loc} {ls : Array Slot} (w : Wd s G A [(n0, .inr (11, [.ref n1, .ref n2, .ref n3, .ref n7, .ref n8, .ref n12, .ref n16, .ref n21, .ref n22, .ref n37, .int 0, .int (-1), .int 0, .int 0, .null, .null, .null, .null, .null])), (n64, .inr (12, [.int 0, .int 0, .int 0, .int 0, .int 0, .int 0, .int 0, .int (-1), .ref n65, .ref n66, .ref n67, .int 0, .ref n68, .ref n69, .ref n70, .ref n71, .ref n72, .ref n73, .ref n74, .int 0, .ref n75, .ref n76, .ref n77, .ref n78, .ref n79, .ref n80, .ref n81, .int 0, .int (-1), .int 0, .ref n82, .ref n83, .ref n84, .ref n85, .ref n86, .ref n87, .ref n88, .ref n89, .int 0, .ref n90, .ref n91, .ref n92, .ref n93, .ref n94, .int 0, .ref n95, .ref n96, .ref n97, .ref n98, .int 0, .ref n99, .ref n100, .ref n101, .ref n102, .int 0, .int 0, .ref n103, .ref n104, .ref n105, .ref n106]))] H locs) (hl : lv_has ls 8 [(4, .int 0), (3, .ref n107), (2, .ref n64), (1, .ref n0), (0, .ref b)]) : W p l e room_1 s m #[Value.ref b] below meth c H locs 108 210172 (lw_Z below #[Value.ref b] s) (F0 m 1668 ls []) := by
  have hx := C.hx
  have hb := C.hb
  refine lv_aload_n hx hb dL_law_1668 rfl (lv_at hl 3 rfl) ?_
  refine lv_aload_n hx hb dL_law_1669 rfl (lv_at hl 4 rfl) ?_
  refine lv_iload hx hb dL_law_1670 (lv_at hl 0 rfl) ?_
  refine lv_iconst (v := 1) hx hb dL_law_1672 (by decide) ?_
  refine lv_iadd hx hb dL_law_1673 ?_
  refine z_i (v := 1) (by decide +kernel) ?_
  refine va_sld hx hb hX hbl hbA w.2.2 (i := 1) (by decide) dL_law_1674 ?_
  refine z_i (v := (xs 1)) rfl ?_
  refine lv_aload_n hx hb dL_law_1675 rfl (lv_at hl 4 rfl) ?_
  refine lv_iload hx hb dL_law_1676 (lv_at hl 0 rfl) ?_
  refine lv_iconst (v := 2) hx hb dL_law_1678 (by decide) ?_
  refine lv_iadd hx hb dL_law_1679 ?_
  refine z_i (v := 2) (by decide +kernel) ?_
  refine va_sld hx hb hX hbl hbA w.2.2 (i := 2) (by decide) dL_law_1680 ?_
  refine z_i (v := (xs 2)) rfl ?_
  refine lv_aload_n hx hb dL_law_1681 rfl (lv_at hl 1 rfl) ?_
  refine fin_i C w (run_H C w mh_L_224 (k263_rows C.b0 n0 n107 n1 n2 n3 n7 n8 n12 n16 n21 n22 n37 ((xs 1)) ((xs 2)) g1 g0 H.size) [0] rfl rfl (by decide) rfl hl.1 rfl (Nat.le_of_ble_eq_true rfl) dL_law_1682 (cells2 := 109) (slots2 := 210178) (by decide)) [0] [1] rfl rfl (by decide) (cells2 := 109) (slots2 := 210178) (by decide) (fun u1 H locs w => ?_)
  have w : Wd s G A [(n64, .inr (12, [.int 0, .int 0, .int 0, .int 0, .int 0, .int 0, .int 0, .int (-1), .ref n65, .ref n66, .ref n67, .int 0, .ref n68, .ref n69, .ref n70, .ref n71, .ref n72, .ref n73, .ref n74, .int 0, .ref n75, .ref n76, .ref n77, .ref n78, .ref n79, .ref n80, .ref n81, .int 0, .int (-1), .int 0, .ref n82, .ref n83, .ref n84, .ref n85, .ref n86, .ref n87, .ref n88, .ref n89, .int 0, .ref n90, .ref n91, .ref n92, .ref n93, .ref n94, .int 0, .ref n95, .ref n96, .ref n97, .ref n98, .int 0, .ref n99, .ref n100, .ref n101, .ref n102, .int 0, .int 0, .ref n103, .ref n104, .ref n105, .ref n106])), (n0, .inr (11, [.ref n1, .ref n2, .ref n3, .ref n7, .ref n8, .ref n12, .ref n16, .ref n21, .ref n22, .ref n37, .int 0, .int (-1), .int 0, .int 0, .null, .null, .null, .null, .null]))] H locs := w
  refine lv_istore (lv' := [(5, .int 1), (4, .int 0), (3, .ref n107), (2, .ref n64), (1, .ref n0), (0, .ref b)]) hx hb dL_law_1685 hl (by decide) rfl (fun ls hl => ?_)
  refine lv_aload_n hx hb dL_law_1687 rfl (lv_at hl 3 rfl) ?_
  refine lv_aload_n hx hb dL_law_1688 rfl (lv_at hl 5 rfl) ?_
  refine lv_iload hx hb dL_law_1689 (lv_at hl 1 rfl) ?_
  refine lv_iconst (v := 1) hx hb dL_law_1691 (by decide) ?_
  refine lv_iadd hx hb dL_law_1692 ?_
  refine z_i (v := 1) (by decide +kernel) ?_
  refine va_sld hx hb hX hbl hbA w.2.2 (i := 1) (by decide) dL_law_1693 ?_
  refine z_i (v := (xs 1)) rfl ?_
  refine lv_aload_n hx hb dL_law_1694 rfl (lv_at hl 5 rfl) ?_
  refine lv_iload hx hb dL_law_1695 (lv_at hl 1 rfl) ?_
  refine lv_iconst (v := 2) hx hb dL_law_1697 (by decide) ?_
  refine lv_iadd hx hb dL_law_1698 ?_
  refine z_i (v := 2) (by decide +kernel) ?_
  refine va_sld hx hb hX hbl hbA w.2.2 (i := 2) (by decide) dL_law_1699 ?_
  refine z_i (v := (xs 2)) rfl ?_
  refine fin_l C w (run_V C w mv_L_226 (k264_rows C.b0 n64 n65 n66 n67 n68 n69 n70 n71 n72 n73 n74 n75 n76 n77 n78 n79 n80 n81 n82 n83 n84 n85 n86 n87 n88 n89 n90 n91 n92 n93 n94 n95 n96 n97 n98 n99 n100 n101 n102 n103 n104 n105 n106 ((xs 1)) ((xs 2)) g1 g0 H.size) [0] rfl rfl 0 rfl rfl (by decide) rfl hl.1 rfl (Nat.le_of_ble_eq_true rfl) dL_law_1700 (cells2 := 109) (slots2 := 210178) (by decide)) [0] [1] rfl rfl (by decide) (cells2 := 109) (slots2 := 210178) (by decide) (fun u2 H locs w => ?_)
  have w : Wd s G A [(n0, .inr (11, [.ref n1, .ref n2, .ref n3, .ref n7, .ref n8, .ref n12, .ref n16, .ref n21, .ref n22, .ref n37, .int 0, .int (-1), .int 0, .int 0, .null, .null, .null, .null, .null])), (n64, .inr (12, [.int 1, .int 0, .int 0, .int 0, .int 0, .int 0, .int 0, .int (-1), .ref n65, .ref n66, .ref n67, .int 0, .ref n68, .ref n69, .ref n70, .ref n71, .ref n72, .ref n73, .ref n74, .int 0, .ref n75, .ref n76, .ref n77, .ref n78, .ref n79, .ref n80, .ref n81, .int 0, .int (-1), .int 0, .ref n82, .ref n83, .ref n84, .ref n85, .ref n86, .ref n87, .ref n88, .ref n89, .int 0, .ref n90, .ref n91, .ref n92, .ref n93, .ref n94, .int 0, .ref n95, .ref n96, .ref n97, .ref n98, .int 0, .ref n99, .ref n100, .ref n101, .ref n102, .int 0, .int 0, .ref n103, .ref n104, .ref n105, .ref n106]))] H locs := w
  refine lv_lstore (lv' := [(6, .long 0), (5, .int 1), (4, .int 0), (3, .ref n107), (2, .ref n64), (1, .ref n0), (0, .ref b)]) hx hb dL_law_1703 hl (by decide) rfl (fun ls hl => ?_)
  refine lv_aload_n hx hb dL_law_1705 rfl (lv_at hl 4 rfl) ?_
  refine fin_i C w (run_V C w mv_L_150 (k20_thrown C.b0 n64 n65 n66 n67 n68 n69 n70 n71 n72 n73 n74 n75 n76 n77 n78 n79 n80 n81 n82 n83 n84 n85 n86 n87 n88 n89 n90 n91 n92 n93 n94 n95 n96 n97 n98 n99 n100 n101 n102 n103 n104 n105 n106 H.size) [1] rfl rfl 1 rfl rfl (by decide) rfl hl.1 rfl (Nat.le_of_ble_eq_true rfl) dL_law_1706 (cells2 := 109) (slots2 := 210178) (by decide)) [1] [0] rfl rfl (by decide) (cells2 := 109) (slots2 := 210178) (by decide) (fun u3 H locs w => ?_)
  have w : Wd s G A [(n0, .inr (11, [.ref n1, .ref n2, .ref n3, .ref n7, .ref n8, .ref n12, .ref n16, .ref n21, .ref n22, .ref n37, .int 0, .int (-1), .int 0, .int 0, .null, .null, .null, .null, .null])), (n64, .inr (12, [.int 1, .int 0, .int 0, .int 0, .int 0, .int 0, .int 0, .int (-1), .ref n65, .ref n66, .ref n67, .int 0, .ref n68, .ref n69, .ref n70, .ref n71, .ref n72, .ref n73, .ref n74, .int 0, .ref n75, .ref n76, .ref n77, .ref n78, .ref n79, .ref n80, .ref n81, .int 0, .int (-1), .int 0, .ref n82, .ref n83, .ref n84, .ref n85, .ref n86, .ref n87, .ref n88, .ref n89, .int 0, .ref n90, .ref n91, .ref n92, .ref n93, .ref n94, .int 0, .ref n95, .ref n96, .ref n97, .ref n98, .int 0, .ref n99, .ref n100, .ref n101, .ref n102, .int 0, .int 0, .ref n103, .ref n104, .ref n105, .ref n106]))] H locs := w
  refine lv_iload hx hb dL_law_1709 (lv_at hl 1 rfl) ?_
  refine lv_icmp_eq (tgt := 1716) hx hb dL_law_1711 (by decide) (fun _ => ?_) (fun h => absurd (by decide) h)
  refine lv_iload hx hb dL_law_1716 (lv_at hl 1 rfl) ?_
  refine lv_if_ne (tgt := 1732) hx hb dL_law_1718 (by decide) (fun _ => ?_) (fun h => h.elim (by decide))
  refine lv_goto (tgt := 3027) hx hb dL_law_1732 (by decide) ?_
  exact lc_end C hr hX hbl hbA w (lv_sub hl [2, 6] rfl) (by decide) (by decide)
