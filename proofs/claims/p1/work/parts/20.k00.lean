set_option maxRecDepth 100000 in
set_option maxHeartbeats 4000000 in
theorem k8_tapeNumber {l : Launch} {s0 : State} {a0 : Array Value} {G : GT} (b0 : B0 l s0 a0 G) (q0 q1 q2 q3 q4 q5 q6 q7 q8 q9 q10 : Nat) (x0 : Int32) (sz : Nat) : Kv l s0 G yX11_tapeNumber cX11_tapeNumber 3 none { frames := 0, cells := 0, slots := 0, locals := 0 } [.ref q0, .int x0] [(q0, .inr (11, [.ref q1, .ref q2, .ref q3, .ref q4, .ref q5, .ref q6, .ref q7, .ref q8, .ref q9, .ref q10, .int 0, .int (-1), .int 0, .int 0, .null, .null, .null, .null, .null])), (q1, .inl (G.2.1, 600, .inl (fun _ => 0)))] sz (fun u => [(q0, .inr (11, [.ref q1, .ref q2, .ref q3, .ref q4, .ref q5, .ref q6, .ref q7, .ref q8, .ref q9, .ref q10, .int 4, .int (-1), .int 0, .int 0, .null, .null, .null, .null, .null])), (q1, .inl (G.2.1, 600, .inl (upd (upd (upd (upd (fun _ => 0) 0 ((x0.toUInt32 >>> (Int32.toUInt32 24 &&& Int32.toUInt32 31)).toInt32 &&& 255)) 1 ((x0.toUInt32 >>> (Int32.toUInt32 16 &&& Int32.toUInt32 31)).toInt32 &&& 255)) 2 ((x0.toUInt32 >>> (Int32.toUInt32 8 &&& Int32.toUInt32 31)).toInt32 &&& 255)) 3 ((x0.toUInt32 >>> (Int32.toUInt32 0 &&& Int32.toUInt32 31)).toInt32 &&& 255))))]) := by
  refine Kv.of b0 (own := RX11) (nm := "tapeNumber") [(0, .ref q0), (1, .int x0)] rfl rfl (by decide +kernel) (Nat.le_of_ble_eq_true rfl) rfl ?_
  intro p e s m below meth c A C hr H locs w ls hl
  have hx := C.hx
  have hb := C.hb
  refine lv_bipush (v := 24) hx hb dX11_tapeNumber_0 (by decide) ?_
  refine lv_istore_n (lv' := [(2, .int 24), (0, .ref q0), (1, .int x0)]) hx hb dX11_tapeNumber_2 rfl hl (by decide) rfl (fun ls hl => ?_)
  refine lv_iload_n hx hb dX11_tapeNumber_3 rfl (lv_at hl 0 rfl) ?_
  refine lv_if_lt (tgt := 49) hx hb dX11_tapeNumber_4 (by decide) (fun h => absurd h (by decide)) (fun _ => ?_)
  refine lv_aload_n hx hb dX11_tapeNumber_7 rfl (lv_at hl 1 rfl) ?_
  refine r_get C w 0 rfl fr_X11_65 rfl dX11_tapeNumber_8 ?_
  refine lv_sipush (v := 600) hx hb dX11_tapeNumber_11 (by decide) ?_
  refine lv_icmp_ge (tgt := 49) hx hb dX11_tapeNumber_14 (by decide) (fun h => absurd h (by decide)) (fun _ => ?_)
  refine lv_aload_n hx hb dX11_tapeNumber_17 rfl (lv_at hl 1 rfl) ?_
  refine r_get C w 0 rfl fr_X11_9 rfl dX11_tapeNumber_18 ?_
  refine lv_aload_n hx hb dX11_tapeNumber_21 rfl (lv_at hl 1 rfl) ?_
  refine r_get C w 0 rfl fr_X11_65 rfl dX11_tapeNumber_22 ?_
  refine lv_iload_n hx hb dX11_tapeNumber_25 rfl (lv_at hl 2 rfl) ?_
  refine lv_iload_n hx hb dX11_tapeNumber_26 rfl (lv_at hl 0 rfl) ?_
  refine lv_iushr (v := (x0.toUInt32 >>> (Int32.toUInt32 24 &&& Int32.toUInt32 31)).toInt32) hx hb dX11_tapeNumber_27 rfl ?_
  refine lv_sipush (v := 255) hx hb dX11_tapeNumber_28 (by decide) ?_
  refine lv_iand hx hb dX11_tapeNumber_31 ?_
  refine r_iast C w 1 rfl (IX.of (k := 0) (by decide +kernel)) (g := (upd (fun _ => 0) 0 ((x0.toUInt32 >>> (Int32.toUInt32 24 &&& Int32.toUInt32 31)).toInt32 &&& 255))) rfl dX11_tapeNumber_32 (ws2 := [(q0, .inr (11, [.ref q1, .ref q2, .ref q3, .ref q4, .ref q5, .ref q6, .ref q7, .ref q8, .ref q9, .ref q10, .int 0, .int (-1), .int 0, .int 0, .null, .null, .null, .null, .null])), (q1, .inl (G.2.1, 600, .inl (upd (fun _ => 0) 0 ((x0.toUInt32 >>> (Int32.toUInt32 24 &&& Int32.toUInt32 31)).toInt32 &&& 255))))]) rfl (fun H locs w => ?_)
  refine lv_aload_n hx hb dX11_tapeNumber_33 rfl (lv_at hl 1 rfl) ?_
  refine lv_dup hx hb dX11_tapeNumber_34 rfl ?_
  refine r_get C w 0 rfl fr_X11_65 rfl dX11_tapeNumber_35 ?_
  refine lv_iconst (v := 1) hx hb dX11_tapeNumber_38 (by decide) ?_
  refine lv_iadd hx hb dX11_tapeNumber_39 ?_
  refine z_i (v := 1) (by decide +kernel) ?_
  refine r_put C w 0 rfl fl_X11_65 (Nat.le_of_ble_eq_true rfl) rfl rfl dX11_tapeNumber_40 (ws2 := [(q0, .inr (11, [.ref q1, .ref q2, .ref q3, .ref q4, .ref q5, .ref q6, .ref q7, .ref q8, .ref q9, .ref q10, .int 1, .int (-1), .int 0, .int 0, .null, .null, .null, .null, .null])), (q1, .inl (G.2.1, 600, .inl (upd (fun _ => 0) 0 ((x0.toUInt32 >>> (Int32.toUInt32 24 &&& Int32.toUInt32 31)).toInt32 &&& 255))))]) rfl (fun H locs w => ?_)
  refine lv_iinc (v := 16) (lv' := [(2, .int 16), (0, .ref q0), (1, .int x0)]) hx hb dX11_tapeNumber_43 hl (k := 0) rfl (by decide +kernel) (by decide) rfl (fun ls hl => ?_)
  refine lv_goto (tgt := 3) hx hb dX11_tapeNumber_46 (by decide) ?_
  refine lv_iload_n hx hb dX11_tapeNumber_3 rfl (lv_at hl 0 rfl) ?_
  refine lv_if_lt (tgt := 49) hx hb dX11_tapeNumber_4 (by decide) (fun h => absurd h (by decide)) (fun _ => ?_)
  refine lv_aload_n hx hb dX11_tapeNumber_7 rfl (lv_at hl 1 rfl) ?_
  refine r_get C w 0 rfl fr_X11_65 rfl dX11_tapeNumber_8 ?_
  refine lv_sipush (v := 600) hx hb dX11_tapeNumber_11 (by decide) ?_
  refine lv_icmp_ge (tgt := 49) hx hb dX11_tapeNumber_14 (by decide) (fun h => absurd h (by decide)) (fun _ => ?_)
  refine lv_aload_n hx hb dX11_tapeNumber_17 rfl (lv_at hl 1 rfl) ?_
  refine r_get C w 0 rfl fr_X11_9 rfl dX11_tapeNumber_18 ?_
  refine lv_aload_n hx hb dX11_tapeNumber_21 rfl (lv_at hl 1 rfl) ?_
  refine r_get C w 0 rfl fr_X11_65 rfl dX11_tapeNumber_22 ?_
  refine lv_iload_n hx hb dX11_tapeNumber_25 rfl (lv_at hl 2 rfl) ?_
  refine lv_iload_n hx hb dX11_tapeNumber_26 rfl (lv_at hl 0 rfl) ?_
  refine lv_iushr (v := (x0.toUInt32 >>> (Int32.toUInt32 16 &&& Int32.toUInt32 31)).toInt32) hx hb dX11_tapeNumber_27 rfl ?_
  refine lv_sipush (v := 255) hx hb dX11_tapeNumber_28 (by decide) ?_
  refine lv_iand hx hb dX11_tapeNumber_31 ?_
  refine r_iast C w 1 rfl (IX.of (k := 1) (by decide +kernel)) (g := (upd (upd (fun _ => 0) 0 ((x0.toUInt32 >>> (Int32.toUInt32 24 &&& Int32.toUInt32 31)).toInt32 &&& 255)) 1 ((x0.toUInt32 >>> (Int32.toUInt32 16 &&& Int32.toUInt32 31)).toInt32 &&& 255))) rfl dX11_tapeNumber_32 (ws2 := [(q0, .inr (11, [.ref q1, .ref q2, .ref q3, .ref q4, .ref q5, .ref q6, .ref q7, .ref q8, .ref q9, .ref q10, .int 1, .int (-1), .int 0, .int 0, .null, .null, .null, .null, .null])), (q1, .inl (G.2.1, 600, .inl (upd (upd (fun _ => 0) 0 ((x0.toUInt32 >>> (Int32.toUInt32 24 &&& Int32.toUInt32 31)).toInt32 &&& 255)) 1 ((x0.toUInt32 >>> (Int32.toUInt32 16 &&& Int32.toUInt32 31)).toInt32 &&& 255))))]) rfl (fun H locs w => ?_)
  refine lv_aload_n hx hb dX11_tapeNumber_33 rfl (lv_at hl 1 rfl) ?_
  refine lv_dup hx hb dX11_tapeNumber_34 rfl ?_
  refine r_get C w 0 rfl fr_X11_65 rfl dX11_tapeNumber_35 ?_
  refine lv_iconst (v := 1) hx hb dX11_tapeNumber_38 (by decide) ?_
  refine lv_iadd hx hb dX11_tapeNumber_39 ?_
  refine z_i (v := 2) (by decide +kernel) ?_
  refine r_put C w 0 rfl fl_X11_65 (Nat.le_of_ble_eq_true rfl) rfl rfl dX11_tapeNumber_40 (ws2 := [(q0, .inr (11, [.ref q1, .ref q2, .ref q3, .ref q4, .ref q5, .ref q6, .ref q7, .ref q8, .ref q9, .ref q10, .int 2, .int (-1), .int 0, .int 0, .null, .null, .null, .null, .null])), (q1, .inl (G.2.1, 600, .inl (upd (upd (fun _ => 0) 0 ((x0.toUInt32 >>> (Int32.toUInt32 24 &&& Int32.toUInt32 31)).toInt32 &&& 255)) 1 ((x0.toUInt32 >>> (Int32.toUInt32 16 &&& Int32.toUInt32 31)).toInt32 &&& 255))))]) rfl (fun H locs w => ?_)
  refine lv_iinc (v := 8) (lv' := [(2, .int 8), (0, .ref q0), (1, .int x0)]) hx hb dX11_tapeNumber_43 hl (k := 0) rfl (by decide +kernel) (by decide) rfl (fun ls hl => ?_)
  refine lv_goto (tgt := 3) hx hb dX11_tapeNumber_46 (by decide) ?_
  refine lv_iload_n hx hb dX11_tapeNumber_3 rfl (lv_at hl 0 rfl) ?_
  refine lv_if_lt (tgt := 49) hx hb dX11_tapeNumber_4 (by decide) (fun h => absurd h (by decide)) (fun _ => ?_)
  refine lv_aload_n hx hb dX11_tapeNumber_7 rfl (lv_at hl 1 rfl) ?_
  refine r_get C w 0 rfl fr_X11_65 rfl dX11_tapeNumber_8 ?_
  refine lv_sipush (v := 600) hx hb dX11_tapeNumber_11 (by decide) ?_
  refine lv_icmp_ge (tgt := 49) hx hb dX11_tapeNumber_14 (by decide) (fun h => absurd h (by decide)) (fun _ => ?_)
  refine lv_aload_n hx hb dX11_tapeNumber_17 rfl (lv_at hl 1 rfl) ?_
  refine r_get C w 0 rfl fr_X11_9 rfl dX11_tapeNumber_18 ?_
  refine lv_aload_n hx hb dX11_tapeNumber_21 rfl (lv_at hl 1 rfl) ?_
  refine r_get C w 0 rfl fr_X11_65 rfl dX11_tapeNumber_22 ?_
  refine lv_iload_n hx hb dX11_tapeNumber_25 rfl (lv_at hl 2 rfl) ?_
  refine lv_iload_n hx hb dX11_tapeNumber_26 rfl (lv_at hl 0 rfl) ?_
  refine lv_iushr (v := (x0.toUInt32 >>> (Int32.toUInt32 8 &&& Int32.toUInt32 31)).toInt32) hx hb dX11_tapeNumber_27 rfl ?_
  refine lv_sipush (v := 255) hx hb dX11_tapeNumber_28 (by decide) ?_
  refine lv_iand hx hb dX11_tapeNumber_31 ?_
  refine r_iast C w 1 rfl (IX.of (k := 2) (by decide +kernel)) (g := (upd (upd (upd (fun _ => 0) 0 ((x0.toUInt32 >>> (Int32.toUInt32 24 &&& Int32.toUInt32 31)).toInt32 &&& 255)) 1 ((x0.toUInt32 >>> (Int32.toUInt32 16 &&& Int32.toUInt32 31)).toInt32 &&& 255)) 2 ((x0.toUInt32 >>> (Int32.toUInt32 8 &&& Int32.toUInt32 31)).toInt32 &&& 255))) rfl dX11_tapeNumber_32 (ws2 := [(q0, .inr (11, [.ref q1, .ref q2, .ref q3, .ref q4, .ref q5, .ref q6, .ref q7, .ref q8, .ref q9, .ref q10, .int 2, .int (-1), .int 0, .int 0, .null, .null, .null, .null, .null])), (q1, .inl (G.2.1, 600, .inl (upd (upd (upd (fun _ => 0) 0 ((x0.toUInt32 >>> (Int32.toUInt32 24 &&& Int32.toUInt32 31)).toInt32 &&& 255)) 1 ((x0.toUInt32 >>> (Int32.toUInt32 16 &&& Int32.toUInt32 31)).toInt32 &&& 255)) 2 ((x0.toUInt32 >>> (Int32.toUInt32 8 &&& Int32.toUInt32 31)).toInt32 &&& 255))))]) rfl (fun H locs w => ?_)
  refine lv_aload_n hx hb dX11_tapeNumber_33 rfl (lv_at hl 1 rfl) ?_
  refine lv_dup hx hb dX11_tapeNumber_34 rfl ?_
  refine r_get C w 0 rfl fr_X11_65 rfl dX11_tapeNumber_35 ?_
  refine lv_iconst (v := 1) hx hb dX11_tapeNumber_38 (by decide) ?_
  refine lv_iadd hx hb dX11_tapeNumber_39 ?_
  refine z_i (v := 3) (by decide +kernel) ?_
  refine r_put C w 0 rfl fl_X11_65 (Nat.le_of_ble_eq_true rfl) rfl rfl dX11_tapeNumber_40 (ws2 := [(q0, .inr (11, [.ref q1, .ref q2, .ref q3, .ref q4, .ref q5, .ref q6, .ref q7, .ref q8, .ref q9, .ref q10, .int 3, .int (-1), .int 0, .int 0, .null, .null, .null, .null, .null])), (q1, .inl (G.2.1, 600, .inl (upd (upd (upd (fun _ => 0) 0 ((x0.toUInt32 >>> (Int32.toUInt32 24 &&& Int32.toUInt32 31)).toInt32 &&& 255)) 1 ((x0.toUInt32 >>> (Int32.toUInt32 16 &&& Int32.toUInt32 31)).toInt32 &&& 255)) 2 ((x0.toUInt32 >>> (Int32.toUInt32 8 &&& Int32.toUInt32 31)).toInt32 &&& 255))))]) rfl (fun H locs w => ?_)
  refine lv_iinc (v := 0) (lv' := [(2, .int 0), (0, .ref q0), (1, .int x0)]) hx hb dX11_tapeNumber_43 hl (k := 0) rfl (by decide +kernel) (by decide) rfl (fun ls hl => ?_)
  refine lv_goto (tgt := 3) hx hb dX11_tapeNumber_46 (by decide) ?_
  refine lv_iload_n hx hb dX11_tapeNumber_3 rfl (lv_at hl 0 rfl) ?_
  refine lv_if_lt (tgt := 49) hx hb dX11_tapeNumber_4 (by decide) (fun h => absurd h (by decide)) (fun _ => ?_)
  refine lv_aload_n hx hb dX11_tapeNumber_7 rfl (lv_at hl 1 rfl) ?_
  refine r_get C w 0 rfl fr_X11_65 rfl dX11_tapeNumber_8 ?_
  refine lv_sipush (v := 600) hx hb dX11_tapeNumber_11 (by decide) ?_
  refine lv_icmp_ge (tgt := 49) hx hb dX11_tapeNumber_14 (by decide) (fun h => absurd h (by decide)) (fun _ => ?_)
  refine lv_aload_n hx hb dX11_tapeNumber_17 rfl (lv_at hl 1 rfl) ?_
  refine r_get C w 0 rfl fr_X11_9 rfl dX11_tapeNumber_18 ?_
  refine lv_aload_n hx hb dX11_tapeNumber_21 rfl (lv_at hl 1 rfl) ?_
  refine r_get C w 0 rfl fr_X11_65 rfl dX11_tapeNumber_22 ?_
  refine lv_iload_n hx hb dX11_tapeNumber_25 rfl (lv_at hl 2 rfl) ?_
  refine lv_iload_n hx hb dX11_tapeNumber_26 rfl (lv_at hl 0 rfl) ?_
  refine lv_iushr (v := (x0.toUInt32 >>> (Int32.toUInt32 0 &&& Int32.toUInt32 31)).toInt32) hx hb dX11_tapeNumber_27 rfl ?_
  refine lv_sipush (v := 255) hx hb dX11_tapeNumber_28 (by decide) ?_
  refine lv_iand hx hb dX11_tapeNumber_31 ?_
  refine r_iast C w 1 rfl (IX.of (k := 3) (by decide +kernel)) (g := (upd (upd (upd (upd (fun _ => 0) 0 ((x0.toUInt32 >>> (Int32.toUInt32 24 &&& Int32.toUInt32 31)).toInt32 &&& 255)) 1 ((x0.toUInt32 >>> (Int32.toUInt32 16 &&& Int32.toUInt32 31)).toInt32 &&& 255)) 2 ((x0.toUInt32 >>> (Int32.toUInt32 8 &&& Int32.toUInt32 31)).toInt32 &&& 255)) 3 ((x0.toUInt32 >>> (Int32.toUInt32 0 &&& Int32.toUInt32 31)).toInt32 &&& 255))) rfl dX11_tapeNumber_32 (ws2 := [(q0, .inr (11, [.ref q1, .ref q2, .ref q3, .ref q4, .ref q5, .ref q6, .ref q7, .ref q8, .ref q9, .ref q10, .int 3, .int (-1), .int 0, .int 0, .null, .null, .null, .null, .null])), (q1, .inl (G.2.1, 600, .inl (upd (upd (upd (upd (fun _ => 0) 0 ((x0.toUInt32 >>> (Int32.toUInt32 24 &&& Int32.toUInt32 31)).toInt32 &&& 255)) 1 ((x0.toUInt32 >>> (Int32.toUInt32 16 &&& Int32.toUInt32 31)).toInt32 &&& 255)) 2 ((x0.toUInt32 >>> (Int32.toUInt32 8 &&& Int32.toUInt32 31)).toInt32 &&& 255)) 3 ((x0.toUInt32 >>> (Int32.toUInt32 0 &&& Int32.toUInt32 31)).toInt32 &&& 255))))]) rfl (fun H locs w => ?_)
  refine lv_aload_n hx hb dX11_tapeNumber_33 rfl (lv_at hl 1 rfl) ?_
  refine lv_dup hx hb dX11_tapeNumber_34 rfl ?_
  refine r_get C w 0 rfl fr_X11_65 rfl dX11_tapeNumber_35 ?_
  refine lv_iconst (v := 1) hx hb dX11_tapeNumber_38 (by decide) ?_
  refine lv_iadd hx hb dX11_tapeNumber_39 ?_
  refine z_i (v := 4) (by decide +kernel) ?_
  refine r_put C w 0 rfl fl_X11_65 (Nat.le_of_ble_eq_true rfl) rfl rfl dX11_tapeNumber_40 (ws2 := [(q0, .inr (11, [.ref q1, .ref q2, .ref q3, .ref q4, .ref q5, .ref q6, .ref q7, .ref q8, .ref q9, .ref q10, .int 4, .int (-1), .int 0, .int 0, .null, .null, .null, .null, .null])), (q1, .inl (G.2.1, 600, .inl (upd (upd (upd (upd (fun _ => 0) 0 ((x0.toUInt32 >>> (Int32.toUInt32 24 &&& Int32.toUInt32 31)).toInt32 &&& 255)) 1 ((x0.toUInt32 >>> (Int32.toUInt32 16 &&& Int32.toUInt32 31)).toInt32 &&& 255)) 2 ((x0.toUInt32 >>> (Int32.toUInt32 8 &&& Int32.toUInt32 31)).toInt32 &&& 255)) 3 ((x0.toUInt32 >>> (Int32.toUInt32 0 &&& Int32.toUInt32 31)).toInt32 &&& 255))))]) rfl (fun H locs w => ?_)
  refine lv_iinc (v := (-8)) (lv' := [(2, .int (-8)), (0, .ref q0), (1, .int x0)]) hx hb dX11_tapeNumber_43 hl (k := 0) rfl (by decide +kernel) (by decide) rfl (fun ls hl => ?_)
  refine lv_goto (tgt := 3) hx hb dX11_tapeNumber_46 (by decide) ?_
  refine lv_iload_n hx hb dX11_tapeNumber_3 rfl (lv_at hl 0 rfl) ?_
  refine lv_if_lt (tgt := 49) hx hb dX11_tapeNumber_4 (by decide) (fun _ => ?_) (fun h => absurd (by decide) h)
  exact e_v C hr w (fun _ => 0) [0, 1] rfl rfl dX11_tapeNumber_49 (by decide) (by decide)
set_option maxRecDepth 100000 in
set_option maxHeartbeats 4000000 in
theorem k9_tapeNumber {l : Launch} {s0 : State} {a0 : Array Value} {G : GT} (b0 : B0 l s0 a0 G) (q0 q1 q2 q3 q4 q5 q6 q7 q8 q9 q10 : Nat) (x0 : Int32) (f0 : Nat → Int32) (sz : Nat) : Kv l s0 G yX11_tapeNumber cX11_tapeNumber 3 none { frames := 0, cells := 0, slots := 0, locals := 0 } [.ref q0, .int x0] [(q0, .inr (11, [.ref q1, .ref q2, .ref q3, .ref q4, .ref q5, .ref q6, .ref q7, .ref q8, .ref q9, .ref q10, .int 4, .int (-1), .int 0, .int 0, .null, .null, .null, .null, .null])), (q1, .inl (G.2.1, 600, .inl f0))] sz (fun u => [(q0, .inr (11, [.ref q1, .ref q2, .ref q3, .ref q4, .ref q5, .ref q6, .ref q7, .ref q8, .ref q9, .ref q10, .int 8, .int (-1), .int 0, .int 0, .null, .null, .null, .null, .null])), (q1, .inl (G.2.1, 600, .inl (upd (upd (upd (upd f0 4 ((x0.toUInt32 >>> (Int32.toUInt32 24 &&& Int32.toUInt32 31)).toInt32 &&& 255)) 5 ((x0.toUInt32 >>> (Int32.toUInt32 16 &&& Int32.toUInt32 31)).toInt32 &&& 255)) 6 ((x0.toUInt32 >>> (Int32.toUInt32 8 &&& Int32.toUInt32 31)).toInt32 &&& 255)) 7 ((x0.toUInt32 >>> (Int32.toUInt32 0 &&& Int32.toUInt32 31)).toInt32 &&& 255))))]) := by
  refine Kv.of b0 (own := RX11) (nm := "tapeNumber") [(0, .ref q0), (1, .int x0)] rfl rfl (by decide +kernel) (Nat.le_of_ble_eq_true rfl) rfl ?_
  intro p e s m below meth c A C hr H locs w ls hl
  have hx := C.hx
  have hb := C.hb
  refine lv_bipush (v := 24) hx hb dX11_tapeNumber_0 (by decide) ?_
  refine lv_istore_n (lv' := [(2, .int 24), (0, .ref q0), (1, .int x0)]) hx hb dX11_tapeNumber_2 rfl hl (by decide) rfl (fun ls hl => ?_)
  refine lv_iload_n hx hb dX11_tapeNumber_3 rfl (lv_at hl 0 rfl) ?_
  refine lv_if_lt (tgt := 49) hx hb dX11_tapeNumber_4 (by decide) (fun h => absurd h (by decide)) (fun _ => ?_)
  refine lv_aload_n hx hb dX11_tapeNumber_7 rfl (lv_at hl 1 rfl) ?_
  refine r_get C w 0 rfl fr_X11_65 rfl dX11_tapeNumber_8 ?_
  refine lv_sipush (v := 600) hx hb dX11_tapeNumber_11 (by decide) ?_
  refine lv_icmp_ge (tgt := 49) hx hb dX11_tapeNumber_14 (by decide) (fun h => absurd h (by decide)) (fun _ => ?_)
  refine lv_aload_n hx hb dX11_tapeNumber_17 rfl (lv_at hl 1 rfl) ?_
  refine r_get C w 0 rfl fr_X11_9 rfl dX11_tapeNumber_18 ?_
  refine lv_aload_n hx hb dX11_tapeNumber_21 rfl (lv_at hl 1 rfl) ?_
  refine r_get C w 0 rfl fr_X11_65 rfl dX11_tapeNumber_22 ?_
  refine lv_iload_n hx hb dX11_tapeNumber_25 rfl (lv_at hl 2 rfl) ?_
  refine lv_iload_n hx hb dX11_tapeNumber_26 rfl (lv_at hl 0 rfl) ?_
  refine lv_iushr (v := (x0.toUInt32 >>> (Int32.toUInt32 24 &&& Int32.toUInt32 31)).toInt32) hx hb dX11_tapeNumber_27 rfl ?_
  refine lv_sipush (v := 255) hx hb dX11_tapeNumber_28 (by decide) ?_
  refine lv_iand hx hb dX11_tapeNumber_31 ?_
  refine r_iast C w 1 rfl (IX.of (k := 4) (by decide +kernel)) (g := (upd f0 4 ((x0.toUInt32 >>> (Int32.toUInt32 24 &&& Int32.toUInt32 31)).toInt32 &&& 255))) rfl dX11_tapeNumber_32 (ws2 := [(q0, .inr (11, [.ref q1, .ref q2, .ref q3, .ref q4, .ref q5, .ref q6, .ref q7, .ref q8, .ref q9, .ref q10, .int 4, .int (-1), .int 0, .int 0, .null, .null, .null, .null, .null])), (q1, .inl (G.2.1, 600, .inl (upd f0 4 ((x0.toUInt32 >>> (Int32.toUInt32 24 &&& Int32.toUInt32 31)).toInt32 &&& 255))))]) rfl (fun H locs w => ?_)
  refine lv_aload_n hx hb dX11_tapeNumber_33 rfl (lv_at hl 1 rfl) ?_
  refine lv_dup hx hb dX11_tapeNumber_34 rfl ?_
  refine r_get C w 0 rfl fr_X11_65 rfl dX11_tapeNumber_35 ?_
  refine lv_iconst (v := 1) hx hb dX11_tapeNumber_38 (by decide) ?_
  refine lv_iadd hx hb dX11_tapeNumber_39 ?_
  refine z_i (v := 5) (by decide +kernel) ?_
  refine r_put C w 0 rfl fl_X11_65 (Nat.le_of_ble_eq_true rfl) rfl rfl dX11_tapeNumber_40 (ws2 := [(q0, .inr (11, [.ref q1, .ref q2, .ref q3, .ref q4, .ref q5, .ref q6, .ref q7, .ref q8, .ref q9, .ref q10, .int 5, .int (-1), .int 0, .int 0, .null, .null, .null, .null, .null])), (q1, .inl (G.2.1, 600, .inl (upd f0 4 ((x0.toUInt32 >>> (Int32.toUInt32 24 &&& Int32.toUInt32 31)).toInt32 &&& 255))))]) rfl (fun H locs w => ?_)
  refine lv_iinc (v := 16) (lv' := [(2, .int 16), (0, .ref q0), (1, .int x0)]) hx hb dX11_tapeNumber_43 hl (k := 0) rfl (by decide +kernel) (by decide) rfl (fun ls hl => ?_)
  refine lv_goto (tgt := 3) hx hb dX11_tapeNumber_46 (by decide) ?_
  refine lv_iload_n hx hb dX11_tapeNumber_3 rfl (lv_at hl 0 rfl) ?_
  refine lv_if_lt (tgt := 49) hx hb dX11_tapeNumber_4 (by decide) (fun h => absurd h (by decide)) (fun _ => ?_)
  refine lv_aload_n hx hb dX11_tapeNumber_7 rfl (lv_at hl 1 rfl) ?_
  refine r_get C w 0 rfl fr_X11_65 rfl dX11_tapeNumber_8 ?_
  refine lv_sipush (v := 600) hx hb dX11_tapeNumber_11 (by decide) ?_
  refine lv_icmp_ge (tgt := 49) hx hb dX11_tapeNumber_14 (by decide) (fun h => absurd h (by decide)) (fun _ => ?_)
  refine lv_aload_n hx hb dX11_tapeNumber_17 rfl (lv_at hl 1 rfl) ?_
  refine r_get C w 0 rfl fr_X11_9 rfl dX11_tapeNumber_18 ?_
  refine lv_aload_n hx hb dX11_tapeNumber_21 rfl (lv_at hl 1 rfl) ?_
  refine r_get C w 0 rfl fr_X11_65 rfl dX11_tapeNumber_22 ?_
  refine lv_iload_n hx hb dX11_tapeNumber_25 rfl (lv_at hl 2 rfl) ?_
  refine lv_iload_n hx hb dX11_tapeNumber_26 rfl (lv_at hl 0 rfl) ?_
  refine lv_iushr (v := (x0.toUInt32 >>> (Int32.toUInt32 16 &&& Int32.toUInt32 31)).toInt32) hx hb dX11_tapeNumber_27 rfl ?_
  refine lv_sipush (v := 255) hx hb dX11_tapeNumber_28 (by decide) ?_
  refine lv_iand hx hb dX11_tapeNumber_31 ?_
  refine r_iast C w 1 rfl (IX.of (k := 5) (by decide +kernel)) (g := (upd (upd f0 4 ((x0.toUInt32 >>> (Int32.toUInt32 24 &&& Int32.toUInt32 31)).toInt32 &&& 255)) 5 ((x0.toUInt32 >>> (Int32.toUInt32 16 &&& Int32.toUInt32 31)).toInt32 &&& 255))) rfl dX11_tapeNumber_32 (ws2 := [(q0, .inr (11, [.ref q1, .ref q2, .ref q3, .ref q4, .ref q5, .ref q6, .ref q7, .ref q8, .ref q9, .ref q10, .int 5, .int (-1), .int 0, .int 0, .null, .null, .null, .null, .null])), (q1, .inl (G.2.1, 600, .inl (upd (upd f0 4 ((x0.toUInt32 >>> (Int32.toUInt32 24 &&& Int32.toUInt32 31)).toInt32 &&& 255)) 5 ((x0.toUInt32 >>> (Int32.toUInt32 16 &&& Int32.toUInt32 31)).toInt32 &&& 255))))]) rfl (fun H locs w => ?_)
  refine lv_aload_n hx hb dX11_tapeNumber_33 rfl (lv_at hl 1 rfl) ?_
  refine lv_dup hx hb dX11_tapeNumber_34 rfl ?_
  refine r_get C w 0 rfl fr_X11_65 rfl dX11_tapeNumber_35 ?_
  refine lv_iconst (v := 1) hx hb dX11_tapeNumber_38 (by decide) ?_
  refine lv_iadd hx hb dX11_tapeNumber_39 ?_
  refine z_i (v := 6) (by decide +kernel) ?_
  refine r_put C w 0 rfl fl_X11_65 (Nat.le_of_ble_eq_true rfl) rfl rfl dX11_tapeNumber_40 (ws2 := [(q0, .inr (11, [.ref q1, .ref q2, .ref q3, .ref q4, .ref q5, .ref q6, .ref q7, .ref q8, .ref q9, .ref q10, .int 6, .int (-1), .int 0, .int 0, .null, .null, .null, .null, .null])), (q1, .inl (G.2.1, 600, .inl (upd (upd f0 4 ((x0.toUInt32 >>> (Int32.toUInt32 24 &&& Int32.toUInt32 31)).toInt32 &&& 255)) 5 ((x0.toUInt32 >>> (Int32.toUInt32 16 &&& Int32.toUInt32 31)).toInt32 &&& 255))))]) rfl (fun H locs w => ?_)
  refine lv_iinc (v := 8) (lv' := [(2, .int 8), (0, .ref q0), (1, .int x0)]) hx hb dX11_tapeNumber_43 hl (k := 0) rfl (by decide +kernel) (by decide) rfl (fun ls hl => ?_)
  refine lv_goto (tgt := 3) hx hb dX11_tapeNumber_46 (by decide) ?_
  refine lv_iload_n hx hb dX11_tapeNumber_3 rfl (lv_at hl 0 rfl) ?_
  refine lv_if_lt (tgt := 49) hx hb dX11_tapeNumber_4 (by decide) (fun h => absurd h (by decide)) (fun _ => ?_)
  refine lv_aload_n hx hb dX11_tapeNumber_7 rfl (lv_at hl 1 rfl) ?_
  refine r_get C w 0 rfl fr_X11_65 rfl dX11_tapeNumber_8 ?_
  refine lv_sipush (v := 600) hx hb dX11_tapeNumber_11 (by decide) ?_
  refine lv_icmp_ge (tgt := 49) hx hb dX11_tapeNumber_14 (by decide) (fun h => absurd h (by decide)) (fun _ => ?_)
  refine lv_aload_n hx hb dX11_tapeNumber_17 rfl (lv_at hl 1 rfl) ?_
  refine r_get C w 0 rfl fr_X11_9 rfl dX11_tapeNumber_18 ?_
  refine lv_aload_n hx hb dX11_tapeNumber_21 rfl (lv_at hl 1 rfl) ?_
  refine r_get C w 0 rfl fr_X11_65 rfl dX11_tapeNumber_22 ?_
  refine lv_iload_n hx hb dX11_tapeNumber_25 rfl (lv_at hl 2 rfl) ?_
  refine lv_iload_n hx hb dX11_tapeNumber_26 rfl (lv_at hl 0 rfl) ?_
  refine lv_iushr (v := (x0.toUInt32 >>> (Int32.toUInt32 8 &&& Int32.toUInt32 31)).toInt32) hx hb dX11_tapeNumber_27 rfl ?_
  refine lv_sipush (v := 255) hx hb dX11_tapeNumber_28 (by decide) ?_
  refine lv_iand hx hb dX11_tapeNumber_31 ?_
  refine r_iast C w 1 rfl (IX.of (k := 6) (by decide +kernel)) (g := (upd (upd (upd f0 4 ((x0.toUInt32 >>> (Int32.toUInt32 24 &&& Int32.toUInt32 31)).toInt32 &&& 255)) 5 ((x0.toUInt32 >>> (Int32.toUInt32 16 &&& Int32.toUInt32 31)).toInt32 &&& 255)) 6 ((x0.toUInt32 >>> (Int32.toUInt32 8 &&& Int32.toUInt32 31)).toInt32 &&& 255))) rfl dX11_tapeNumber_32 (ws2 := [(q0, .inr (11, [.ref q1, .ref q2, .ref q3, .ref q4, .ref q5, .ref q6, .ref q7, .ref q8, .ref q9, .ref q10, .int 6, .int (-1), .int 0, .int 0, .null, .null, .null, .null, .null])), (q1, .inl (G.2.1, 600, .inl (upd (upd (upd f0 4 ((x0.toUInt32 >>> (Int32.toUInt32 24 &&& Int32.toUInt32 31)).toInt32 &&& 255)) 5 ((x0.toUInt32 >>> (Int32.toUInt32 16 &&& Int32.toUInt32 31)).toInt32 &&& 255)) 6 ((x0.toUInt32 >>> (Int32.toUInt32 8 &&& Int32.toUInt32 31)).toInt32 &&& 255))))]) rfl (fun H locs w => ?_)
  refine lv_aload_n hx hb dX11_tapeNumber_33 rfl (lv_at hl 1 rfl) ?_
  refine lv_dup hx hb dX11_tapeNumber_34 rfl ?_
  refine r_get C w 0 rfl fr_X11_65 rfl dX11_tapeNumber_35 ?_
  refine lv_iconst (v := 1) hx hb dX11_tapeNumber_38 (by decide) ?_
  refine lv_iadd hx hb dX11_tapeNumber_39 ?_
  refine z_i (v := 7) (by decide +kernel) ?_
  refine r_put C w 0 rfl fl_X11_65 (Nat.le_of_ble_eq_true rfl) rfl rfl dX11_tapeNumber_40 (ws2 := [(q0, .inr (11, [.ref q1, .ref q2, .ref q3, .ref q4, .ref q5, .ref q6, .ref q7, .ref q8, .ref q9, .ref q10, .int 7, .int (-1), .int 0, .int 0, .null, .null, .null, .null, .null])), (q1, .inl (G.2.1, 600, .inl (upd (upd (upd f0 4 ((x0.toUInt32 >>> (Int32.toUInt32 24 &&& Int32.toUInt32 31)).toInt32 &&& 255)) 5 ((x0.toUInt32 >>> (Int32.toUInt32 16 &&& Int32.toUInt32 31)).toInt32 &&& 255)) 6 ((x0.toUInt32 >>> (Int32.toUInt32 8 &&& Int32.toUInt32 31)).toInt32 &&& 255))))]) rfl (fun H locs w => ?_)
  refine lv_iinc (v := 0) (lv' := [(2, .int 0), (0, .ref q0), (1, .int x0)]) hx hb dX11_tapeNumber_43 hl (k := 0) rfl (by decide +kernel) (by decide) rfl (fun ls hl => ?_)
  refine lv_goto (tgt := 3) hx hb dX11_tapeNumber_46 (by decide) ?_
  refine lv_iload_n hx hb dX11_tapeNumber_3 rfl (lv_at hl 0 rfl) ?_
  refine lv_if_lt (tgt := 49) hx hb dX11_tapeNumber_4 (by decide) (fun h => absurd h (by decide)) (fun _ => ?_)
  refine lv_aload_n hx hb dX11_tapeNumber_7 rfl (lv_at hl 1 rfl) ?_
  refine r_get C w 0 rfl fr_X11_65 rfl dX11_tapeNumber_8 ?_
  refine lv_sipush (v := 600) hx hb dX11_tapeNumber_11 (by decide) ?_
  refine lv_icmp_ge (tgt := 49) hx hb dX11_tapeNumber_14 (by decide) (fun h => absurd h (by decide)) (fun _ => ?_)
  refine lv_aload_n hx hb dX11_tapeNumber_17 rfl (lv_at hl 1 rfl) ?_
  refine r_get C w 0 rfl fr_X11_9 rfl dX11_tapeNumber_18 ?_
  refine lv_aload_n hx hb dX11_tapeNumber_21 rfl (lv_at hl 1 rfl) ?_
  refine r_get C w 0 rfl fr_X11_65 rfl dX11_tapeNumber_22 ?_
  refine lv_iload_n hx hb dX11_tapeNumber_25 rfl (lv_at hl 2 rfl) ?_
  refine lv_iload_n hx hb dX11_tapeNumber_26 rfl (lv_at hl 0 rfl) ?_
  refine lv_iushr (v := (x0.toUInt32 >>> (Int32.toUInt32 0 &&& Int32.toUInt32 31)).toInt32) hx hb dX11_tapeNumber_27 rfl ?_
  refine lv_sipush (v := 255) hx hb dX11_tapeNumber_28 (by decide) ?_
  refine lv_iand hx hb dX11_tapeNumber_31 ?_
  refine r_iast C w 1 rfl (IX.of (k := 7) (by decide +kernel)) (g := (upd (upd (upd (upd f0 4 ((x0.toUInt32 >>> (Int32.toUInt32 24 &&& Int32.toUInt32 31)).toInt32 &&& 255)) 5 ((x0.toUInt32 >>> (Int32.toUInt32 16 &&& Int32.toUInt32 31)).toInt32 &&& 255)) 6 ((x0.toUInt32 >>> (Int32.toUInt32 8 &&& Int32.toUInt32 31)).toInt32 &&& 255)) 7 ((x0.toUInt32 >>> (Int32.toUInt32 0 &&& Int32.toUInt32 31)).toInt32 &&& 255))) rfl dX11_tapeNumber_32 (ws2 := [(q0, .inr (11, [.ref q1, .ref q2, .ref q3, .ref q4, .ref q5, .ref q6, .ref q7, .ref q8, .ref q9, .ref q10, .int 7, .int (-1), .int 0, .int 0, .null, .null, .null, .null, .null])), (q1, .inl (G.2.1, 600, .inl (upd (upd (upd (upd f0 4 ((x0.toUInt32 >>> (Int32.toUInt32 24 &&& Int32.toUInt32 31)).toInt32 &&& 255)) 5 ((x0.toUInt32 >>> (Int32.toUInt32 16 &&& Int32.toUInt32 31)).toInt32 &&& 255)) 6 ((x0.toUInt32 >>> (Int32.toUInt32 8 &&& Int32.toUInt32 31)).toInt32 &&& 255)) 7 ((x0.toUInt32 >>> (Int32.toUInt32 0 &&& Int32.toUInt32 31)).toInt32 &&& 255))))]) rfl (fun H locs w => ?_)
  refine lv_aload_n hx hb dX11_tapeNumber_33 rfl (lv_at hl 1 rfl) ?_
  refine lv_dup hx hb dX11_tapeNumber_34 rfl ?_
  refine r_get C w 0 rfl fr_X11_65 rfl dX11_tapeNumber_35 ?_
  refine lv_iconst (v := 1) hx hb dX11_tapeNumber_38 (by decide) ?_
  refine lv_iadd hx hb dX11_tapeNumber_39 ?_
  refine z_i (v := 8) (by decide +kernel) ?_
  refine r_put C w 0 rfl fl_X11_65 (Nat.le_of_ble_eq_true rfl) rfl rfl dX11_tapeNumber_40 (ws2 := [(q0, .inr (11, [.ref q1, .ref q2, .ref q3, .ref q4, .ref q5, .ref q6, .ref q7, .ref q8, .ref q9, .ref q10, .int 8, .int (-1), .int 0, .int 0, .null, .null, .null, .null, .null])), (q1, .inl (G.2.1, 600, .inl (upd (upd (upd (upd f0 4 ((x0.toUInt32 >>> (Int32.toUInt32 24 &&& Int32.toUInt32 31)).toInt32 &&& 255)) 5 ((x0.toUInt32 >>> (Int32.toUInt32 16 &&& Int32.toUInt32 31)).toInt32 &&& 255)) 6 ((x0.toUInt32 >>> (Int32.toUInt32 8 &&& Int32.toUInt32 31)).toInt32 &&& 255)) 7 ((x0.toUInt32 >>> (Int32.toUInt32 0 &&& Int32.toUInt32 31)).toInt32 &&& 255))))]) rfl (fun H locs w => ?_)
  refine lv_iinc (v := (-8)) (lv' := [(2, .int (-8)), (0, .ref q0), (1, .int x0)]) hx hb dX11_tapeNumber_43 hl (k := 0) rfl (by decide +kernel) (by decide) rfl (fun ls hl => ?_)
  refine lv_goto (tgt := 3) hx hb dX11_tapeNumber_46 (by decide) ?_
  refine lv_iload_n hx hb dX11_tapeNumber_3 rfl (lv_at hl 0 rfl) ?_
  refine lv_if_lt (tgt := 49) hx hb dX11_tapeNumber_4 (by decide) (fun _ => ?_) (fun h => absurd (by decide) h)
  exact e_v C hr w (fun _ => 0) [0, 1] rfl rfl dX11_tapeNumber_49 (by decide) (by decide)
set_option maxRecDepth 100000 in
set_option maxHeartbeats 4000000 in
theorem k10_tapeNumber {l : Launch} {s0 : State} {a0 : Array Value} {G : GT} (b0 : B0 l s0 a0 G) (q0 q1 q2 q3 q4 q5 q6 q7 q8 q9 q10 : Nat) (x0 : Int32) (f0 : Nat → Int32) (sz : Nat) : Kv l s0 G yX11_tapeNumber cX11_tapeNumber 3 none { frames := 0, cells := 0, slots := 0, locals := 0 } [.ref q0, .int x0] [(q0, .inr (11, [.ref q1, .ref q2, .ref q3, .ref q4, .ref q5, .ref q6, .ref q7, .ref q8, .ref q9, .ref q10, .int 8, .int (-1), .int 0, .int 0, .null, .null, .null, .null, .null])), (q1, .inl (G.2.1, 600, .inl f0))] sz (fun u => [(q0, .inr (11, [.ref q1, .ref q2, .ref q3, .ref q4, .ref q5, .ref q6, .ref q7, .ref q8, .ref q9, .ref q10, .int 12, .int (-1), .int 0, .int 0, .null, .null, .null, .null, .null])), (q1, .inl (G.2.1, 600, .inl (upd (upd (upd (upd f0 8 ((x0.toUInt32 >>> (Int32.toUInt32 24 &&& Int32.toUInt32 31)).toInt32 &&& 255)) 9 ((x0.toUInt32 >>> (Int32.toUInt32 16 &&& Int32.toUInt32 31)).toInt32 &&& 255)) 10 ((x0.toUInt32 >>> (Int32.toUInt32 8 &&& Int32.toUInt32 31)).toInt32 &&& 255)) 11 ((x0.toUInt32 >>> (Int32.toUInt32 0 &&& Int32.toUInt32 31)).toInt32 &&& 255))))]) := by
  refine Kv.of b0 (own := RX11) (nm := "tapeNumber") [(0, .ref q0), (1, .int x0)] rfl rfl (by decide +kernel) (Nat.le_of_ble_eq_true rfl) rfl ?_
  intro p e s m below meth c A C hr H locs w ls hl
  have hx := C.hx
  have hb := C.hb
  refine lv_bipush (v := 24) hx hb dX11_tapeNumber_0 (by decide) ?_
  refine lv_istore_n (lv' := [(2, .int 24), (0, .ref q0), (1, .int x0)]) hx hb dX11_tapeNumber_2 rfl hl (by decide) rfl (fun ls hl => ?_)
  refine lv_iload_n hx hb dX11_tapeNumber_3 rfl (lv_at hl 0 rfl) ?_
  refine lv_if_lt (tgt := 49) hx hb dX11_tapeNumber_4 (by decide) (fun h => absurd h (by decide)) (fun _ => ?_)
  refine lv_aload_n hx hb dX11_tapeNumber_7 rfl (lv_at hl 1 rfl) ?_
  refine r_get C w 0 rfl fr_X11_65 rfl dX11_tapeNumber_8 ?_
  refine lv_sipush (v := 600) hx hb dX11_tapeNumber_11 (by decide) ?_
  refine lv_icmp_ge (tgt := 49) hx hb dX11_tapeNumber_14 (by decide) (fun h => absurd h (by decide)) (fun _ => ?_)
  refine lv_aload_n hx hb dX11_tapeNumber_17 rfl (lv_at hl 1 rfl) ?_
  refine r_get C w 0 rfl fr_X11_9 rfl dX11_tapeNumber_18 ?_
  refine lv_aload_n hx hb dX11_tapeNumber_21 rfl (lv_at hl 1 rfl) ?_
  refine r_get C w 0 rfl fr_X11_65 rfl dX11_tapeNumber_22 ?_
  refine lv_iload_n hx hb dX11_tapeNumber_25 rfl (lv_at hl 2 rfl) ?_
  refine lv_iload_n hx hb dX11_tapeNumber_26 rfl (lv_at hl 0 rfl) ?_
  refine lv_iushr (v := (x0.toUInt32 >>> (Int32.toUInt32 24 &&& Int32.toUInt32 31)).toInt32) hx hb dX11_tapeNumber_27 rfl ?_
  refine lv_sipush (v := 255) hx hb dX11_tapeNumber_28 (by decide) ?_
  refine lv_iand hx hb dX11_tapeNumber_31 ?_
  refine r_iast C w 1 rfl (IX.of (k := 8) (by decide +kernel)) (g := (upd f0 8 ((x0.toUInt32 >>> (Int32.toUInt32 24 &&& Int32.toUInt32 31)).toInt32 &&& 255))) rfl dX11_tapeNumber_32 (ws2 := [(q0, .inr (11, [.ref q1, .ref q2, .ref q3, .ref q4, .ref q5, .ref q6, .ref q7, .ref q8, .ref q9, .ref q10, .int 8, .int (-1), .int 0, .int 0, .null, .null, .null, .null, .null])), (q1, .inl (G.2.1, 600, .inl (upd f0 8 ((x0.toUInt32 >>> (Int32.toUInt32 24 &&& Int32.toUInt32 31)).toInt32 &&& 255))))]) rfl (fun H locs w => ?_)
  refine lv_aload_n hx hb dX11_tapeNumber_33 rfl (lv_at hl 1 rfl) ?_
  refine lv_dup hx hb dX11_tapeNumber_34 rfl ?_
  refine r_get C w 0 rfl fr_X11_65 rfl dX11_tapeNumber_35 ?_
  refine lv_iconst (v := 1) hx hb dX11_tapeNumber_38 (by decide) ?_
  refine lv_iadd hx hb dX11_tapeNumber_39 ?_
  refine z_i (v := 9) (by decide +kernel) ?_
  refine r_put C w 0 rfl fl_X11_65 (Nat.le_of_ble_eq_true rfl) rfl rfl dX11_tapeNumber_40 (ws2 := [(q0, .inr (11, [.ref q1, .ref q2, .ref q3, .ref q4, .ref q5, .ref q6, .ref q7, .ref q8, .ref q9, .ref q10, .int 9, .int (-1), .int 0, .int 0, .null, .null, .null, .null, .null])), (q1, .inl (G.2.1, 600, .inl (upd f0 8 ((x0.toUInt32 >>> (Int32.toUInt32 24 &&& Int32.toUInt32 31)).toInt32 &&& 255))))]) rfl (fun H locs w => ?_)
  refine lv_iinc (v := 16) (lv' := [(2, .int 16), (0, .ref q0), (1, .int x0)]) hx hb dX11_tapeNumber_43 hl (k := 0) rfl (by decide +kernel) (by decide) rfl (fun ls hl => ?_)
  refine lv_goto (tgt := 3) hx hb dX11_tapeNumber_46 (by decide) ?_
  refine lv_iload_n hx hb dX11_tapeNumber_3 rfl (lv_at hl 0 rfl) ?_
  refine lv_if_lt (tgt := 49) hx hb dX11_tapeNumber_4 (by decide) (fun h => absurd h (by decide)) (fun _ => ?_)
  refine lv_aload_n hx hb dX11_tapeNumber_7 rfl (lv_at hl 1 rfl) ?_
  refine r_get C w 0 rfl fr_X11_65 rfl dX11_tapeNumber_8 ?_
  refine lv_sipush (v := 600) hx hb dX11_tapeNumber_11 (by decide) ?_
  refine lv_icmp_ge (tgt := 49) hx hb dX11_tapeNumber_14 (by decide) (fun h => absurd h (by decide)) (fun _ => ?_)
  refine lv_aload_n hx hb dX11_tapeNumber_17 rfl (lv_at hl 1 rfl) ?_
  refine r_get C w 0 rfl fr_X11_9 rfl dX11_tapeNumber_18 ?_
  refine lv_aload_n hx hb dX11_tapeNumber_21 rfl (lv_at hl 1 rfl) ?_
  refine r_get C w 0 rfl fr_X11_65 rfl dX11_tapeNumber_22 ?_
  refine lv_iload_n hx hb dX11_tapeNumber_25 rfl (lv_at hl 2 rfl) ?_
  refine lv_iload_n hx hb dX11_tapeNumber_26 rfl (lv_at hl 0 rfl) ?_
  refine lv_iushr (v := (x0.toUInt32 >>> (Int32.toUInt32 16 &&& Int32.toUInt32 31)).toInt32) hx hb dX11_tapeNumber_27 rfl ?_
  refine lv_sipush (v := 255) hx hb dX11_tapeNumber_28 (by decide) ?_
  refine lv_iand hx hb dX11_tapeNumber_31 ?_
  refine r_iast C w 1 rfl (IX.of (k := 9) (by decide +kernel)) (g := (upd (upd f0 8 ((x0.toUInt32 >>> (Int32.toUInt32 24 &&& Int32.toUInt32 31)).toInt32 &&& 255)) 9 ((x0.toUInt32 >>> (Int32.toUInt32 16 &&& Int32.toUInt32 31)).toInt32 &&& 255))) rfl dX11_tapeNumber_32 (ws2 := [(q0, .inr (11, [.ref q1, .ref q2, .ref q3, .ref q4, .ref q5, .ref q6, .ref q7, .ref q8, .ref q9, .ref q10, .int 9, .int (-1), .int 0, .int 0, .null, .null, .null, .null, .null])), (q1, .inl (G.2.1, 600, .inl (upd (upd f0 8 ((x0.toUInt32 >>> (Int32.toUInt32 24 &&& Int32.toUInt32 31)).toInt32 &&& 255)) 9 ((x0.toUInt32 >>> (Int32.toUInt32 16 &&& Int32.toUInt32 31)).toInt32 &&& 255))))]) rfl (fun H locs w => ?_)
  refine lv_aload_n hx hb dX11_tapeNumber_33 rfl (lv_at hl 1 rfl) ?_
  refine lv_dup hx hb dX11_tapeNumber_34 rfl ?_
  refine r_get C w 0 rfl fr_X11_65 rfl dX11_tapeNumber_35 ?_
  refine lv_iconst (v := 1) hx hb dX11_tapeNumber_38 (by decide) ?_
  refine lv_iadd hx hb dX11_tapeNumber_39 ?_
  refine z_i (v := 10) (by decide +kernel) ?_
  refine r_put C w 0 rfl fl_X11_65 (Nat.le_of_ble_eq_true rfl) rfl rfl dX11_tapeNumber_40 (ws2 := [(q0, .inr (11, [.ref q1, .ref q2, .ref q3, .ref q4, .ref q5, .ref q6, .ref q7, .ref q8, .ref q9, .ref q10, .int 10, .int (-1), .int 0, .int 0, .null, .null, .null, .null, .null])), (q1, .inl (G.2.1, 600, .inl (upd (upd f0 8 ((x0.toUInt32 >>> (Int32.toUInt32 24 &&& Int32.toUInt32 31)).toInt32 &&& 255)) 9 ((x0.toUInt32 >>> (Int32.toUInt32 16 &&& Int32.toUInt32 31)).toInt32 &&& 255))))]) rfl (fun H locs w => ?_)
  refine lv_iinc (v := 8) (lv' := [(2, .int 8), (0, .ref q0), (1, .int x0)]) hx hb dX11_tapeNumber_43 hl (k := 0) rfl (by decide +kernel) (by decide) rfl (fun ls hl => ?_)
  refine lv_goto (tgt := 3) hx hb dX11_tapeNumber_46 (by decide) ?_
  refine lv_iload_n hx hb dX11_tapeNumber_3 rfl (lv_at hl 0 rfl) ?_
  refine lv_if_lt (tgt := 49) hx hb dX11_tapeNumber_4 (by decide) (fun h => absurd h (by decide)) (fun _ => ?_)
  refine lv_aload_n hx hb dX11_tapeNumber_7 rfl (lv_at hl 1 rfl) ?_
  refine r_get C w 0 rfl fr_X11_65 rfl dX11_tapeNumber_8 ?_
  refine lv_sipush (v := 600) hx hb dX11_tapeNumber_11 (by decide) ?_
  refine lv_icmp_ge (tgt := 49) hx hb dX11_tapeNumber_14 (by decide) (fun h => absurd h (by decide)) (fun _ => ?_)
  refine lv_aload_n hx hb dX11_tapeNumber_17 rfl (lv_at hl 1 rfl) ?_
  refine r_get C w 0 rfl fr_X11_9 rfl dX11_tapeNumber_18 ?_
  refine lv_aload_n hx hb dX11_tapeNumber_21 rfl (lv_at hl 1 rfl) ?_
  refine r_get C w 0 rfl fr_X11_65 rfl dX11_tapeNumber_22 ?_
  refine lv_iload_n hx hb dX11_tapeNumber_25 rfl (lv_at hl 2 rfl) ?_
  refine lv_iload_n hx hb dX11_tapeNumber_26 rfl (lv_at hl 0 rfl) ?_
  refine lv_iushr (v := (x0.toUInt32 >>> (Int32.toUInt32 8 &&& Int32.toUInt32 31)).toInt32) hx hb dX11_tapeNumber_27 rfl ?_
  refine lv_sipush (v := 255) hx hb dX11_tapeNumber_28 (by decide) ?_
  refine lv_iand hx hb dX11_tapeNumber_31 ?_
  refine r_iast C w 1 rfl (IX.of (k := 10) (by decide +kernel)) (g := (upd (upd (upd f0 8 ((x0.toUInt32 >>> (Int32.toUInt32 24 &&& Int32.toUInt32 31)).toInt32 &&& 255)) 9 ((x0.toUInt32 >>> (Int32.toUInt32 16 &&& Int32.toUInt32 31)).toInt32 &&& 255)) 10 ((x0.toUInt32 >>> (Int32.toUInt32 8 &&& Int32.toUInt32 31)).toInt32 &&& 255))) rfl dX11_tapeNumber_32 (ws2 := [(q0, .inr (11, [.ref q1, .ref q2, .ref q3, .ref q4, .ref q5, .ref q6, .ref q7, .ref q8, .ref q9, .ref q10, .int 10, .int (-1), .int 0, .int 0, .null, .null, .null, .null, .null])), (q1, .inl (G.2.1, 600, .inl (upd (upd (upd f0 8 ((x0.toUInt32 >>> (Int32.toUInt32 24 &&& Int32.toUInt32 31)).toInt32 &&& 255)) 9 ((x0.toUInt32 >>> (Int32.toUInt32 16 &&& Int32.toUInt32 31)).toInt32 &&& 255)) 10 ((x0.toUInt32 >>> (Int32.toUInt32 8 &&& Int32.toUInt32 31)).toInt32 &&& 255))))]) rfl (fun H locs w => ?_)
  refine lv_aload_n hx hb dX11_tapeNumber_33 rfl (lv_at hl 1 rfl) ?_
  refine lv_dup hx hb dX11_tapeNumber_34 rfl ?_
  refine r_get C w 0 rfl fr_X11_65 rfl dX11_tapeNumber_35 ?_
  refine lv_iconst (v := 1) hx hb dX11_tapeNumber_38 (by decide) ?_
  refine lv_iadd hx hb dX11_tapeNumber_39 ?_
  refine z_i (v := 11) (by decide +kernel) ?_
  refine r_put C w 0 rfl fl_X11_65 (Nat.le_of_ble_eq_true rfl) rfl rfl dX11_tapeNumber_40 (ws2 := [(q0, .inr (11, [.ref q1, .ref q2, .ref q3, .ref q4, .ref q5, .ref q6, .ref q7, .ref q8, .ref q9, .ref q10, .int 11, .int (-1), .int 0, .int 0, .null, .null, .null, .null, .null])), (q1, .inl (G.2.1, 600, .inl (upd (upd (upd f0 8 ((x0.toUInt32 >>> (Int32.toUInt32 24 &&& Int32.toUInt32 31)).toInt32 &&& 255)) 9 ((x0.toUInt32 >>> (Int32.toUInt32 16 &&& Int32.toUInt32 31)).toInt32 &&& 255)) 10 ((x0.toUInt32 >>> (Int32.toUInt32 8 &&& Int32.toUInt32 31)).toInt32 &&& 255))))]) rfl (fun H locs w => ?_)
  refine lv_iinc (v := 0) (lv' := [(2, .int 0), (0, .ref q0), (1, .int x0)]) hx hb dX11_tapeNumber_43 hl (k := 0) rfl (by decide +kernel) (by decide) rfl (fun ls hl => ?_)
  refine lv_goto (tgt := 3) hx hb dX11_tapeNumber_46 (by decide) ?_
  refine lv_iload_n hx hb dX11_tapeNumber_3 rfl (lv_at hl 0 rfl) ?_
  refine lv_if_lt (tgt := 49) hx hb dX11_tapeNumber_4 (by decide) (fun h => absurd h (by decide)) (fun _ => ?_)
  refine lv_aload_n hx hb dX11_tapeNumber_7 rfl (lv_at hl 1 rfl) ?_
  refine r_get C w 0 rfl fr_X11_65 rfl dX11_tapeNumber_8 ?_
  refine lv_sipush (v := 600) hx hb dX11_tapeNumber_11 (by decide) ?_
  refine lv_icmp_ge (tgt := 49) hx hb dX11_tapeNumber_14 (by decide) (fun h => absurd h (by decide)) (fun _ => ?_)
  refine lv_aload_n hx hb dX11_tapeNumber_17 rfl (lv_at hl 1 rfl) ?_
  refine r_get C w 0 rfl fr_X11_9 rfl dX11_tapeNumber_18 ?_
  refine lv_aload_n hx hb dX11_tapeNumber_21 rfl (lv_at hl 1 rfl) ?_
  refine r_get C w 0 rfl fr_X11_65 rfl dX11_tapeNumber_22 ?_
  refine lv_iload_n hx hb dX11_tapeNumber_25 rfl (lv_at hl 2 rfl) ?_
  refine lv_iload_n hx hb dX11_tapeNumber_26 rfl (lv_at hl 0 rfl) ?_
  refine lv_iushr (v := (x0.toUInt32 >>> (Int32.toUInt32 0 &&& Int32.toUInt32 31)).toInt32) hx hb dX11_tapeNumber_27 rfl ?_
  refine lv_sipush (v := 255) hx hb dX11_tapeNumber_28 (by decide) ?_
  refine lv_iand hx hb dX11_tapeNumber_31 ?_
  refine r_iast C w 1 rfl (IX.of (k := 11) (by decide +kernel)) (g := (upd (upd (upd (upd f0 8 ((x0.toUInt32 >>> (Int32.toUInt32 24 &&& Int32.toUInt32 31)).toInt32 &&& 255)) 9 ((x0.toUInt32 >>> (Int32.toUInt32 16 &&& Int32.toUInt32 31)).toInt32 &&& 255)) 10 ((x0.toUInt32 >>> (Int32.toUInt32 8 &&& Int32.toUInt32 31)).toInt32 &&& 255)) 11 ((x0.toUInt32 >>> (Int32.toUInt32 0 &&& Int32.toUInt32 31)).toInt32 &&& 255))) rfl dX11_tapeNumber_32 (ws2 := [(q0, .inr (11, [.ref q1, .ref q2, .ref q3, .ref q4, .ref q5, .ref q6, .ref q7, .ref q8, .ref q9, .ref q10, .int 11, .int (-1), .int 0, .int 0, .null, .null, .null, .null, .null])), (q1, .inl (G.2.1, 600, .inl (upd (upd (upd (upd f0 8 ((x0.toUInt32 >>> (Int32.toUInt32 24 &&& Int32.toUInt32 31)).toInt32 &&& 255)) 9 ((x0.toUInt32 >>> (Int32.toUInt32 16 &&& Int32.toUInt32 31)).toInt32 &&& 255)) 10 ((x0.toUInt32 >>> (Int32.toUInt32 8 &&& Int32.toUInt32 31)).toInt32 &&& 255)) 11 ((x0.toUInt32 >>> (Int32.toUInt32 0 &&& Int32.toUInt32 31)).toInt32 &&& 255))))]) rfl (fun H locs w => ?_)
  refine lv_aload_n hx hb dX11_tapeNumber_33 rfl (lv_at hl 1 rfl) ?_
  refine lv_dup hx hb dX11_tapeNumber_34 rfl ?_
  refine r_get C w 0 rfl fr_X11_65 rfl dX11_tapeNumber_35 ?_
  refine lv_iconst (v := 1) hx hb dX11_tapeNumber_38 (by decide) ?_
  refine lv_iadd hx hb dX11_tapeNumber_39 ?_
  refine z_i (v := 12) (by decide +kernel) ?_
  refine r_put C w 0 rfl fl_X11_65 (Nat.le_of_ble_eq_true rfl) rfl rfl dX11_tapeNumber_40 (ws2 := [(q0, .inr (11, [.ref q1, .ref q2, .ref q3, .ref q4, .ref q5, .ref q6, .ref q7, .ref q8, .ref q9, .ref q10, .int 12, .int (-1), .int 0, .int 0, .null, .null, .null, .null, .null])), (q1, .inl (G.2.1, 600, .inl (upd (upd (upd (upd f0 8 ((x0.toUInt32 >>> (Int32.toUInt32 24 &&& Int32.toUInt32 31)).toInt32 &&& 255)) 9 ((x0.toUInt32 >>> (Int32.toUInt32 16 &&& Int32.toUInt32 31)).toInt32 &&& 255)) 10 ((x0.toUInt32 >>> (Int32.toUInt32 8 &&& Int32.toUInt32 31)).toInt32 &&& 255)) 11 ((x0.toUInt32 >>> (Int32.toUInt32 0 &&& Int32.toUInt32 31)).toInt32 &&& 255))))]) rfl (fun H locs w => ?_)
  refine lv_iinc (v := (-8)) (lv' := [(2, .int (-8)), (0, .ref q0), (1, .int x0)]) hx hb dX11_tapeNumber_43 hl (k := 0) rfl (by decide +kernel) (by decide) rfl (fun ls hl => ?_)
  refine lv_goto (tgt := 3) hx hb dX11_tapeNumber_46 (by decide) ?_
  refine lv_iload_n hx hb dX11_tapeNumber_3 rfl (lv_at hl 0 rfl) ?_
  refine lv_if_lt (tgt := 49) hx hb dX11_tapeNumber_4 (by decide) (fun _ => ?_) (fun h => absurd (by decide) h)
  exact e_v C hr w (fun _ => 0) [0, 1] rfl rfl dX11_tapeNumber_49 (by decide) (by decide)
set_option maxRecDepth 100000 in
set_option maxHeartbeats 4000000 in
theorem k11_tapeNumber {l : Launch} {s0 : State} {a0 : Array Value} {G : GT} (b0 : B0 l s0 a0 G) (q0 q1 q2 q3 q4 q5 q6 q7 q8 q9 q10 : Nat) (x0 : Int32) (f0 : Nat → Int32) (sz : Nat) : Kv l s0 G yX11_tapeNumber cX11_tapeNumber 3 none { frames := 0, cells := 0, slots := 0, locals := 0 } [.ref q0, .int x0] [(q0, .inr (11, [.ref q1, .ref q2, .ref q3, .ref q4, .ref q5, .ref q6, .ref q7, .ref q8, .ref q9, .ref q10, .int 12, .int (-1), .int 0, .int 0, .null, .null, .null, .null, .null])), (q1, .inl (G.2.1, 600, .inl f0))] sz (fun u => [(q0, .inr (11, [.ref q1, .ref q2, .ref q3, .ref q4, .ref q5, .ref q6, .ref q7, .ref q8, .ref q9, .ref q10, .int 16, .int (-1), .int 0, .int 0, .null, .null, .null, .null, .null])), (q1, .inl (G.2.1, 600, .inl (upd (upd (upd (upd f0 12 ((x0.toUInt32 >>> (Int32.toUInt32 24 &&& Int32.toUInt32 31)).toInt32 &&& 255)) 13 ((x0.toUInt32 >>> (Int32.toUInt32 16 &&& Int32.toUInt32 31)).toInt32 &&& 255)) 14 ((x0.toUInt32 >>> (Int32.toUInt32 8 &&& Int32.toUInt32 31)).toInt32 &&& 255)) 15 ((x0.toUInt32 >>> (Int32.toUInt32 0 &&& Int32.toUInt32 31)).toInt32 &&& 255))))]) := by
  refine Kv.of b0 (own := RX11) (nm := "tapeNumber") [(0, .ref q0), (1, .int x0)] rfl rfl (by decide +kernel) (Nat.le_of_ble_eq_true rfl) rfl ?_
  intro p e s m below meth c A C hr H locs w ls hl
  have hx := C.hx
  have hb := C.hb
  refine lv_bipush (v := 24) hx hb dX11_tapeNumber_0 (by decide) ?_
  refine lv_istore_n (lv' := [(2, .int 24), (0, .ref q0), (1, .int x0)]) hx hb dX11_tapeNumber_2 rfl hl (by decide) rfl (fun ls hl => ?_)
  refine lv_iload_n hx hb dX11_tapeNumber_3 rfl (lv_at hl 0 rfl) ?_
  refine lv_if_lt (tgt := 49) hx hb dX11_tapeNumber_4 (by decide) (fun h => absurd h (by decide)) (fun _ => ?_)
  refine lv_aload_n hx hb dX11_tapeNumber_7 rfl (lv_at hl 1 rfl) ?_
  refine r_get C w 0 rfl fr_X11_65 rfl dX11_tapeNumber_8 ?_
  refine lv_sipush (v := 600) hx hb dX11_tapeNumber_11 (by decide) ?_
  refine lv_icmp_ge (tgt := 49) hx hb dX11_tapeNumber_14 (by decide) (fun h => absurd h (by decide)) (fun _ => ?_)
  refine lv_aload_n hx hb dX11_tapeNumber_17 rfl (lv_at hl 1 rfl) ?_
  refine r_get C w 0 rfl fr_X11_9 rfl dX11_tapeNumber_18 ?_
  refine lv_aload_n hx hb dX11_tapeNumber_21 rfl (lv_at hl 1 rfl) ?_
  refine r_get C w 0 rfl fr_X11_65 rfl dX11_tapeNumber_22 ?_
  refine lv_iload_n hx hb dX11_tapeNumber_25 rfl (lv_at hl 2 rfl) ?_
  refine lv_iload_n hx hb dX11_tapeNumber_26 rfl (lv_at hl 0 rfl) ?_
  refine lv_iushr (v := (x0.toUInt32 >>> (Int32.toUInt32 24 &&& Int32.toUInt32 31)).toInt32) hx hb dX11_tapeNumber_27 rfl ?_
  refine lv_sipush (v := 255) hx hb dX11_tapeNumber_28 (by decide) ?_
  refine lv_iand hx hb dX11_tapeNumber_31 ?_
  refine r_iast C w 1 rfl (IX.of (k := 12) (by decide +kernel)) (g := (upd f0 12 ((x0.toUInt32 >>> (Int32.toUInt32 24 &&& Int32.toUInt32 31)).toInt32 &&& 255))) rfl dX11_tapeNumber_32 (ws2 := [(q0, .inr (11, [.ref q1, .ref q2, .ref q3, .ref q4, .ref q5, .ref q6, .ref q7, .ref q8, .ref q9, .ref q10, .int 12, .int (-1), .int 0, .int 0, .null, .null, .null, .null, .null])), (q1, .inl (G.2.1, 600, .inl (upd f0 12 ((x0.toUInt32 >>> (Int32.toUInt32 24 &&& Int32.toUInt32 31)).toInt32 &&& 255))))]) rfl (fun H locs w => ?_)
  refine lv_aload_n hx hb dX11_tapeNumber_33 rfl (lv_at hl 1 rfl) ?_
  refine lv_dup hx hb dX11_tapeNumber_34 rfl ?_
  refine r_get C w 0 rfl fr_X11_65 rfl dX11_tapeNumber_35 ?_
  refine lv_iconst (v := 1) hx hb dX11_tapeNumber_38 (by decide) ?_
  refine lv_iadd hx hb dX11_tapeNumber_39 ?_
  refine z_i (v := 13) (by decide +kernel) ?_
  refine r_put C w 0 rfl fl_X11_65 (Nat.le_of_ble_eq_true rfl) rfl rfl dX11_tapeNumber_40 (ws2 := [(q0, .inr (11, [.ref q1, .ref q2, .ref q3, .ref q4, .ref q5, .ref q6, .ref q7, .ref q8, .ref q9, .ref q10, .int 13, .int (-1), .int 0, .int 0, .null, .null, .null, .null, .null])), (q1, .inl (G.2.1, 600, .inl (upd f0 12 ((x0.toUInt32 >>> (Int32.toUInt32 24 &&& Int32.toUInt32 31)).toInt32 &&& 255))))]) rfl (fun H locs w => ?_)
  refine lv_iinc (v := 16) (lv' := [(2, .int 16), (0, .ref q0), (1, .int x0)]) hx hb dX11_tapeNumber_43 hl (k := 0) rfl (by decide +kernel) (by decide) rfl (fun ls hl => ?_)
  refine lv_goto (tgt := 3) hx hb dX11_tapeNumber_46 (by decide) ?_
  refine lv_iload_n hx hb dX11_tapeNumber_3 rfl (lv_at hl 0 rfl) ?_
  refine lv_if_lt (tgt := 49) hx hb dX11_tapeNumber_4 (by decide) (fun h => absurd h (by decide)) (fun _ => ?_)
  refine lv_aload_n hx hb dX11_tapeNumber_7 rfl (lv_at hl 1 rfl) ?_
  refine r_get C w 0 rfl fr_X11_65 rfl dX11_tapeNumber_8 ?_
  refine lv_sipush (v := 600) hx hb dX11_tapeNumber_11 (by decide) ?_
  refine lv_icmp_ge (tgt := 49) hx hb dX11_tapeNumber_14 (by decide) (fun h => absurd h (by decide)) (fun _ => ?_)
  refine lv_aload_n hx hb dX11_tapeNumber_17 rfl (lv_at hl 1 rfl) ?_
  refine r_get C w 0 rfl fr_X11_9 rfl dX11_tapeNumber_18 ?_
  refine lv_aload_n hx hb dX11_tapeNumber_21 rfl (lv_at hl 1 rfl) ?_
  refine r_get C w 0 rfl fr_X11_65 rfl dX11_tapeNumber_22 ?_
  refine lv_iload_n hx hb dX11_tapeNumber_25 rfl (lv_at hl 2 rfl) ?_
  refine lv_iload_n hx hb dX11_tapeNumber_26 rfl (lv_at hl 0 rfl) ?_
  refine lv_iushr (v := (x0.toUInt32 >>> (Int32.toUInt32 16 &&& Int32.toUInt32 31)).toInt32) hx hb dX11_tapeNumber_27 rfl ?_
  refine lv_sipush (v := 255) hx hb dX11_tapeNumber_28 (by decide) ?_
  refine lv_iand hx hb dX11_tapeNumber_31 ?_
  refine r_iast C w 1 rfl (IX.of (k := 13) (by decide +kernel)) (g := (upd (upd f0 12 ((x0.toUInt32 >>> (Int32.toUInt32 24 &&& Int32.toUInt32 31)).toInt32 &&& 255)) 13 ((x0.toUInt32 >>> (Int32.toUInt32 16 &&& Int32.toUInt32 31)).toInt32 &&& 255))) rfl dX11_tapeNumber_32 (ws2 := [(q0, .inr (11, [.ref q1, .ref q2, .ref q3, .ref q4, .ref q5, .ref q6, .ref q7, .ref q8, .ref q9, .ref q10, .int 13, .int (-1), .int 0, .int 0, .null, .null, .null, .null, .null])), (q1, .inl (G.2.1, 600, .inl (upd (upd f0 12 ((x0.toUInt32 >>> (Int32.toUInt32 24 &&& Int32.toUInt32 31)).toInt32 &&& 255)) 13 ((x0.toUInt32 >>> (Int32.toUInt32 16 &&& Int32.toUInt32 31)).toInt32 &&& 255))))]) rfl (fun H locs w => ?_)
  refine lv_aload_n hx hb dX11_tapeNumber_33 rfl (lv_at hl 1 rfl) ?_
  refine lv_dup hx hb dX11_tapeNumber_34 rfl ?_
  refine r_get C w 0 rfl fr_X11_65 rfl dX11_tapeNumber_35 ?_
  refine lv_iconst (v := 1) hx hb dX11_tapeNumber_38 (by decide) ?_
  refine lv_iadd hx hb dX11_tapeNumber_39 ?_
  refine z_i (v := 14) (by decide +kernel) ?_
  refine r_put C w 0 rfl fl_X11_65 (Nat.le_of_ble_eq_true rfl) rfl rfl dX11_tapeNumber_40 (ws2 := [(q0, .inr (11, [.ref q1, .ref q2, .ref q3, .ref q4, .ref q5, .ref q6, .ref q7, .ref q8, .ref q9, .ref q10, .int 14, .int (-1), .int 0, .int 0, .null, .null, .null, .null, .null])), (q1, .inl (G.2.1, 600, .inl (upd (upd f0 12 ((x0.toUInt32 >>> (Int32.toUInt32 24 &&& Int32.toUInt32 31)).toInt32 &&& 255)) 13 ((x0.toUInt32 >>> (Int32.toUInt32 16 &&& Int32.toUInt32 31)).toInt32 &&& 255))))]) rfl (fun H locs w => ?_)
  refine lv_iinc (v := 8) (lv' := [(2, .int 8), (0, .ref q0), (1, .int x0)]) hx hb dX11_tapeNumber_43 hl (k := 0) rfl (by decide +kernel) (by decide) rfl (fun ls hl => ?_)
  refine lv_goto (tgt := 3) hx hb dX11_tapeNumber_46 (by decide) ?_
  refine lv_iload_n hx hb dX11_tapeNumber_3 rfl (lv_at hl 0 rfl) ?_
  refine lv_if_lt (tgt := 49) hx hb dX11_tapeNumber_4 (by decide) (fun h => absurd h (by decide)) (fun _ => ?_)
  refine lv_aload_n hx hb dX11_tapeNumber_7 rfl (lv_at hl 1 rfl) ?_
  refine r_get C w 0 rfl fr_X11_65 rfl dX11_tapeNumber_8 ?_
  refine lv_sipush (v := 600) hx hb dX11_tapeNumber_11 (by decide) ?_
  refine lv_icmp_ge (tgt := 49) hx hb dX11_tapeNumber_14 (by decide) (fun h => absurd h (by decide)) (fun _ => ?_)
  refine lv_aload_n hx hb dX11_tapeNumber_17 rfl (lv_at hl 1 rfl) ?_
  refine r_get C w 0 rfl fr_X11_9 rfl dX11_tapeNumber_18 ?_
  refine lv_aload_n hx hb dX11_tapeNumber_21 rfl (lv_at hl 1 rfl) ?_
  refine r_get C w 0 rfl fr_X11_65 rfl dX11_tapeNumber_22 ?_
  refine lv_iload_n hx hb dX11_tapeNumber_25 rfl (lv_at hl 2 rfl) ?_
  refine lv_iload_n hx hb dX11_tapeNumber_26 rfl (lv_at hl 0 rfl) ?_
  refine lv_iushr (v := (x0.toUInt32 >>> (Int32.toUInt32 8 &&& Int32.toUInt32 31)).toInt32) hx hb dX11_tapeNumber_27 rfl ?_
  refine lv_sipush (v := 255) hx hb dX11_tapeNumber_28 (by decide) ?_
  refine lv_iand hx hb dX11_tapeNumber_31 ?_
  refine r_iast C w 1 rfl (IX.of (k := 14) (by decide +kernel)) (g := (upd (upd (upd f0 12 ((x0.toUInt32 >>> (Int32.toUInt32 24 &&& Int32.toUInt32 31)).toInt32 &&& 255)) 13 ((x0.toUInt32 >>> (Int32.toUInt32 16 &&& Int32.toUInt32 31)).toInt32 &&& 255)) 14 ((x0.toUInt32 >>> (Int32.toUInt32 8 &&& Int32.toUInt32 31)).toInt32 &&& 255))) rfl dX11_tapeNumber_32 (ws2 := [(q0, .inr (11, [.ref q1, .ref q2, .ref q3, .ref q4, .ref q5, .ref q6, .ref q7, .ref q8, .ref q9, .ref q10, .int 14, .int (-1), .int 0, .int 0, .null, .null, .null, .null, .null])), (q1, .inl (G.2.1, 600, .inl (upd (upd (upd f0 12 ((x0.toUInt32 >>> (Int32.toUInt32 24 &&& Int32.toUInt32 31)).toInt32 &&& 255)) 13 ((x0.toUInt32 >>> (Int32.toUInt32 16 &&& Int32.toUInt32 31)).toInt32 &&& 255)) 14 ((x0.toUInt32 >>> (Int32.toUInt32 8 &&& Int32.toUInt32 31)).toInt32 &&& 255))))]) rfl (fun H locs w => ?_)
  refine lv_aload_n hx hb dX11_tapeNumber_33 rfl (lv_at hl 1 rfl) ?_
  refine lv_dup hx hb dX11_tapeNumber_34 rfl ?_
  refine r_get C w 0 rfl fr_X11_65 rfl dX11_tapeNumber_35 ?_
  refine lv_iconst (v := 1) hx hb dX11_tapeNumber_38 (by decide) ?_
  refine lv_iadd hx hb dX11_tapeNumber_39 ?_
  refine z_i (v := 15) (by decide +kernel) ?_
  refine r_put C w 0 rfl fl_X11_65 (Nat.le_of_ble_eq_true rfl) rfl rfl dX11_tapeNumber_40 (ws2 := [(q0, .inr (11, [.ref q1, .ref q2, .ref q3, .ref q4, .ref q5, .ref q6, .ref q7, .ref q8, .ref q9, .ref q10, .int 15, .int (-1), .int 0, .int 0, .null, .null, .null, .null, .null])), (q1, .inl (G.2.1, 600, .inl (upd (upd (upd f0 12 ((x0.toUInt32 >>> (Int32.toUInt32 24 &&& Int32.toUInt32 31)).toInt32 &&& 255)) 13 ((x0.toUInt32 >>> (Int32.toUInt32 16 &&& Int32.toUInt32 31)).toInt32 &&& 255)) 14 ((x0.toUInt32 >>> (Int32.toUInt32 8 &&& Int32.toUInt32 31)).toInt32 &&& 255))))]) rfl (fun H locs w => ?_)
  refine lv_iinc (v := 0) (lv' := [(2, .int 0), (0, .ref q0), (1, .int x0)]) hx hb dX11_tapeNumber_43 hl (k := 0) rfl (by decide +kernel) (by decide) rfl (fun ls hl => ?_)
  refine lv_goto (tgt := 3) hx hb dX11_tapeNumber_46 (by decide) ?_
  refine lv_iload_n hx hb dX11_tapeNumber_3 rfl (lv_at hl 0 rfl) ?_
  refine lv_if_lt (tgt := 49) hx hb dX11_tapeNumber_4 (by decide) (fun h => absurd h (by decide)) (fun _ => ?_)
  refine lv_aload_n hx hb dX11_tapeNumber_7 rfl (lv_at hl 1 rfl) ?_
  refine r_get C w 0 rfl fr_X11_65 rfl dX11_tapeNumber_8 ?_
  refine lv_sipush (v := 600) hx hb dX11_tapeNumber_11 (by decide) ?_
  refine lv_icmp_ge (tgt := 49) hx hb dX11_tapeNumber_14 (by decide) (fun h => absurd h (by decide)) (fun _ => ?_)
  refine lv_aload_n hx hb dX11_tapeNumber_17 rfl (lv_at hl 1 rfl) ?_
  refine r_get C w 0 rfl fr_X11_9 rfl dX11_tapeNumber_18 ?_
  refine lv_aload_n hx hb dX11_tapeNumber_21 rfl (lv_at hl 1 rfl) ?_
  refine r_get C w 0 rfl fr_X11_65 rfl dX11_tapeNumber_22 ?_
  refine lv_iload_n hx hb dX11_tapeNumber_25 rfl (lv_at hl 2 rfl) ?_
  refine lv_iload_n hx hb dX11_tapeNumber_26 rfl (lv_at hl 0 rfl) ?_
  refine lv_iushr (v := (x0.toUInt32 >>> (Int32.toUInt32 0 &&& Int32.toUInt32 31)).toInt32) hx hb dX11_tapeNumber_27 rfl ?_
  refine lv_sipush (v := 255) hx hb dX11_tapeNumber_28 (by decide) ?_
  refine lv_iand hx hb dX11_tapeNumber_31 ?_
  refine r_iast C w 1 rfl (IX.of (k := 15) (by decide +kernel)) (g := (upd (upd (upd (upd f0 12 ((x0.toUInt32 >>> (Int32.toUInt32 24 &&& Int32.toUInt32 31)).toInt32 &&& 255)) 13 ((x0.toUInt32 >>> (Int32.toUInt32 16 &&& Int32.toUInt32 31)).toInt32 &&& 255)) 14 ((x0.toUInt32 >>> (Int32.toUInt32 8 &&& Int32.toUInt32 31)).toInt32 &&& 255)) 15 ((x0.toUInt32 >>> (Int32.toUInt32 0 &&& Int32.toUInt32 31)).toInt32 &&& 255))) rfl dX11_tapeNumber_32 (ws2 := [(q0, .inr (11, [.ref q1, .ref q2, .ref q3, .ref q4, .ref q5, .ref q6, .ref q7, .ref q8, .ref q9, .ref q10, .int 15, .int (-1), .int 0, .int 0, .null, .null, .null, .null, .null])), (q1, .inl (G.2.1, 600, .inl (upd (upd (upd (upd f0 12 ((x0.toUInt32 >>> (Int32.toUInt32 24 &&& Int32.toUInt32 31)).toInt32 &&& 255)) 13 ((x0.toUInt32 >>> (Int32.toUInt32 16 &&& Int32.toUInt32 31)).toInt32 &&& 255)) 14 ((x0.toUInt32 >>> (Int32.toUInt32 8 &&& Int32.toUInt32 31)).toInt32 &&& 255)) 15 ((x0.toUInt32 >>> (Int32.toUInt32 0 &&& Int32.toUInt32 31)).toInt32 &&& 255))))]) rfl (fun H locs w => ?_)
  refine lv_aload_n hx hb dX11_tapeNumber_33 rfl (lv_at hl 1 rfl) ?_
  refine lv_dup hx hb dX11_tapeNumber_34 rfl ?_
  refine r_get C w 0 rfl fr_X11_65 rfl dX11_tapeNumber_35 ?_
  refine lv_iconst (v := 1) hx hb dX11_tapeNumber_38 (by decide) ?_
  refine lv_iadd hx hb dX11_tapeNumber_39 ?_
  refine z_i (v := 16) (by decide +kernel) ?_
  refine r_put C w 0 rfl fl_X11_65 (Nat.le_of_ble_eq_true rfl) rfl rfl dX11_tapeNumber_40 (ws2 := [(q0, .inr (11, [.ref q1, .ref q2, .ref q3, .ref q4, .ref q5, .ref q6, .ref q7, .ref q8, .ref q9, .ref q10, .int 16, .int (-1), .int 0, .int 0, .null, .null, .null, .null, .null])), (q1, .inl (G.2.1, 600, .inl (upd (upd (upd (upd f0 12 ((x0.toUInt32 >>> (Int32.toUInt32 24 &&& Int32.toUInt32 31)).toInt32 &&& 255)) 13 ((x0.toUInt32 >>> (Int32.toUInt32 16 &&& Int32.toUInt32 31)).toInt32 &&& 255)) 14 ((x0.toUInt32 >>> (Int32.toUInt32 8 &&& Int32.toUInt32 31)).toInt32 &&& 255)) 15 ((x0.toUInt32 >>> (Int32.toUInt32 0 &&& Int32.toUInt32 31)).toInt32 &&& 255))))]) rfl (fun H locs w => ?_)
  refine lv_iinc (v := (-8)) (lv' := [(2, .int (-8)), (0, .ref q0), (1, .int x0)]) hx hb dX11_tapeNumber_43 hl (k := 0) rfl (by decide +kernel) (by decide) rfl (fun ls hl => ?_)
  refine lv_goto (tgt := 3) hx hb dX11_tapeNumber_46 (by decide) ?_
  refine lv_iload_n hx hb dX11_tapeNumber_3 rfl (lv_at hl 0 rfl) ?_
  refine lv_if_lt (tgt := 49) hx hb dX11_tapeNumber_4 (by decide) (fun _ => ?_) (fun h => absurd (by decide) h)
  exact e_v C hr w (fun _ => 0) [0, 1] rfl rfl dX11_tapeNumber_49 (by decide) (by decide)
set_option maxRecDepth 100000 in
set_option maxHeartbeats 4000000 in
theorem k12_tapeNumber {l : Launch} {s0 : State} {a0 : Array Value} {G : GT} (b0 : B0 l s0 a0 G) (q0 q1 q2 q3 q4 q5 q6 q7 q8 q9 q10 : Nat) (x0 : Int32) (f0 : Nat → Int32) (sz : Nat) : Kv l s0 G yX11_tapeNumber cX11_tapeNumber 3 none { frames := 0, cells := 0, slots := 0, locals := 0 } [.ref q0, .int x0] [(q0, .inr (11, [.ref q1, .ref q2, .ref q3, .ref q4, .ref q5, .ref q6, .ref q7, .ref q8, .ref q9, .ref q10, .int 16, .int (-1), .int 0, .int 0, .null, .null, .null, .null, .null])), (q1, .inl (G.2.1, 600, .inl f0))] sz (fun u => [(q0, .inr (11, [.ref q1, .ref q2, .ref q3, .ref q4, .ref q5, .ref q6, .ref q7, .ref q8, .ref q9, .ref q10, .int 20, .int (-1), .int 0, .int 0, .null, .null, .null, .null, .null])), (q1, .inl (G.2.1, 600, .inl (upd (upd (upd (upd f0 16 ((x0.toUInt32 >>> (Int32.toUInt32 24 &&& Int32.toUInt32 31)).toInt32 &&& 255)) 17 ((x0.toUInt32 >>> (Int32.toUInt32 16 &&& Int32.toUInt32 31)).toInt32 &&& 255)) 18 ((x0.toUInt32 >>> (Int32.toUInt32 8 &&& Int32.toUInt32 31)).toInt32 &&& 255)) 19 ((x0.toUInt32 >>> (Int32.toUInt32 0 &&& Int32.toUInt32 31)).toInt32 &&& 255))))]) := by
  refine Kv.of b0 (own := RX11) (nm := "tapeNumber") [(0, .ref q0), (1, .int x0)] rfl rfl (by decide +kernel) (Nat.le_of_ble_eq_true rfl) rfl ?_
  intro p e s m below meth c A C hr H locs w ls hl
  have hx := C.hx
  have hb := C.hb
  refine lv_bipush (v := 24) hx hb dX11_tapeNumber_0 (by decide) ?_
  refine lv_istore_n (lv' := [(2, .int 24), (0, .ref q0), (1, .int x0)]) hx hb dX11_tapeNumber_2 rfl hl (by decide) rfl (fun ls hl => ?_)
  refine lv_iload_n hx hb dX11_tapeNumber_3 rfl (lv_at hl 0 rfl) ?_
  refine lv_if_lt (tgt := 49) hx hb dX11_tapeNumber_4 (by decide) (fun h => absurd h (by decide)) (fun _ => ?_)
  refine lv_aload_n hx hb dX11_tapeNumber_7 rfl (lv_at hl 1 rfl) ?_
  refine r_get C w 0 rfl fr_X11_65 rfl dX11_tapeNumber_8 ?_
  refine lv_sipush (v := 600) hx hb dX11_tapeNumber_11 (by decide) ?_
  refine lv_icmp_ge (tgt := 49) hx hb dX11_tapeNumber_14 (by decide) (fun h => absurd h (by decide)) (fun _ => ?_)
  refine lv_aload_n hx hb dX11_tapeNumber_17 rfl (lv_at hl 1 rfl) ?_
  refine r_get C w 0 rfl fr_X11_9 rfl dX11_tapeNumber_18 ?_
  refine lv_aload_n hx hb dX11_tapeNumber_21 rfl (lv_at hl 1 rfl) ?_
  refine r_get C w 0 rfl fr_X11_65 rfl dX11_tapeNumber_22 ?_
  refine lv_iload_n hx hb dX11_tapeNumber_25 rfl (lv_at hl 2 rfl) ?_
  refine lv_iload_n hx hb dX11_tapeNumber_26 rfl (lv_at hl 0 rfl) ?_
  refine lv_iushr (v := (x0.toUInt32 >>> (Int32.toUInt32 24 &&& Int32.toUInt32 31)).toInt32) hx hb dX11_tapeNumber_27 rfl ?_
  refine lv_sipush (v := 255) hx hb dX11_tapeNumber_28 (by decide) ?_
  refine lv_iand hx hb dX11_tapeNumber_31 ?_
  refine r_iast C w 1 rfl (IX.of (k := 16) (by decide +kernel)) (g := (upd f0 16 ((x0.toUInt32 >>> (Int32.toUInt32 24 &&& Int32.toUInt32 31)).toInt32 &&& 255))) rfl dX11_tapeNumber_32 (ws2 := [(q0, .inr (11, [.ref q1, .ref q2, .ref q3, .ref q4, .ref q5, .ref q6, .ref q7, .ref q8, .ref q9, .ref q10, .int 16, .int (-1), .int 0, .int 0, .null, .null, .null, .null, .null])), (q1, .inl (G.2.1, 600, .inl (upd f0 16 ((x0.toUInt32 >>> (Int32.toUInt32 24 &&& Int32.toUInt32 31)).toInt32 &&& 255))))]) rfl (fun H locs w => ?_)
  refine lv_aload_n hx hb dX11_tapeNumber_33 rfl (lv_at hl 1 rfl) ?_
  refine lv_dup hx hb dX11_tapeNumber_34 rfl ?_
  refine r_get C w 0 rfl fr_X11_65 rfl dX11_tapeNumber_35 ?_
  refine lv_iconst (v := 1) hx hb dX11_tapeNumber_38 (by decide) ?_
  refine lv_iadd hx hb dX11_tapeNumber_39 ?_
  refine z_i (v := 17) (by decide +kernel) ?_
  refine r_put C w 0 rfl fl_X11_65 (Nat.le_of_ble_eq_true rfl) rfl rfl dX11_tapeNumber_40 (ws2 := [(q0, .inr (11, [.ref q1, .ref q2, .ref q3, .ref q4, .ref q5, .ref q6, .ref q7, .ref q8, .ref q9, .ref q10, .int 17, .int (-1), .int 0, .int 0, .null, .null, .null, .null, .null])), (q1, .inl (G.2.1, 600, .inl (upd f0 16 ((x0.toUInt32 >>> (Int32.toUInt32 24 &&& Int32.toUInt32 31)).toInt32 &&& 255))))]) rfl (fun H locs w => ?_)
  refine lv_iinc (v := 16) (lv' := [(2, .int 16), (0, .ref q0), (1, .int x0)]) hx hb dX11_tapeNumber_43 hl (k := 0) rfl (by decide +kernel) (by decide) rfl (fun ls hl => ?_)
  refine lv_goto (tgt := 3) hx hb dX11_tapeNumber_46 (by decide) ?_
  refine lv_iload_n hx hb dX11_tapeNumber_3 rfl (lv_at hl 0 rfl) ?_
  refine lv_if_lt (tgt := 49) hx hb dX11_tapeNumber_4 (by decide) (fun h => absurd h (by decide)) (fun _ => ?_)
  refine lv_aload_n hx hb dX11_tapeNumber_7 rfl (lv_at hl 1 rfl) ?_
  refine r_get C w 0 rfl fr_X11_65 rfl dX11_tapeNumber_8 ?_
  refine lv_sipush (v := 600) hx hb dX11_tapeNumber_11 (by decide) ?_
  refine lv_icmp_ge (tgt := 49) hx hb dX11_tapeNumber_14 (by decide) (fun h => absurd h (by decide)) (fun _ => ?_)
  refine lv_aload_n hx hb dX11_tapeNumber_17 rfl (lv_at hl 1 rfl) ?_
  refine r_get C w 0 rfl fr_X11_9 rfl dX11_tapeNumber_18 ?_
  refine lv_aload_n hx hb dX11_tapeNumber_21 rfl (lv_at hl 1 rfl) ?_
  refine r_get C w 0 rfl fr_X11_65 rfl dX11_tapeNumber_22 ?_
  refine lv_iload_n hx hb dX11_tapeNumber_25 rfl (lv_at hl 2 rfl) ?_
  refine lv_iload_n hx hb dX11_tapeNumber_26 rfl (lv_at hl 0 rfl) ?_
  refine lv_iushr (v := (x0.toUInt32 >>> (Int32.toUInt32 16 &&& Int32.toUInt32 31)).toInt32) hx hb dX11_tapeNumber_27 rfl ?_
  refine lv_sipush (v := 255) hx hb dX11_tapeNumber_28 (by decide) ?_
  refine lv_iand hx hb dX11_tapeNumber_31 ?_
  refine r_iast C w 1 rfl (IX.of (k := 17) (by decide +kernel)) (g := (upd (upd f0 16 ((x0.toUInt32 >>> (Int32.toUInt32 24 &&& Int32.toUInt32 31)).toInt32 &&& 255)) 17 ((x0.toUInt32 >>> (Int32.toUInt32 16 &&& Int32.toUInt32 31)).toInt32 &&& 255))) rfl dX11_tapeNumber_32 (ws2 := [(q0, .inr (11, [.ref q1, .ref q2, .ref q3, .ref q4, .ref q5, .ref q6, .ref q7, .ref q8, .ref q9, .ref q10, .int 17, .int (-1), .int 0, .int 0, .null, .null, .null, .null, .null])), (q1, .inl (G.2.1, 600, .inl (upd (upd f0 16 ((x0.toUInt32 >>> (Int32.toUInt32 24 &&& Int32.toUInt32 31)).toInt32 &&& 255)) 17 ((x0.toUInt32 >>> (Int32.toUInt32 16 &&& Int32.toUInt32 31)).toInt32 &&& 255))))]) rfl (fun H locs w => ?_)
  refine lv_aload_n hx hb dX11_tapeNumber_33 rfl (lv_at hl 1 rfl) ?_
  refine lv_dup hx hb dX11_tapeNumber_34 rfl ?_
  refine r_get C w 0 rfl fr_X11_65 rfl dX11_tapeNumber_35 ?_
  refine lv_iconst (v := 1) hx hb dX11_tapeNumber_38 (by decide) ?_
  refine lv_iadd hx hb dX11_tapeNumber_39 ?_
  refine z_i (v := 18) (by decide +kernel) ?_
  refine r_put C w 0 rfl fl_X11_65 (Nat.le_of_ble_eq_true rfl) rfl rfl dX11_tapeNumber_40 (ws2 := [(q0, .inr (11, [.ref q1, .ref q2, .ref q3, .ref q4, .ref q5, .ref q6, .ref q7, .ref q8, .ref q9, .ref q10, .int 18, .int (-1), .int 0, .int 0, .null, .null, .null, .null, .null])), (q1, .inl (G.2.1, 600, .inl (upd (upd f0 16 ((x0.toUInt32 >>> (Int32.toUInt32 24 &&& Int32.toUInt32 31)).toInt32 &&& 255)) 17 ((x0.toUInt32 >>> (Int32.toUInt32 16 &&& Int32.toUInt32 31)).toInt32 &&& 255))))]) rfl (fun H locs w => ?_)
  refine lv_iinc (v := 8) (lv' := [(2, .int 8), (0, .ref q0), (1, .int x0)]) hx hb dX11_tapeNumber_43 hl (k := 0) rfl (by decide +kernel) (by decide) rfl (fun ls hl => ?_)
  refine lv_goto (tgt := 3) hx hb dX11_tapeNumber_46 (by decide) ?_
  refine lv_iload_n hx hb dX11_tapeNumber_3 rfl (lv_at hl 0 rfl) ?_
  refine lv_if_lt (tgt := 49) hx hb dX11_tapeNumber_4 (by decide) (fun h => absurd h (by decide)) (fun _ => ?_)
  refine lv_aload_n hx hb dX11_tapeNumber_7 rfl (lv_at hl 1 rfl) ?_
  refine r_get C w 0 rfl fr_X11_65 rfl dX11_tapeNumber_8 ?_
  refine lv_sipush (v := 600) hx hb dX11_tapeNumber_11 (by decide) ?_
  refine lv_icmp_ge (tgt := 49) hx hb dX11_tapeNumber_14 (by decide) (fun h => absurd h (by decide)) (fun _ => ?_)
  refine lv_aload_n hx hb dX11_tapeNumber_17 rfl (lv_at hl 1 rfl) ?_
  refine r_get C w 0 rfl fr_X11_9 rfl dX11_tapeNumber_18 ?_
  refine lv_aload_n hx hb dX11_tapeNumber_21 rfl (lv_at hl 1 rfl) ?_
  refine r_get C w 0 rfl fr_X11_65 rfl dX11_tapeNumber_22 ?_
  refine lv_iload_n hx hb dX11_tapeNumber_25 rfl (lv_at hl 2 rfl) ?_
  refine lv_iload_n hx hb dX11_tapeNumber_26 rfl (lv_at hl 0 rfl) ?_
  refine lv_iushr (v := (x0.toUInt32 >>> (Int32.toUInt32 8 &&& Int32.toUInt32 31)).toInt32) hx hb dX11_tapeNumber_27 rfl ?_
  refine lv_sipush (v := 255) hx hb dX11_tapeNumber_28 (by decide) ?_
  refine lv_iand hx hb dX11_tapeNumber_31 ?_
  refine r_iast C w 1 rfl (IX.of (k := 18) (by decide +kernel)) (g := (upd (upd (upd f0 16 ((x0.toUInt32 >>> (Int32.toUInt32 24 &&& Int32.toUInt32 31)).toInt32 &&& 255)) 17 ((x0.toUInt32 >>> (Int32.toUInt32 16 &&& Int32.toUInt32 31)).toInt32 &&& 255)) 18 ((x0.toUInt32 >>> (Int32.toUInt32 8 &&& Int32.toUInt32 31)).toInt32 &&& 255))) rfl dX11_tapeNumber_32 (ws2 := [(q0, .inr (11, [.ref q1, .ref q2, .ref q3, .ref q4, .ref q5, .ref q6, .ref q7, .ref q8, .ref q9, .ref q10, .int 18, .int (-1), .int 0, .int 0, .null, .null, .null, .null, .null])), (q1, .inl (G.2.1, 600, .inl (upd (upd (upd f0 16 ((x0.toUInt32 >>> (Int32.toUInt32 24 &&& Int32.toUInt32 31)).toInt32 &&& 255)) 17 ((x0.toUInt32 >>> (Int32.toUInt32 16 &&& Int32.toUInt32 31)).toInt32 &&& 255)) 18 ((x0.toUInt32 >>> (Int32.toUInt32 8 &&& Int32.toUInt32 31)).toInt32 &&& 255))))]) rfl (fun H locs w => ?_)
  refine lv_aload_n hx hb dX11_tapeNumber_33 rfl (lv_at hl 1 rfl) ?_
  refine lv_dup hx hb dX11_tapeNumber_34 rfl ?_
  refine r_get C w 0 rfl fr_X11_65 rfl dX11_tapeNumber_35 ?_
  refine lv_iconst (v := 1) hx hb dX11_tapeNumber_38 (by decide) ?_
  refine lv_iadd hx hb dX11_tapeNumber_39 ?_
  refine z_i (v := 19) (by decide +kernel) ?_
  refine r_put C w 0 rfl fl_X11_65 (Nat.le_of_ble_eq_true rfl) rfl rfl dX11_tapeNumber_40 (ws2 := [(q0, .inr (11, [.ref q1, .ref q2, .ref q3, .ref q4, .ref q5, .ref q6, .ref q7, .ref q8, .ref q9, .ref q10, .int 19, .int (-1), .int 0, .int 0, .null, .null, .null, .null, .null])), (q1, .inl (G.2.1, 600, .inl (upd (upd (upd f0 16 ((x0.toUInt32 >>> (Int32.toUInt32 24 &&& Int32.toUInt32 31)).toInt32 &&& 255)) 17 ((x0.toUInt32 >>> (Int32.toUInt32 16 &&& Int32.toUInt32 31)).toInt32 &&& 255)) 18 ((x0.toUInt32 >>> (Int32.toUInt32 8 &&& Int32.toUInt32 31)).toInt32 &&& 255))))]) rfl (fun H locs w => ?_)
  refine lv_iinc (v := 0) (lv' := [(2, .int 0), (0, .ref q0), (1, .int x0)]) hx hb dX11_tapeNumber_43 hl (k := 0) rfl (by decide +kernel) (by decide) rfl (fun ls hl => ?_)
  refine lv_goto (tgt := 3) hx hb dX11_tapeNumber_46 (by decide) ?_
  refine lv_iload_n hx hb dX11_tapeNumber_3 rfl (lv_at hl 0 rfl) ?_
  refine lv_if_lt (tgt := 49) hx hb dX11_tapeNumber_4 (by decide) (fun h => absurd h (by decide)) (fun _ => ?_)
  refine lv_aload_n hx hb dX11_tapeNumber_7 rfl (lv_at hl 1 rfl) ?_
  refine r_get C w 0 rfl fr_X11_65 rfl dX11_tapeNumber_8 ?_
  refine lv_sipush (v := 600) hx hb dX11_tapeNumber_11 (by decide) ?_
  refine lv_icmp_ge (tgt := 49) hx hb dX11_tapeNumber_14 (by decide) (fun h => absurd h (by decide)) (fun _ => ?_)
  refine lv_aload_n hx hb dX11_tapeNumber_17 rfl (lv_at hl 1 rfl) ?_
  refine r_get C w 0 rfl fr_X11_9 rfl dX11_tapeNumber_18 ?_
  refine lv_aload_n hx hb dX11_tapeNumber_21 rfl (lv_at hl 1 rfl) ?_
  refine r_get C w 0 rfl fr_X11_65 rfl dX11_tapeNumber_22 ?_
  refine lv_iload_n hx hb dX11_tapeNumber_25 rfl (lv_at hl 2 rfl) ?_
  refine lv_iload_n hx hb dX11_tapeNumber_26 rfl (lv_at hl 0 rfl) ?_
  refine lv_iushr (v := (x0.toUInt32 >>> (Int32.toUInt32 0 &&& Int32.toUInt32 31)).toInt32) hx hb dX11_tapeNumber_27 rfl ?_
  refine lv_sipush (v := 255) hx hb dX11_tapeNumber_28 (by decide) ?_
  refine lv_iand hx hb dX11_tapeNumber_31 ?_
  refine r_iast C w 1 rfl (IX.of (k := 19) (by decide +kernel)) (g := (upd (upd (upd (upd f0 16 ((x0.toUInt32 >>> (Int32.toUInt32 24 &&& Int32.toUInt32 31)).toInt32 &&& 255)) 17 ((x0.toUInt32 >>> (Int32.toUInt32 16 &&& Int32.toUInt32 31)).toInt32 &&& 255)) 18 ((x0.toUInt32 >>> (Int32.toUInt32 8 &&& Int32.toUInt32 31)).toInt32 &&& 255)) 19 ((x0.toUInt32 >>> (Int32.toUInt32 0 &&& Int32.toUInt32 31)).toInt32 &&& 255))) rfl dX11_tapeNumber_32 (ws2 := [(q0, .inr (11, [.ref q1, .ref q2, .ref q3, .ref q4, .ref q5, .ref q6, .ref q7, .ref q8, .ref q9, .ref q10, .int 19, .int (-1), .int 0, .int 0, .null, .null, .null, .null, .null])), (q1, .inl (G.2.1, 600, .inl (upd (upd (upd (upd f0 16 ((x0.toUInt32 >>> (Int32.toUInt32 24 &&& Int32.toUInt32 31)).toInt32 &&& 255)) 17 ((x0.toUInt32 >>> (Int32.toUInt32 16 &&& Int32.toUInt32 31)).toInt32 &&& 255)) 18 ((x0.toUInt32 >>> (Int32.toUInt32 8 &&& Int32.toUInt32 31)).toInt32 &&& 255)) 19 ((x0.toUInt32 >>> (Int32.toUInt32 0 &&& Int32.toUInt32 31)).toInt32 &&& 255))))]) rfl (fun H locs w => ?_)
  refine lv_aload_n hx hb dX11_tapeNumber_33 rfl (lv_at hl 1 rfl) ?_
  refine lv_dup hx hb dX11_tapeNumber_34 rfl ?_
  refine r_get C w 0 rfl fr_X11_65 rfl dX11_tapeNumber_35 ?_
  refine lv_iconst (v := 1) hx hb dX11_tapeNumber_38 (by decide) ?_
  refine lv_iadd hx hb dX11_tapeNumber_39 ?_
  refine z_i (v := 20) (by decide +kernel) ?_
  refine r_put C w 0 rfl fl_X11_65 (Nat.le_of_ble_eq_true rfl) rfl rfl dX11_tapeNumber_40 (ws2 := [(q0, .inr (11, [.ref q1, .ref q2, .ref q3, .ref q4, .ref q5, .ref q6, .ref q7, .ref q8, .ref q9, .ref q10, .int 20, .int (-1), .int 0, .int 0, .null, .null, .null, .null, .null])), (q1, .inl (G.2.1, 600, .inl (upd (upd (upd (upd f0 16 ((x0.toUInt32 >>> (Int32.toUInt32 24 &&& Int32.toUInt32 31)).toInt32 &&& 255)) 17 ((x0.toUInt32 >>> (Int32.toUInt32 16 &&& Int32.toUInt32 31)).toInt32 &&& 255)) 18 ((x0.toUInt32 >>> (Int32.toUInt32 8 &&& Int32.toUInt32 31)).toInt32 &&& 255)) 19 ((x0.toUInt32 >>> (Int32.toUInt32 0 &&& Int32.toUInt32 31)).toInt32 &&& 255))))]) rfl (fun H locs w => ?_)
  refine lv_iinc (v := (-8)) (lv' := [(2, .int (-8)), (0, .ref q0), (1, .int x0)]) hx hb dX11_tapeNumber_43 hl (k := 0) rfl (by decide +kernel) (by decide) rfl (fun ls hl => ?_)
  refine lv_goto (tgt := 3) hx hb dX11_tapeNumber_46 (by decide) ?_
  refine lv_iload_n hx hb dX11_tapeNumber_3 rfl (lv_at hl 0 rfl) ?_
  refine lv_if_lt (tgt := 49) hx hb dX11_tapeNumber_4 (by decide) (fun _ => ?_) (fun h => absurd (by decide) h)
  exact e_v C hr w (fun _ => 0) [0, 1] rfl rfl dX11_tapeNumber_49 (by decide) (by decide)
set_option maxRecDepth 100000 in
set_option maxHeartbeats 4000000 in
theorem k13_feed {l : Launch} {s0 : State} {a0 : Array Value} {G : GT} (b0 : B0 l s0 a0 G) (q0 q1 q2 q3 q4 q5 q6 q7 q8 q9 q10 : Nat) (x0 : Int32) (x1 : Int32) (x2 : Int32) (x3 : Int32) (x4 : Int32) (sz : Nat) : Ki l s0 G yX11_feed cX11_feed 6 (some .int) { frames := 1, cells := 0, slots := 0, locals := 22 } [.ref q0, .int x0, .int x1, .int x2, .int x3, .int x4] [(q0, .inr (11, [.ref q1, .ref q2, .ref q3, .ref q4, .ref q5, .ref q6, .ref q7, .ref q8, .ref q9, .ref q10, .int 0, .int (-1), .int 0, .int 0, .null, .null, .null, .null, .null])), (q1, .inl (G.2.1, 600, .inl (fun _ => 0)))] sz 20 (fun u => [(q0, .inr (11, [.ref q1, .ref q2, .ref q3, .ref q4, .ref q5, .ref q6, .ref q7, .ref q8, .ref q9, .ref q10, .int 20, .int (-1), .int 0, .int 0, .null, .null, .null, .null, .null])), (q1, .inl (G.2.1, 600, .inl (upd (upd (upd (upd (upd (upd (upd (upd (upd (upd (upd (upd (upd (upd (upd (upd (upd (upd (upd (upd (fun _ => 0) 0 ((x0.toUInt32 >>> (Int32.toUInt32 24 &&& Int32.toUInt32 31)).toInt32 &&& 255)) 1 ((x0.toUInt32 >>> (Int32.toUInt32 16 &&& Int32.toUInt32 31)).toInt32 &&& 255)) 2 ((x0.toUInt32 >>> (Int32.toUInt32 8 &&& Int32.toUInt32 31)).toInt32 &&& 255)) 3 ((x0.toUInt32 >>> (Int32.toUInt32 0 &&& Int32.toUInt32 31)).toInt32 &&& 255)) 4 ((x1.toUInt32 >>> (Int32.toUInt32 24 &&& Int32.toUInt32 31)).toInt32 &&& 255)) 5 ((x1.toUInt32 >>> (Int32.toUInt32 16 &&& Int32.toUInt32 31)).toInt32 &&& 255)) 6 ((x1.toUInt32 >>> (Int32.toUInt32 8 &&& Int32.toUInt32 31)).toInt32 &&& 255)) 7 ((x1.toUInt32 >>> (Int32.toUInt32 0 &&& Int32.toUInt32 31)).toInt32 &&& 255)) 8 ((x2.toUInt32 >>> (Int32.toUInt32 24 &&& Int32.toUInt32 31)).toInt32 &&& 255)) 9 ((x2.toUInt32 >>> (Int32.toUInt32 16 &&& Int32.toUInt32 31)).toInt32 &&& 255)) 10 ((x2.toUInt32 >>> (Int32.toUInt32 8 &&& Int32.toUInt32 31)).toInt32 &&& 255)) 11 ((x2.toUInt32 >>> (Int32.toUInt32 0 &&& Int32.toUInt32 31)).toInt32 &&& 255)) 12 ((x3.toUInt32 >>> (Int32.toUInt32 24 &&& Int32.toUInt32 31)).toInt32 &&& 255)) 13 ((x3.toUInt32 >>> (Int32.toUInt32 16 &&& Int32.toUInt32 31)).toInt32 &&& 255)) 14 ((x3.toUInt32 >>> (Int32.toUInt32 8 &&& Int32.toUInt32 31)).toInt32 &&& 255)) 15 ((x3.toUInt32 >>> (Int32.toUInt32 0 &&& Int32.toUInt32 31)).toInt32 &&& 255)) 16 ((x4.toUInt32 >>> (Int32.toUInt32 24 &&& Int32.toUInt32 31)).toInt32 &&& 255)) 17 ((x4.toUInt32 >>> (Int32.toUInt32 16 &&& Int32.toUInt32 31)).toInt32 &&& 255)) 18 ((x4.toUInt32 >>> (Int32.toUInt32 8 &&& Int32.toUInt32 31)).toInt32 &&& 255)) 19 ((x4.toUInt32 >>> (Int32.toUInt32 0 &&& Int32.toUInt32 31)).toInt32 &&& 255))))]) := by
  refine Ki.of b0 (own := RX11) (nm := "feed") [(0, .ref q0), (1, .int x0), (2, .int x1), (3, .int x2), (4, .int x3), (5, .int x4)] rfl rfl (by decide +kernel) (Nat.le_of_ble_eq_true rfl) rfl ?_
  intro p e s m below meth c A C hr H locs w ls hl
  have hx := C.hx
  have hb := C.hb
  refine lv_aload_n hx hb dX11_feed_0 rfl (lv_at hl 0 rfl) ?_
  refine r_get C w 0 rfl fr_X11_65 rfl dX11_feed_1 ?_
  refine lv_bipush (v := 20) hx hb dX11_feed_4 (by decide) ?_
  refine lv_iadd hx hb dX11_feed_6 ?_
  refine z_i (v := 20) (by decide +kernel) ?_
  refine lv_sipush (v := 600) hx hb dX11_feed_7 (by decide) ?_
  refine lv_icmp_le (tgt := 15) hx hb dX11_feed_10 (by decide) (fun _ => ?_) (fun h => absurd (by decide) h)
  refine lv_aload_n hx hb dX11_feed_15 rfl (lv_at hl 0 rfl) ?_
  refine lv_iload_n hx hb dX11_feed_16 rfl (lv_at hl 1 rfl) ?_
  refine fin_v C w (run_V C w mv_X11_68 (k8_tapeNumber C.b0 q0 q1 q2 q3 q4 q5 q6 q7 q8 q9 q10 x0 H.size) [0, 1] rfl rfl 0 rfl rfl (by decide) rfl hl.1 rfl (Nat.le_of_ble_eq_true rfl) dX11_feed_17 (cells2 := 0) (slots2 := 0) (by decide)) [0, 1] [] rfl rfl (by decide) (cells2 := 0) (slots2 := 0) (by decide) (fun u1 H locs w => ?_)
  have w : Wd s G A [(q0, .inr (11, [.ref q1, .ref q2, .ref q3, .ref q4, .ref q5, .ref q6, .ref q7, .ref q8, .ref q9, .ref q10, .int 4, .int (-1), .int 0, .int 0, .null, .null, .null, .null, .null])), (q1, .inl (G.2.1, 600, .inl (upd (upd (upd (upd (fun _ => 0) 0 ((x0.toUInt32 >>> (Int32.toUInt32 24 &&& Int32.toUInt32 31)).toInt32 &&& 255)) 1 ((x0.toUInt32 >>> (Int32.toUInt32 16 &&& Int32.toUInt32 31)).toInt32 &&& 255)) 2 ((x0.toUInt32 >>> (Int32.toUInt32 8 &&& Int32.toUInt32 31)).toInt32 &&& 255)) 3 ((x0.toUInt32 >>> (Int32.toUInt32 0 &&& Int32.toUInt32 31)).toInt32 &&& 255))))] H locs := w
  refine lv_aload_n hx hb dX11_feed_20 rfl (lv_at hl 0 rfl) ?_
  refine lv_iload_n hx hb dX11_feed_21 rfl (lv_at hl 2 rfl) ?_
  refine fin_v C w (run_V C w mv_X11_68 (k9_tapeNumber C.b0 q0 q1 q2 q3 q4 q5 q6 q7 q8 q9 q10 x1 (upd (upd (upd (upd (fun _ => 0) 0 ((x0.toUInt32 >>> (Int32.toUInt32 24 &&& Int32.toUInt32 31)).toInt32 &&& 255)) 1 ((x0.toUInt32 >>> (Int32.toUInt32 16 &&& Int32.toUInt32 31)).toInt32 &&& 255)) 2 ((x0.toUInt32 >>> (Int32.toUInt32 8 &&& Int32.toUInt32 31)).toInt32 &&& 255)) 3 ((x0.toUInt32 >>> (Int32.toUInt32 0 &&& Int32.toUInt32 31)).toInt32 &&& 255)) H.size) [0, 1] rfl rfl 0 rfl rfl (by decide) rfl hl.1 rfl (Nat.le_of_ble_eq_true rfl) dX11_feed_22 (cells2 := 0) (slots2 := 0) (by decide)) [0, 1] [] rfl rfl (by decide) (cells2 := 0) (slots2 := 0) (by decide) (fun u2 H locs w => ?_)
  have w : Wd s G A [(q0, .inr (11, [.ref q1, .ref q2, .ref q3, .ref q4, .ref q5, .ref q6, .ref q7, .ref q8, .ref q9, .ref q10, .int 8, .int (-1), .int 0, .int 0, .null, .null, .null, .null, .null])), (q1, .inl (G.2.1, 600, .inl (upd (upd (upd (upd (upd (upd (upd (upd (fun _ => 0) 0 ((x0.toUInt32 >>> (Int32.toUInt32 24 &&& Int32.toUInt32 31)).toInt32 &&& 255)) 1 ((x0.toUInt32 >>> (Int32.toUInt32 16 &&& Int32.toUInt32 31)).toInt32 &&& 255)) 2 ((x0.toUInt32 >>> (Int32.toUInt32 8 &&& Int32.toUInt32 31)).toInt32 &&& 255)) 3 ((x0.toUInt32 >>> (Int32.toUInt32 0 &&& Int32.toUInt32 31)).toInt32 &&& 255)) 4 ((x1.toUInt32 >>> (Int32.toUInt32 24 &&& Int32.toUInt32 31)).toInt32 &&& 255)) 5 ((x1.toUInt32 >>> (Int32.toUInt32 16 &&& Int32.toUInt32 31)).toInt32 &&& 255)) 6 ((x1.toUInt32 >>> (Int32.toUInt32 8 &&& Int32.toUInt32 31)).toInt32 &&& 255)) 7 ((x1.toUInt32 >>> (Int32.toUInt32 0 &&& Int32.toUInt32 31)).toInt32 &&& 255))))] H locs := w
  refine lv_aload_n hx hb dX11_feed_25 rfl (lv_at hl 0 rfl) ?_
  refine lv_iload_n hx hb dX11_feed_26 rfl (lv_at hl 3 rfl) ?_
  refine fin_v C w (run_V C w mv_X11_68 (k10_tapeNumber C.b0 q0 q1 q2 q3 q4 q5 q6 q7 q8 q9 q10 x2 (upd (upd (upd (upd (upd (upd (upd (upd (fun _ => 0) 0 ((x0.toUInt32 >>> (Int32.toUInt32 24 &&& Int32.toUInt32 31)).toInt32 &&& 255)) 1 ((x0.toUInt32 >>> (Int32.toUInt32 16 &&& Int32.toUInt32 31)).toInt32 &&& 255)) 2 ((x0.toUInt32 >>> (Int32.toUInt32 8 &&& Int32.toUInt32 31)).toInt32 &&& 255)) 3 ((x0.toUInt32 >>> (Int32.toUInt32 0 &&& Int32.toUInt32 31)).toInt32 &&& 255)) 4 ((x1.toUInt32 >>> (Int32.toUInt32 24 &&& Int32.toUInt32 31)).toInt32 &&& 255)) 5 ((x1.toUInt32 >>> (Int32.toUInt32 16 &&& Int32.toUInt32 31)).toInt32 &&& 255)) 6 ((x1.toUInt32 >>> (Int32.toUInt32 8 &&& Int32.toUInt32 31)).toInt32 &&& 255)) 7 ((x1.toUInt32 >>> (Int32.toUInt32 0 &&& Int32.toUInt32 31)).toInt32 &&& 255)) H.size) [0, 1] rfl rfl 0 rfl rfl (by decide) rfl hl.1 rfl (Nat.le_of_ble_eq_true rfl) dX11_feed_27 (cells2 := 0) (slots2 := 0) (by decide)) [0, 1] [] rfl rfl (by decide) (cells2 := 0) (slots2 := 0) (by decide) (fun u3 H locs w => ?_)
  have w : Wd s G A [(q0, .inr (11, [.ref q1, .ref q2, .ref q3, .ref q4, .ref q5, .ref q6, .ref q7, .ref q8, .ref q9, .ref q10, .int 12, .int (-1), .int 0, .int 0, .null, .null, .null, .null, .null])), (q1, .inl (G.2.1, 600, .inl (upd (upd (upd (upd (upd (upd (upd (upd (upd (upd (upd (upd (fun _ => 0) 0 ((x0.toUInt32 >>> (Int32.toUInt32 24 &&& Int32.toUInt32 31)).toInt32 &&& 255)) 1 ((x0.toUInt32 >>> (Int32.toUInt32 16 &&& Int32.toUInt32 31)).toInt32 &&& 255)) 2 ((x0.toUInt32 >>> (Int32.toUInt32 8 &&& Int32.toUInt32 31)).toInt32 &&& 255)) 3 ((x0.toUInt32 >>> (Int32.toUInt32 0 &&& Int32.toUInt32 31)).toInt32 &&& 255)) 4 ((x1.toUInt32 >>> (Int32.toUInt32 24 &&& Int32.toUInt32 31)).toInt32 &&& 255)) 5 ((x1.toUInt32 >>> (Int32.toUInt32 16 &&& Int32.toUInt32 31)).toInt32 &&& 255)) 6 ((x1.toUInt32 >>> (Int32.toUInt32 8 &&& Int32.toUInt32 31)).toInt32 &&& 255)) 7 ((x1.toUInt32 >>> (Int32.toUInt32 0 &&& Int32.toUInt32 31)).toInt32 &&& 255)) 8 ((x2.toUInt32 >>> (Int32.toUInt32 24 &&& Int32.toUInt32 31)).toInt32 &&& 255)) 9 ((x2.toUInt32 >>> (Int32.toUInt32 16 &&& Int32.toUInt32 31)).toInt32 &&& 255)) 10 ((x2.toUInt32 >>> (Int32.toUInt32 8 &&& Int32.toUInt32 31)).toInt32 &&& 255)) 11 ((x2.toUInt32 >>> (Int32.toUInt32 0 &&& Int32.toUInt32 31)).toInt32 &&& 255))))] H locs := w
  refine lv_aload_n hx hb dX11_feed_30 rfl (lv_at hl 0 rfl) ?_
  refine lv_iload hx hb dX11_feed_31 (lv_at hl 4 rfl) ?_
  refine fin_v C w (run_V C w mv_X11_68 (k11_tapeNumber C.b0 q0 q1 q2 q3 q4 q5 q6 q7 q8 q9 q10 x3 (upd (upd (upd (upd (upd (upd (upd (upd (upd (upd (upd (upd (fun _ => 0) 0 ((x0.toUInt32 >>> (Int32.toUInt32 24 &&& Int32.toUInt32 31)).toInt32 &&& 255)) 1 ((x0.toUInt32 >>> (Int32.toUInt32 16 &&& Int32.toUInt32 31)).toInt32 &&& 255)) 2 ((x0.toUInt32 >>> (Int32.toUInt32 8 &&& Int32.toUInt32 31)).toInt32 &&& 255)) 3 ((x0.toUInt32 >>> (Int32.toUInt32 0 &&& Int32.toUInt32 31)).toInt32 &&& 255)) 4 ((x1.toUInt32 >>> (Int32.toUInt32 24 &&& Int32.toUInt32 31)).toInt32 &&& 255)) 5 ((x1.toUInt32 >>> (Int32.toUInt32 16 &&& Int32.toUInt32 31)).toInt32 &&& 255)) 6 ((x1.toUInt32 >>> (Int32.toUInt32 8 &&& Int32.toUInt32 31)).toInt32 &&& 255)) 7 ((x1.toUInt32 >>> (Int32.toUInt32 0 &&& Int32.toUInt32 31)).toInt32 &&& 255)) 8 ((x2.toUInt32 >>> (Int32.toUInt32 24 &&& Int32.toUInt32 31)).toInt32 &&& 255)) 9 ((x2.toUInt32 >>> (Int32.toUInt32 16 &&& Int32.toUInt32 31)).toInt32 &&& 255)) 10 ((x2.toUInt32 >>> (Int32.toUInt32 8 &&& Int32.toUInt32 31)).toInt32 &&& 255)) 11 ((x2.toUInt32 >>> (Int32.toUInt32 0 &&& Int32.toUInt32 31)).toInt32 &&& 255)) H.size) [0, 1] rfl rfl 0 rfl rfl (by decide) rfl hl.1 rfl (Nat.le_of_ble_eq_true rfl) dX11_feed_33 (cells2 := 0) (slots2 := 0) (by decide)) [0, 1] [] rfl rfl (by decide) (cells2 := 0) (slots2 := 0) (by decide) (fun u4 H locs w => ?_)
  have w : Wd s G A [(q0, .inr (11, [.ref q1, .ref q2, .ref q3, .ref q4, .ref q5, .ref q6, .ref q7, .ref q8, .ref q9, .ref q10, .int 16, .int (-1), .int 0, .int 0, .null, .null, .null, .null, .null])), (q1, .inl (G.2.1, 600, .inl (upd (upd (upd (upd (upd (upd (upd (upd (upd (upd (upd (upd (upd (upd (upd (upd (fun _ => 0) 0 ((x0.toUInt32 >>> (Int32.toUInt32 24 &&& Int32.toUInt32 31)).toInt32 &&& 255)) 1 ((x0.toUInt32 >>> (Int32.toUInt32 16 &&& Int32.toUInt32 31)).toInt32 &&& 255)) 2 ((x0.toUInt32 >>> (Int32.toUInt32 8 &&& Int32.toUInt32 31)).toInt32 &&& 255)) 3 ((x0.toUInt32 >>> (Int32.toUInt32 0 &&& Int32.toUInt32 31)).toInt32 &&& 255)) 4 ((x1.toUInt32 >>> (Int32.toUInt32 24 &&& Int32.toUInt32 31)).toInt32 &&& 255)) 5 ((x1.toUInt32 >>> (Int32.toUInt32 16 &&& Int32.toUInt32 31)).toInt32 &&& 255)) 6 ((x1.toUInt32 >>> (Int32.toUInt32 8 &&& Int32.toUInt32 31)).toInt32 &&& 255)) 7 ((x1.toUInt32 >>> (Int32.toUInt32 0 &&& Int32.toUInt32 31)).toInt32 &&& 255)) 8 ((x2.toUInt32 >>> (Int32.toUInt32 24 &&& Int32.toUInt32 31)).toInt32 &&& 255)) 9 ((x2.toUInt32 >>> (Int32.toUInt32 16 &&& Int32.toUInt32 31)).toInt32 &&& 255)) 10 ((x2.toUInt32 >>> (Int32.toUInt32 8 &&& Int32.toUInt32 31)).toInt32 &&& 255)) 11 ((x2.toUInt32 >>> (Int32.toUInt32 0 &&& Int32.toUInt32 31)).toInt32 &&& 255)) 12 ((x3.toUInt32 >>> (Int32.toUInt32 24 &&& Int32.toUInt32 31)).toInt32 &&& 255)) 13 ((x3.toUInt32 >>> (Int32.toUInt32 16 &&& Int32.toUInt32 31)).toInt32 &&& 255)) 14 ((x3.toUInt32 >>> (Int32.toUInt32 8 &&& Int32.toUInt32 31)).toInt32 &&& 255)) 15 ((x3.toUInt32 >>> (Int32.toUInt32 0 &&& Int32.toUInt32 31)).toInt32 &&& 255))))] H locs := w
  refine lv_aload_n hx hb dX11_feed_36 rfl (lv_at hl 0 rfl) ?_
  refine lv_iload hx hb dX11_feed_37 (lv_at hl 5 rfl) ?_
  refine fin_v C w (run_V C w mv_X11_68 (k12_tapeNumber C.b0 q0 q1 q2 q3 q4 q5 q6 q7 q8 q9 q10 x4 (upd (upd (upd (upd (upd (upd (upd (upd (upd (upd (upd (upd (upd (upd (upd (upd (fun _ => 0) 0 ((x0.toUInt32 >>> (Int32.toUInt32 24 &&& Int32.toUInt32 31)).toInt32 &&& 255)) 1 ((x0.toUInt32 >>> (Int32.toUInt32 16 &&& Int32.toUInt32 31)).toInt32 &&& 255)) 2 ((x0.toUInt32 >>> (Int32.toUInt32 8 &&& Int32.toUInt32 31)).toInt32 &&& 255)) 3 ((x0.toUInt32 >>> (Int32.toUInt32 0 &&& Int32.toUInt32 31)).toInt32 &&& 255)) 4 ((x1.toUInt32 >>> (Int32.toUInt32 24 &&& Int32.toUInt32 31)).toInt32 &&& 255)) 5 ((x1.toUInt32 >>> (Int32.toUInt32 16 &&& Int32.toUInt32 31)).toInt32 &&& 255)) 6 ((x1.toUInt32 >>> (Int32.toUInt32 8 &&& Int32.toUInt32 31)).toInt32 &&& 255)) 7 ((x1.toUInt32 >>> (Int32.toUInt32 0 &&& Int32.toUInt32 31)).toInt32 &&& 255)) 8 ((x2.toUInt32 >>> (Int32.toUInt32 24 &&& Int32.toUInt32 31)).toInt32 &&& 255)) 9 ((x2.toUInt32 >>> (Int32.toUInt32 16 &&& Int32.toUInt32 31)).toInt32 &&& 255)) 10 ((x2.toUInt32 >>> (Int32.toUInt32 8 &&& Int32.toUInt32 31)).toInt32 &&& 255)) 11 ((x2.toUInt32 >>> (Int32.toUInt32 0 &&& Int32.toUInt32 31)).toInt32 &&& 255)) 12 ((x3.toUInt32 >>> (Int32.toUInt32 24 &&& Int32.toUInt32 31)).toInt32 &&& 255)) 13 ((x3.toUInt32 >>> (Int32.toUInt32 16 &&& Int32.toUInt32 31)).toInt32 &&& 255)) 14 ((x3.toUInt32 >>> (Int32.toUInt32 8 &&& Int32.toUInt32 31)).toInt32 &&& 255)) 15 ((x3.toUInt32 >>> (Int32.toUInt32 0 &&& Int32.toUInt32 31)).toInt32 &&& 255)) H.size) [0, 1] rfl rfl 0 rfl rfl (by decide) rfl hl.1 rfl (Nat.le_of_ble_eq_true rfl) dX11_feed_39 (cells2 := 0) (slots2 := 0) (by decide)) [0, 1] [] rfl rfl (by decide) (cells2 := 0) (slots2 := 0) (by decide) (fun u5 H locs w => ?_)
  have w : Wd s G A [(q0, .inr (11, [.ref q1, .ref q2, .ref q3, .ref q4, .ref q5, .ref q6, .ref q7, .ref q8, .ref q9, .ref q10, .int 20, .int (-1), .int 0, .int 0, .null, .null, .null, .null, .null])), (q1, .inl (G.2.1, 600, .inl (upd (upd (upd (upd (upd (upd (upd (upd (upd (upd (upd (upd (upd (upd (upd (upd (upd (upd (upd (upd (fun _ => 0) 0 ((x0.toUInt32 >>> (Int32.toUInt32 24 &&& Int32.toUInt32 31)).toInt32 &&& 255)) 1 ((x0.toUInt32 >>> (Int32.toUInt32 16 &&& Int32.toUInt32 31)).toInt32 &&& 255)) 2 ((x0.toUInt32 >>> (Int32.toUInt32 8 &&& Int32.toUInt32 31)).toInt32 &&& 255)) 3 ((x0.toUInt32 >>> (Int32.toUInt32 0 &&& Int32.toUInt32 31)).toInt32 &&& 255)) 4 ((x1.toUInt32 >>> (Int32.toUInt32 24 &&& Int32.toUInt32 31)).toInt32 &&& 255)) 5 ((x1.toUInt32 >>> (Int32.toUInt32 16 &&& Int32.toUInt32 31)).toInt32 &&& 255)) 6 ((x1.toUInt32 >>> (Int32.toUInt32 8 &&& Int32.toUInt32 31)).toInt32 &&& 255)) 7 ((x1.toUInt32 >>> (Int32.toUInt32 0 &&& Int32.toUInt32 31)).toInt32 &&& 255)) 8 ((x2.toUInt32 >>> (Int32.toUInt32 24 &&& Int32.toUInt32 31)).toInt32 &&& 255)) 9 ((x2.toUInt32 >>> (Int32.toUInt32 16 &&& Int32.toUInt32 31)).toInt32 &&& 255)) 10 ((x2.toUInt32 >>> (Int32.toUInt32 8 &&& Int32.toUInt32 31)).toInt32 &&& 255)) 11 ((x2.toUInt32 >>> (Int32.toUInt32 0 &&& Int32.toUInt32 31)).toInt32 &&& 255)) 12 ((x3.toUInt32 >>> (Int32.toUInt32 24 &&& Int32.toUInt32 31)).toInt32 &&& 255)) 13 ((x3.toUInt32 >>> (Int32.toUInt32 16 &&& Int32.toUInt32 31)).toInt32 &&& 255)) 14 ((x3.toUInt32 >>> (Int32.toUInt32 8 &&& Int32.toUInt32 31)).toInt32 &&& 255)) 15 ((x3.toUInt32 >>> (Int32.toUInt32 0 &&& Int32.toUInt32 31)).toInt32 &&& 255)) 16 ((x4.toUInt32 >>> (Int32.toUInt32 24 &&& Int32.toUInt32 31)).toInt32 &&& 255)) 17 ((x4.toUInt32 >>> (Int32.toUInt32 16 &&& Int32.toUInt32 31)).toInt32 &&& 255)) 18 ((x4.toUInt32 >>> (Int32.toUInt32 8 &&& Int32.toUInt32 31)).toInt32 &&& 255)) 19 ((x4.toUInt32 >>> (Int32.toUInt32 0 &&& Int32.toUInt32 31)).toInt32 &&& 255))))] H locs := w
  refine lv_aload_n hx hb dX11_feed_42 rfl (lv_at hl 0 rfl) ?_
  refine r_get C w 0 rfl fr_X11_65 rfl dX11_feed_43 ?_
  exact e_i C hr w (fun _ => 0) [0, 1] rfl rfl rfl dX11_feed_46 (by decide) (by decide)
set_option maxRecDepth 100000 in
set_option maxHeartbeats 4000000 in
theorem k14_feed {l : Launch} {s0 : State} {a0 : Array Value} {G : GT} (b0 : B0 l s0 a0 G) (q0 q1 q2 q3 q4 q5 q6 q7 q8 q9 q10 q11 q12 q13 q14 q15 q16 q17 q18 q19 q20 q21 q22 q23 q24 q25 q26 q27 q28 q29 q30 q31 q32 q33 q34 q35 q36 q37 q38 q39 q40 q41 q42 : Nat) (x0 : Int32) (x1 : Int32) (x2 : Int32) (x3 : Int32) (x4 : Int32) (sz : Nat) : Ki l s0 G yX12_feed cX12_feed 8 (some .int) { frames := 0, cells := 0, slots := 0, locals := 0 } [.ref q0, .int x0, .int x1, .int x2, .int x3, .int x4] [(q0, .inr (12, [.int 0, .int 0, .int 0, .int 0, .int 0, .int 0, .int 0, .int (-1), .ref q1, .ref q2, .ref q3, .int 0, .ref q4, .ref q5, .ref q6, .ref q7, .ref q8, .ref q9, .ref q10, .int 0, .ref q11, .ref q12, .ref q13, .ref q14, .ref q15, .ref q16, .ref q17, .int 0, .int (-1), .int 0, .ref q18, .ref q19, .ref q20, .ref q21, .ref q22, .ref q23, .ref q24, .ref q25, .int 0, .ref q26, .ref q27, .ref q28, .ref q29, .ref q30, .int 0, .ref q31, .ref q32, .ref q33, .ref q34, .int 0, .ref q35, .ref q36, .ref q37, .ref q38, .int 0, .int 0, .ref q39, .ref q40, .ref q41, .ref q42])), (q1, .inl (G.2.1, 600, .inl (fun _ => 0)))] sz 20 (fun u => [(q0, .inr (12, [.int 0, .int 20, .int 0, .int 0, .int 0, .int 0, .int 0, .int (-1), .ref q1, .ref q2, .ref q3, .int 0, .ref q4, .ref q5, .ref q6, .ref q7, .ref q8, .ref q9, .ref q10, .int 0, .ref q11, .ref q12, .ref q13, .ref q14, .ref q15, .ref q16, .ref q17, .int 0, .int (-1), .int 0, .ref q18, .ref q19, .ref q20, .ref q21, .ref q22, .ref q23, .ref q24, .ref q25, .int 0, .ref q26, .ref q27, .ref q28, .ref q29, .ref q30, .int 0, .ref q31, .ref q32, .ref q33, .ref q34, .int 0, .ref q35, .ref q36, .ref q37, .ref q38, .int 0, .int 0, .ref q39, .ref q40, .ref q41, .ref q42])), (q1, .inl (G.2.1, 600, .inl (upd (upd (upd (upd (upd (upd (upd (upd (upd (upd (upd (upd (upd (upd (upd (upd (upd (upd (upd (upd (fun _ => 0) 0 ((x0 >>> (24 &&& 31)) &&& 255)) 1 ((x0 >>> (16 &&& 31)) &&& 255)) 2 ((x0 >>> (8 &&& 31)) &&& 255)) 3 ((x0 >>> (0 &&& 31)) &&& 255)) 4 ((x1 >>> (24 &&& 31)) &&& 255)) 5 ((x1 >>> (16 &&& 31)) &&& 255)) 6 ((x1 >>> (8 &&& 31)) &&& 255)) 7 ((x1 >>> (0 &&& 31)) &&& 255)) 8 ((x2 >>> (24 &&& 31)) &&& 255)) 9 ((x2 >>> (16 &&& 31)) &&& 255)) 10 ((x2 >>> (8 &&& 31)) &&& 255)) 11 ((x2 >>> (0 &&& 31)) &&& 255)) 12 ((x3 >>> (24 &&& 31)) &&& 255)) 13 ((x3 >>> (16 &&& 31)) &&& 255)) 14 ((x3 >>> (8 &&& 31)) &&& 255)) 15 ((x3 >>> (0 &&& 31)) &&& 255)) 16 ((x4 >>> (24 &&& 31)) &&& 255)) 17 ((x4 >>> (16 &&& 31)) &&& 255)) 18 ((x4 >>> (8 &&& 31)) &&& 255)) 19 ((x4 >>> (0 &&& 31)) &&& 255))))]) := by
  refine Ki.of b0 (own := RX12) (nm := "feed") [(0, .ref q0), (1, .int x0), (2, .int x1), (3, .int x2), (4, .int x3), (5, .int x4)] rfl rfl (by decide +kernel) (Nat.le_of_ble_eq_true rfl) rfl ?_
  intro p e s m below meth c A C hr H locs w ls hl
  have hx := C.hx
  have hb := C.hb
  refine lv_aload_n hx hb dX12_feed_0 rfl (lv_at hl 0 rfl) ?_
  refine lv_iconst (v := 0) hx hb dX12_feed_1 (by decide) ?_
  refine r_put C w 0 rfl fl_X12_1 (Nat.le_of_ble_eq_true rfl) rfl rfl dX12_feed_2 (ws2 := [(q0, .inr (12, [.int 0, .int 0, .int 0, .int 0, .int 0, .int 0, .int 0, .int (-1), .ref q1, .ref q2, .ref q3, .int 0, .ref q4, .ref q5, .ref q6, .ref q7, .ref q8, .ref q9, .ref q10, .int 0, .ref q11, .ref q12, .ref q13, .ref q14, .ref q15, .ref q16, .ref q17, .int 0, .int (-1), .int 0, .ref q18, .ref q19, .ref q20, .ref q21, .ref q22, .ref q23, .ref q24, .ref q25, .int 0, .ref q26, .ref q27, .ref q28, .ref q29, .ref q30, .int 0, .ref q31, .ref q32, .ref q33, .ref q34, .int 0, .ref q35, .ref q36, .ref q37, .ref q38, .int 0, .int 0, .ref q39, .ref q40, .ref q41, .ref q42])), (q1, .inl (G.2.1, 600, .inl (fun _ => 0)))]) rfl (fun H locs w => ?_)
  refine lv_aload_n hx hb dX12_feed_5 rfl (lv_at hl 0 rfl) ?_
  refine r_get C w 0 rfl fr_X12_148 rfl dX12_feed_6 ?_
  refine lv_bipush (v := 20) hx hb dX12_feed_9 (by decide) ?_
  refine lv_iadd hx hb dX12_feed_11 ?_
  refine z_i (v := 20) (by decide +kernel) ?_
  refine lv_sipush (v := 600) hx hb dX12_feed_12 (by decide) ?_
  refine lv_icmp_le (tgt := 20) hx hb dX12_feed_15 (by decide) (fun _ => ?_) (fun h => absurd (by decide) h)
  refine lv_iconst (v := 0) hx hb dX12_feed_20 (by decide) ?_
  refine lv_istore (lv' := [(6, .int 0), (0, .ref q0), (1, .int x0), (2, .int x1), (3, .int x2), (4, .int x3), (5, .int x4)]) hx hb dX12_feed_21 hl (by decide) rfl (fun ls hl => ?_)
  refine lv_iload hx hb dX12_feed_23 (lv_at hl 0 rfl) ?_
  refine lv_bipush (v := 20) hx hb dX12_feed_25 (by decide) ?_
  refine lv_icmp_ge (tgt := 120) hx hb dX12_feed_27 (by decide) (fun h => absurd h (by decide)) (fun _ => ?_)
  refine lv_iload hx hb dX12_feed_30 (lv_at hl 0 rfl) ?_
  refine lv_iconst (v := 4) hx hb dX12_feed_32 (by decide) ?_
  refine lv_icmp_ge (tgt := 40) hx hb dX12_feed_33 (by decide) (fun h => absurd h (by decide)) (fun _ => ?_)
  refine lv_iload_n hx hb dX12_feed_36 rfl (lv_at hl 2 rfl) ?_
  refine lv_goto (tgt := 76) hx hb dX12_feed_37 (by decide) ?_
  refine lv_istore (lv' := [(7, .int x0), (6, .int 0), (0, .ref q0), (1, .int x0), (2, .int x1), (3, .int x2), (4, .int x3), (5, .int x4)]) hx hb dX12_feed_76 hl (by decide) rfl (fun ls hl => ?_)
  refine lv_aload_n hx hb dX12_feed_78 rfl (lv_at hl 2 rfl) ?_
  refine r_get C w 0 rfl fr_X12_16 rfl dX12_feed_79 ?_
  refine lv_aload_n hx hb dX12_feed_82 rfl (lv_at hl 2 rfl) ?_
  refine r_get C w 0 rfl fr_X12_148 rfl dX12_feed_83 ?_
  refine lv_iload hx hb dX12_feed_86 (lv_at hl 0 rfl) ?_
  refine lv_bipush (v := 24) hx hb dX12_feed_88 (by decide) ?_
  refine lv_bipush (v := 8) hx hb dX12_feed_90 (by decide) ?_
  refine lv_iload hx hb dX12_feed_92 (lv_at hl 1 rfl) ?_
  refine lv_iconst (v := 4) hx hb dX12_feed_94 (by decide) ?_
  refine lv_irem hx hb dX12_feed_95 (by decide) ?_
  refine z_i (v := 0) (by decide +kernel) ?_
  refine lv_imul hx hb dX12_feed_96 ?_
  refine z_i (v := 0) (by decide +kernel) ?_
  refine lv_isub hx hb dX12_feed_97 ?_
  refine z_i (v := 24) (by decide +kernel) ?_
  refine lv_ishr hx hb dX12_feed_98 ?_
  refine lv_sipush (v := 255) hx hb dX12_feed_99 (by decide) ?_
  refine lv_iand hx hb dX12_feed_102 ?_
  refine r_iast C w 1 rfl (IX.of (k := 0) (by decide +kernel)) (g := (upd (fun _ => 0) 0 ((x0 >>> (24 &&& 31)) &&& 255))) rfl dX12_feed_103 (ws2 := [(q0, .inr (12, [.int 0, .int 0, .int 0, .int 0, .int 0, .int 0, .int 0, .int (-1), .ref q1, .ref q2, .ref q3, .int 0, .ref q4, .ref q5, .ref q6, .ref q7, .ref q8, .ref q9, .ref q10, .int 0, .ref q11, .ref q12, .ref q13, .ref q14, .ref q15, .ref q16, .ref q17, .int 0, .int (-1), .int 0, .ref q18, .ref q19, .ref q20, .ref q21, .ref q22, .ref q23, .ref q24, .ref q25, .int 0, .ref q26, .ref q27, .ref q28, .ref q29, .ref q30, .int 0, .ref q31, .ref q32, .ref q33, .ref q34, .int 0, .ref q35, .ref q36, .ref q37, .ref q38, .int 0, .int 0, .ref q39, .ref q40, .ref q41, .ref q42])), (q1, .inl (G.2.1, 600, .inl (upd (fun _ => 0) 0 ((x0 >>> (24 &&& 31)) &&& 255))))]) rfl (fun H locs w => ?_)
  refine lv_aload_n hx hb dX12_feed_104 rfl (lv_at hl 2 rfl) ?_
  refine lv_dup hx hb dX12_feed_105 rfl ?_
  refine r_get C w 0 rfl fr_X12_148 rfl dX12_feed_106 ?_
  refine lv_iconst (v := 1) hx hb dX12_feed_109 (by decide) ?_
  refine lv_iadd hx hb dX12_feed_110 ?_
  refine z_i (v := 1) (by decide +kernel) ?_
  refine r_put C w 0 rfl fl_X12_148 (Nat.le_of_ble_eq_true rfl) rfl rfl dX12_feed_111 (ws2 := [(q0, .inr (12, [.int 0, .int 1, .int 0, .int 0, .int 0, .int 0, .int 0, .int (-1), .ref q1, .ref q2, .ref q3, .int 0, .ref q4, .ref q5, .ref q6, .ref q7, .ref q8, .ref q9, .ref q10, .int 0, .ref q11, .ref q12, .ref q13, .ref q14, .ref q15, .ref q16, .ref q17, .int 0, .int (-1), .int 0, .ref q18, .ref q19, .ref q20, .ref q21, .ref q22, .ref q23, .ref q24, .ref q25, .int 0, .ref q26, .ref q27, .ref q28, .ref q29, .ref q30, .int 0, .ref q31, .ref q32, .ref q33, .ref q34, .int 0, .ref q35, .ref q36, .ref q37, .ref q38, .int 0, .int 0, .ref q39, .ref q40, .ref q41, .ref q42])), (q1, .inl (G.2.1, 600, .inl (upd (fun _ => 0) 0 ((x0 >>> (24 &&& 31)) &&& 255))))]) rfl (fun H locs w => ?_)
  refine lv_iinc (v := 1) (lv' := [(6, .int 1), (7, .int x0), (0, .ref q0), (1, .int x0), (2, .int x1), (3, .int x2), (4, .int x3), (5, .int x4)]) hx hb dX12_feed_114 hl (k := 1) rfl (by decide +kernel) (by decide) rfl (fun ls hl => ?_)
  refine lv_goto (tgt := 23) hx hb dX12_feed_117 (by decide) ?_
  refine lv_iload hx hb dX12_feed_23 (lv_at hl 0 rfl) ?_
  refine lv_bipush (v := 20) hx hb dX12_feed_25 (by decide) ?_
  refine lv_icmp_ge (tgt := 120) hx hb dX12_feed_27 (by decide) (fun h => absurd h (by decide)) (fun _ => ?_)
  refine lv_iload hx hb dX12_feed_30 (lv_at hl 0 rfl) ?_
  refine lv_iconst (v := 4) hx hb dX12_feed_32 (by decide) ?_
  refine lv_icmp_ge (tgt := 40) hx hb dX12_feed_33 (by decide) (fun h => absurd h (by decide)) (fun _ => ?_)
  refine lv_iload_n hx hb dX12_feed_36 rfl (lv_at hl 3 rfl) ?_
  refine lv_goto (tgt := 76) hx hb dX12_feed_37 (by decide) ?_
  refine lv_istore (lv' := [(7, .int x0), (6, .int 1), (0, .ref q0), (1, .int x0), (2, .int x1), (3, .int x2), (4, .int x3), (5, .int x4)]) hx hb dX12_feed_76 hl (by decide) rfl (fun ls hl => ?_)
  refine lv_aload_n hx hb dX12_feed_78 rfl (lv_at hl 2 rfl) ?_
  refine r_get C w 0 rfl fr_X12_16 rfl dX12_feed_79 ?_
  refine lv_aload_n hx hb dX12_feed_82 rfl (lv_at hl 2 rfl) ?_
  refine r_get C w 0 rfl fr_X12_148 rfl dX12_feed_83 ?_
  refine lv_iload hx hb dX12_feed_86 (lv_at hl 0 rfl) ?_
  refine lv_bipush (v := 24) hx hb dX12_feed_88 (by decide) ?_
  refine lv_bipush (v := 8) hx hb dX12_feed_90 (by decide) ?_
  refine lv_iload hx hb dX12_feed_92 (lv_at hl 1 rfl) ?_
  refine lv_iconst (v := 4) hx hb dX12_feed_94 (by decide) ?_
  refine lv_irem hx hb dX12_feed_95 (by decide) ?_
  refine z_i (v := 1) (by decide +kernel) ?_
  refine lv_imul hx hb dX12_feed_96 ?_
  refine z_i (v := 8) (by decide +kernel) ?_
  refine lv_isub hx hb dX12_feed_97 ?_
  refine z_i (v := 16) (by decide +kernel) ?_
  refine lv_ishr hx hb dX12_feed_98 ?_
  refine lv_sipush (v := 255) hx hb dX12_feed_99 (by decide) ?_
  refine lv_iand hx hb dX12_feed_102 ?_
  refine r_iast C w 1 rfl (IX.of (k := 1) (by decide +kernel)) (g := (upd (upd (fun _ => 0) 0 ((x0 >>> (24 &&& 31)) &&& 255)) 1 ((x0 >>> (16 &&& 31)) &&& 255))) rfl dX12_feed_103 (ws2 := [(q0, .inr (12, [.int 0, .int 1, .int 0, .int 0, .int 0, .int 0, .int 0, .int (-1), .ref q1, .ref q2, .ref q3, .int 0, .ref q4, .ref q5, .ref q6, .ref q7, .ref q8, .ref q9, .ref q10, .int 0, .ref q11, .ref q12, .ref q13, .ref q14, .ref q15, .ref q16, .ref q17, .int 0, .int (-1), .int 0, .ref q18, .ref q19, .ref q20, .ref q21, .ref q22, .ref q23, .ref q24, .ref q25, .int 0, .ref q26, .ref q27, .ref q28, .ref q29, .ref q30, .int 0, .ref q31, .ref q32, .ref q33, .ref q34, .int 0, .ref q35, .ref q36, .ref q37, .ref q38, .int 0, .int 0, .ref q39, .ref q40, .ref q41, .ref q42])), (q1, .inl (G.2.1, 600, .inl (upd (upd (fun _ => 0) 0 ((x0 >>> (24 &&& 31)) &&& 255)) 1 ((x0 >>> (16 &&& 31)) &&& 255))))]) rfl (fun H locs w => ?_)
  refine lv_aload_n hx hb dX12_feed_104 rfl (lv_at hl 2 rfl) ?_
  refine lv_dup hx hb dX12_feed_105 rfl ?_
  refine r_get C w 0 rfl fr_X12_148 rfl dX12_feed_106 ?_
  refine lv_iconst (v := 1) hx hb dX12_feed_109 (by decide) ?_
  refine lv_iadd hx hb dX12_feed_110 ?_
  refine z_i (v := 2) (by decide +kernel) ?_
  refine r_put C w 0 rfl fl_X12_148 (Nat.le_of_ble_eq_true rfl) rfl rfl dX12_feed_111 (ws2 := [(q0, .inr (12, [.int 0, .int 2, .int 0, .int 0, .int 0, .int 0, .int 0, .int (-1), .ref q1, .ref q2, .ref q3, .int 0, .ref q4, .ref q5, .ref q6, .ref q7, .ref q8, .ref q9, .ref q10, .int 0, .ref q11, .ref q12, .ref q13, .ref q14, .ref q15, .ref q16, .ref q17, .int 0, .int (-1), .int 0, .ref q18, .ref q19, .ref q20, .ref q21, .ref q22, .ref q23, .ref q24, .ref q25, .int 0, .ref q26, .ref q27, .ref q28, .ref q29, .ref q30, .int 0, .ref q31, .ref q32, .ref q33, .ref q34, .int 0, .ref q35, .ref q36, .ref q37, .ref q38, .int 0, .int 0, .ref q39, .ref q40, .ref q41, .ref q42])), (q1, .inl (G.2.1, 600, .inl (upd (upd (fun _ => 0) 0 ((x0 >>> (24 &&& 31)) &&& 255)) 1 ((x0 >>> (16 &&& 31)) &&& 255))))]) rfl (fun H locs w => ?_)
  refine lv_iinc (v := 2) (lv' := [(6, .int 2), (7, .int x0), (0, .ref q0), (1, .int x0), (2, .int x1), (3, .int x2), (4, .int x3), (5, .int x4)]) hx hb dX12_feed_114 hl (k := 1) rfl (by decide +kernel) (by decide) rfl (fun ls hl => ?_)
  refine lv_goto (tgt := 23) hx hb dX12_feed_117 (by decide) ?_
  refine lv_iload hx hb dX12_feed_23 (lv_at hl 0 rfl) ?_
  refine lv_bipush (v := 20) hx hb dX12_feed_25 (by decide) ?_
  refine lv_icmp_ge (tgt := 120) hx hb dX12_feed_27 (by decide) (fun h => absurd h (by decide)) (fun _ => ?_)
  refine lv_iload hx hb dX12_feed_30 (lv_at hl 0 rfl) ?_
  refine lv_iconst (v := 4) hx hb dX12_feed_32 (by decide) ?_
  refine lv_icmp_ge (tgt := 40) hx hb dX12_feed_33 (by decide) (fun h => absurd h (by decide)) (fun _ => ?_)
  refine lv_iload_n hx hb dX12_feed_36 rfl (lv_at hl 3 rfl) ?_
  refine lv_goto (tgt := 76) hx hb dX12_feed_37 (by decide) ?_
  refine lv_istore (lv' := [(7, .int x0), (6, .int 2), (0, .ref q0), (1, .int x0), (2, .int x1), (3, .int x2), (4, .int x3), (5, .int x4)]) hx hb dX12_feed_76 hl (by decide) rfl (fun ls hl => ?_)
  refine lv_aload_n hx hb dX12_feed_78 rfl (lv_at hl 2 rfl) ?_
  refine r_get C w 0 rfl fr_X12_16 rfl dX12_feed_79 ?_
  refine lv_aload_n hx hb dX12_feed_82 rfl (lv_at hl 2 rfl) ?_
  refine r_get C w 0 rfl fr_X12_148 rfl dX12_feed_83 ?_
  refine lv_iload hx hb dX12_feed_86 (lv_at hl 0 rfl) ?_
  refine lv_bipush (v := 24) hx hb dX12_feed_88 (by decide) ?_
  refine lv_bipush (v := 8) hx hb dX12_feed_90 (by decide) ?_
  refine lv_iload hx hb dX12_feed_92 (lv_at hl 1 rfl) ?_
  refine lv_iconst (v := 4) hx hb dX12_feed_94 (by decide) ?_
  refine lv_irem hx hb dX12_feed_95 (by decide) ?_
  refine z_i (v := 2) (by decide +kernel) ?_
  refine lv_imul hx hb dX12_feed_96 ?_
  refine z_i (v := 16) (by decide +kernel) ?_
  refine lv_isub hx hb dX12_feed_97 ?_
  refine z_i (v := 8) (by decide +kernel) ?_
  refine lv_ishr hx hb dX12_feed_98 ?_
  refine lv_sipush (v := 255) hx hb dX12_feed_99 (by decide) ?_
  refine lv_iand hx hb dX12_feed_102 ?_
  refine r_iast C w 1 rfl (IX.of (k := 2) (by decide +kernel)) (g := (upd (upd (upd (fun _ => 0) 0 ((x0 >>> (24 &&& 31)) &&& 255)) 1 ((x0 >>> (16 &&& 31)) &&& 255)) 2 ((x0 >>> (8 &&& 31)) &&& 255))) rfl dX12_feed_103 (ws2 := [(q0, .inr (12, [.int 0, .int 2, .int 0, .int 0, .int 0, .int 0, .int 0, .int (-1), .ref q1, .ref q2, .ref q3, .int 0, .ref q4, .ref q5, .ref q6, .ref q7, .ref q8, .ref q9, .ref q10, .int 0, .ref q11, .ref q12, .ref q13, .ref q14, .ref q15, .ref q16, .ref q17, .int 0, .int (-1), .int 0, .ref q18, .ref q19, .ref q20, .ref q21, .ref q22, .ref q23, .ref q24, .ref q25, .int 0, .ref q26, .ref q27, .ref q28, .ref q29, .ref q30, .int 0, .ref q31, .ref q32, .ref q33, .ref q34, .int 0, .ref q35, .ref q36, .ref q37, .ref q38, .int 0, .int 0, .ref q39, .ref q40, .ref q41, .ref q42])), (q1, .inl (G.2.1, 600, .inl (upd (upd (upd (fun _ => 0) 0 ((x0 >>> (24 &&& 31)) &&& 255)) 1 ((x0 >>> (16 &&& 31)) &&& 255)) 2 ((x0 >>> (8 &&& 31)) &&& 255))))]) rfl (fun H locs w => ?_)
  refine lv_aload_n hx hb dX12_feed_104 rfl (lv_at hl 2 rfl) ?_
  refine lv_dup hx hb dX12_feed_105 rfl ?_
  refine r_get C w 0 rfl fr_X12_148 rfl dX12_feed_106 ?_
  refine lv_iconst (v := 1) hx hb dX12_feed_109 (by decide) ?_
  refine lv_iadd hx hb dX12_feed_110 ?_
  refine z_i (v := 3) (by decide +kernel) ?_
  refine r_put C w 0 rfl fl_X12_148 (Nat.le_of_ble_eq_true rfl) rfl rfl dX12_feed_111 (ws2 := [(q0, .inr (12, [.int 0, .int 3, .int 0, .int 0, .int 0, .int 0, .int 0, .int (-1), .ref q1, .ref q2, .ref q3, .int 0, .ref q4, .ref q5, .ref q6, .ref q7, .ref q8, .ref q9, .ref q10, .int 0, .ref q11, .ref q12, .ref q13, .ref q14, .ref q15, .ref q16, .ref q17, .int 0, .int (-1), .int 0, .ref q18, .ref q19, .ref q20, .ref q21, .ref q22, .ref q23, .ref q24, .ref q25, .int 0, .ref q26, .ref q27, .ref q28, .ref q29, .ref q30, .int 0, .ref q31, .ref q32, .ref q33, .ref q34, .int 0, .ref q35, .ref q36, .ref q37, .ref q38, .int 0, .int 0, .ref q39, .ref q40, .ref q41, .ref q42])), (q1, .inl (G.2.1, 600, .inl (upd (upd (upd (fun _ => 0) 0 ((x0 >>> (24 &&& 31)) &&& 255)) 1 ((x0 >>> (16 &&& 31)) &&& 255)) 2 ((x0 >>> (8 &&& 31)) &&& 255))))]) rfl (fun H locs w => ?_)
  refine lv_iinc (v := 3) (lv' := [(6, .int 3), (7, .int x0), (0, .ref q0), (1, .int x0), (2, .int x1), (3, .int x2), (4, .int x3), (5, .int x4)]) hx hb dX12_feed_114 hl (k := 1) rfl (by decide +kernel) (by decide) rfl (fun ls hl => ?_)
  refine lv_goto (tgt := 23) hx hb dX12_feed_117 (by decide) ?_
  refine lv_iload hx hb dX12_feed_23 (lv_at hl 0 rfl) ?_
  refine lv_bipush (v := 20) hx hb dX12_feed_25 (by decide) ?_
  refine lv_icmp_ge (tgt := 120) hx hb dX12_feed_27 (by decide) (fun h => absurd h (by decide)) (fun _ => ?_)
  refine lv_iload hx hb dX12_feed_30 (lv_at hl 0 rfl) ?_
  refine lv_iconst (v := 4) hx hb dX12_feed_32 (by decide) ?_
  refine lv_icmp_ge (tgt := 40) hx hb dX12_feed_33 (by decide) (fun h => absurd h (by decide)) (fun _ => ?_)
  refine lv_iload_n hx hb dX12_feed_36 rfl (lv_at hl 3 rfl) ?_
  refine lv_goto (tgt := 76) hx hb dX12_feed_37 (by decide) ?_
  refine lv_istore (lv' := [(7, .int x0), (6, .int 3), (0, .ref q0), (1, .int x0), (2, .int x1), (3, .int x2), (4, .int x3), (5, .int x4)]) hx hb dX12_feed_76 hl (by decide) rfl (fun ls hl => ?_)
  refine lv_aload_n hx hb dX12_feed_78 rfl (lv_at hl 2 rfl) ?_
  refine r_get C w 0 rfl fr_X12_16 rfl dX12_feed_79 ?_
  refine lv_aload_n hx hb dX12_feed_82 rfl (lv_at hl 2 rfl) ?_
  refine r_get C w 0 rfl fr_X12_148 rfl dX12_feed_83 ?_
  refine lv_iload hx hb dX12_feed_86 (lv_at hl 0 rfl) ?_
  refine lv_bipush (v := 24) hx hb dX12_feed_88 (by decide) ?_
  refine lv_bipush (v := 8) hx hb dX12_feed_90 (by decide) ?_
  refine lv_iload hx hb dX12_feed_92 (lv_at hl 1 rfl) ?_
  refine lv_iconst (v := 4) hx hb dX12_feed_94 (by decide) ?_
  refine lv_irem hx hb dX12_feed_95 (by decide) ?_
  refine z_i (v := 3) (by decide +kernel) ?_
  refine lv_imul hx hb dX12_feed_96 ?_
  refine z_i (v := 24) (by decide +kernel) ?_
  refine lv_isub hx hb dX12_feed_97 ?_
  refine z_i (v := 0) (by decide +kernel) ?_
  refine lv_ishr hx hb dX12_feed_98 ?_
  refine lv_sipush (v := 255) hx hb dX12_feed_99 (by decide) ?_
  refine lv_iand hx hb dX12_feed_102 ?_
  refine r_iast C w 1 rfl (IX.of (k := 3) (by decide +kernel)) (g := (upd (upd (upd (upd (fun _ => 0) 0 ((x0 >>> (24 &&& 31)) &&& 255)) 1 ((x0 >>> (16 &&& 31)) &&& 255)) 2 ((x0 >>> (8 &&& 31)) &&& 255)) 3 ((x0 >>> (0 &&& 31)) &&& 255))) rfl dX12_feed_103 (ws2 := [(q0, .inr (12, [.int 0, .int 3, .int 0, .int 0, .int 0, .int 0, .int 0, .int (-1), .ref q1, .ref q2, .ref q3, .int 0, .ref q4, .ref q5, .ref q6, .ref q7, .ref q8, .ref q9, .ref q10, .int 0, .ref q11, .ref q12, .ref q13, .ref q14, .ref q15, .ref q16, .ref q17, .int 0, .int (-1), .int 0, .ref q18, .ref q19, .ref q20, .ref q21, .ref q22, .ref q23, .ref q24, .ref q25, .int 0, .ref q26, .ref q27, .ref q28, .ref q29, .ref q30, .int 0, .ref q31, .ref q32, .ref q33, .ref q34, .int 0, .ref q35, .ref q36, .ref q37, .ref q38, .int 0, .int 0, .ref q39, .ref q40, .ref q41, .ref q42])), (q1, .inl (G.2.1, 600, .inl (upd (upd (upd (upd (fun _ => 0) 0 ((x0 >>> (24 &&& 31)) &&& 255)) 1 ((x0 >>> (16 &&& 31)) &&& 255)) 2 ((x0 >>> (8 &&& 31)) &&& 255)) 3 ((x0 >>> (0 &&& 31)) &&& 255))))]) rfl (fun H locs w => ?_)
  refine lv_aload_n hx hb dX12_feed_104 rfl (lv_at hl 2 rfl) ?_
  refine lv_dup hx hb dX12_feed_105 rfl ?_
  refine r_get C w 0 rfl fr_X12_148 rfl dX12_feed_106 ?_
  refine lv_iconst (v := 1) hx hb dX12_feed_109 (by decide) ?_
  refine lv_iadd hx hb dX12_feed_110 ?_
  refine z_i (v := 4) (by decide +kernel) ?_
  refine r_put C w 0 rfl fl_X12_148 (Nat.le_of_ble_eq_true rfl) rfl rfl dX12_feed_111 (ws2 := [(q0, .inr (12, [.int 0, .int 4, .int 0, .int 0, .int 0, .int 0, .int 0, .int (-1), .ref q1, .ref q2, .ref q3, .int 0, .ref q4, .ref q5, .ref q6, .ref q7, .ref q8, .ref q9, .ref q10, .int 0, .ref q11, .ref q12, .ref q13, .ref q14, .ref q15, .ref q16, .ref q17, .int 0, .int (-1), .int 0, .ref q18, .ref q19, .ref q20, .ref q21, .ref q22, .ref q23, .ref q24, .ref q25, .int 0, .ref q26, .ref q27, .ref q28, .ref q29, .ref q30, .int 0, .ref q31, .ref q32, .ref q33, .ref q34, .int 0, .ref q35, .ref q36, .ref q37, .ref q38, .int 0, .int 0, .ref q39, .ref q40, .ref q41, .ref q42])), (q1, .inl (G.2.1, 600, .inl (upd (upd (upd (upd (fun _ => 0) 0 ((x0 >>> (24 &&& 31)) &&& 255)) 1 ((x0 >>> (16 &&& 31)) &&& 255)) 2 ((x0 >>> (8 &&& 31)) &&& 255)) 3 ((x0 >>> (0 &&& 31)) &&& 255))))]) rfl (fun H locs w => ?_)
  refine lv_iinc (v := 4) (lv' := [(6, .int 4), (7, .int x0), (0, .ref q0), (1, .int x0), (2, .int x1), (3, .int x2), (4, .int x3), (5, .int x4)]) hx hb dX12_feed_114 hl (k := 1) rfl (by decide +kernel) (by decide) rfl (fun ls hl => ?_)
  refine lv_goto (tgt := 23) hx hb dX12_feed_117 (by decide) ?_
  refine lv_iload hx hb dX12_feed_23 (lv_at hl 0 rfl) ?_
  refine lv_bipush (v := 20) hx hb dX12_feed_25 (by decide) ?_
  refine lv_icmp_ge (tgt := 120) hx hb dX12_feed_27 (by decide) (fun h => absurd h (by decide)) (fun _ => ?_)
  refine lv_iload hx hb dX12_feed_30 (lv_at hl 0 rfl) ?_
  refine lv_iconst (v := 4) hx hb dX12_feed_32 (by decide) ?_
  refine lv_icmp_ge (tgt := 40) hx hb dX12_feed_33 (by decide) (fun _ => ?_) (fun h => absurd (by decide) h)
  refine lv_iload hx hb dX12_feed_40 (lv_at hl 0 rfl) ?_
  refine lv_bipush (v := 8) hx hb dX12_feed_42 (by decide) ?_
  refine lv_icmp_ge (tgt := 51) hx hb dX12_feed_44 (by decide) (fun h => absurd h (by decide)) (fun _ => ?_)
  refine lv_iload_n hx hb dX12_feed_47 rfl (lv_at hl 4 rfl) ?_
  refine lv_goto (tgt := 76) hx hb dX12_feed_48 (by decide) ?_
  refine lv_istore (lv' := [(7, .int x1), (6, .int 4), (0, .ref q0), (1, .int x0), (2, .int x1), (3, .int x2), (4, .int x3), (5, .int x4)]) hx hb dX12_feed_76 hl (by decide) rfl (fun ls hl => ?_)
  refine lv_aload_n hx hb dX12_feed_78 rfl (lv_at hl 2 rfl) ?_
  refine r_get C w 0 rfl fr_X12_16 rfl dX12_feed_79 ?_
  refine lv_aload_n hx hb dX12_feed_82 rfl (lv_at hl 2 rfl) ?_
  refine r_get C w 0 rfl fr_X12_148 rfl dX12_feed_83 ?_
  refine lv_iload hx hb dX12_feed_86 (lv_at hl 0 rfl) ?_
  refine lv_bipush (v := 24) hx hb dX12_feed_88 (by decide) ?_
  refine lv_bipush (v := 8) hx hb dX12_feed_90 (by decide) ?_
  refine lv_iload hx hb dX12_feed_92 (lv_at hl 1 rfl) ?_
  refine lv_iconst (v := 4) hx hb dX12_feed_94 (by decide) ?_
  refine lv_irem hx hb dX12_feed_95 (by decide) ?_
  refine z_i (v := 0) (by decide +kernel) ?_
  refine lv_imul hx hb dX12_feed_96 ?_
  refine z_i (v := 0) (by decide +kernel) ?_
  refine lv_isub hx hb dX12_feed_97 ?_
  refine z_i (v := 24) (by decide +kernel) ?_
  refine lv_ishr hx hb dX12_feed_98 ?_
  refine lv_sipush (v := 255) hx hb dX12_feed_99 (by decide) ?_
  refine lv_iand hx hb dX12_feed_102 ?_
  refine r_iast C w 1 rfl (IX.of (k := 4) (by decide +kernel)) (g := (upd (upd (upd (upd (upd (fun _ => 0) 0 ((x0 >>> (24 &&& 31)) &&& 255)) 1 ((x0 >>> (16 &&& 31)) &&& 255)) 2 ((x0 >>> (8 &&& 31)) &&& 255)) 3 ((x0 >>> (0 &&& 31)) &&& 255)) 4 ((x1 >>> (24 &&& 31)) &&& 255))) rfl dX12_feed_103 (ws2 := [(q0, .inr (12, [.int 0, .int 4, .int 0, .int 0, .int 0, .int 0, .int 0, .int (-1), .ref q1, .ref q2, .ref q3, .int 0, .ref q4, .ref q5, .ref q6, .ref q7, .ref q8, .ref q9, .ref q10, .int 0, .ref q11, .ref q12, .ref q13, .ref q14, .ref q15, .ref q16, .ref q17, .int 0, .int (-1), .int 0, .ref q18, .ref q19, .ref q20, .ref q21, .ref q22, .ref q23, .ref q24, .ref q25, .int 0, .ref q26, .ref q27, .ref q28, .ref q29, .ref q30, .int 0, .ref q31, .ref q32, .ref q33, .ref q34, .int 0, .ref q35, .ref q36, .ref q37, .ref q38, .int 0, .int 0, .ref q39, .ref q40, .ref q41, .ref q42])), (q1, .inl (G.2.1, 600, .inl (upd (upd (upd (upd (upd (fun _ => 0) 0 ((x0 >>> (24 &&& 31)) &&& 255)) 1 ((x0 >>> (16 &&& 31)) &&& 255)) 2 ((x0 >>> (8 &&& 31)) &&& 255)) 3 ((x0 >>> (0 &&& 31)) &&& 255)) 4 ((x1 >>> (24 &&& 31)) &&& 255))))]) rfl (fun H locs w => ?_)
  refine lv_aload_n hx hb dX12_feed_104 rfl (lv_at hl 2 rfl) ?_
  refine lv_dup hx hb dX12_feed_105 rfl ?_
  refine r_get C w 0 rfl fr_X12_148 rfl dX12_feed_106 ?_
  refine lv_iconst (v := 1) hx hb dX12_feed_109 (by decide) ?_
  refine lv_iadd hx hb dX12_feed_110 ?_
  refine z_i (v := 5) (by decide +kernel) ?_
  refine r_put C w 0 rfl fl_X12_148 (Nat.le_of_ble_eq_true rfl) rfl rfl dX12_feed_111 (ws2 := [(q0, .inr (12, [.int 0, .int 5, .int 0, .int 0, .int 0, .int 0, .int 0, .int (-1), .ref q1, .ref q2, .ref q3, .int 0, .ref q4, .ref q5, .ref q6, .ref q7, .ref q8, .ref q9, .ref q10, .int 0, .ref q11, .ref q12, .ref q13, .ref q14, .ref q15, .ref q16, .ref q17, .int 0, .int (-1), .int 0, .ref q18, .ref q19, .ref q20, .ref q21, .ref q22, .ref q23, .ref q24, .ref q25, .int 0, .ref q26, .ref q27, .ref q28, .ref q29, .ref q30, .int 0, .ref q31, .ref q32, .ref q33, .ref q34, .int 0, .ref q35, .ref q36, .ref q37, .ref q38, .int 0, .int 0, .ref q39, .ref q40, .ref q41, .ref q42])), (q1, .inl (G.2.1, 600, .inl (upd (upd (upd (upd (upd (fun _ => 0) 0 ((x0 >>> (24 &&& 31)) &&& 255)) 1 ((x0 >>> (16 &&& 31)) &&& 255)) 2 ((x0 >>> (8 &&& 31)) &&& 255)) 3 ((x0 >>> (0 &&& 31)) &&& 255)) 4 ((x1 >>> (24 &&& 31)) &&& 255))))]) rfl (fun H locs w => ?_)
  refine lv_iinc (v := 5) (lv' := [(6, .int 5), (7, .int x1), (0, .ref q0), (1, .int x0), (2, .int x1), (3, .int x2), (4, .int x3), (5, .int x4)]) hx hb dX12_feed_114 hl (k := 1) rfl (by decide +kernel) (by decide) rfl (fun ls hl => ?_)
  refine lv_goto (tgt := 23) hx hb dX12_feed_117 (by decide) ?_
  refine lv_iload hx hb dX12_feed_23 (lv_at hl 0 rfl) ?_
  refine lv_bipush (v := 20) hx hb dX12_feed_25 (by decide) ?_
  refine lv_icmp_ge (tgt := 120) hx hb dX12_feed_27 (by decide) (fun h => absurd h (by decide)) (fun _ => ?_)
  refine lv_iload hx hb dX12_feed_30 (lv_at hl 0 rfl) ?_
  refine lv_iconst (v := 4) hx hb dX12_feed_32 (by decide) ?_
  refine lv_icmp_ge (tgt := 40) hx hb dX12_feed_33 (by decide) (fun _ => ?_) (fun h => absurd (by decide) h)
  refine lv_iload hx hb dX12_feed_40 (lv_at hl 0 rfl) ?_
  refine lv_bipush (v := 8) hx hb dX12_feed_42 (by decide) ?_
  refine lv_icmp_ge (tgt := 51) hx hb dX12_feed_44 (by decide) (fun h => absurd h (by decide)) (fun _ => ?_)
  refine lv_iload_n hx hb dX12_feed_47 rfl (lv_at hl 4 rfl) ?_
  refine lv_goto (tgt := 76) hx hb dX12_feed_48 (by decide) ?_
  refine lv_istore (lv' := [(7, .int x1), (6, .int 5), (0, .ref q0), (1, .int x0), (2, .int x1), (3, .int x2), (4, .int x3), (5, .int x4)]) hx hb dX12_feed_76 hl (by decide) rfl (fun ls hl => ?_)
  refine lv_aload_n hx hb dX12_feed_78 rfl (lv_at hl 2 rfl) ?_
  refine r_get C w 0 rfl fr_X12_16 rfl dX12_feed_79 ?_
  refine lv_aload_n hx hb dX12_feed_82 rfl (lv_at hl 2 rfl) ?_
  refine r_get C w 0 rfl fr_X12_148 rfl dX12_feed_83 ?_
  refine lv_iload hx hb dX12_feed_86 (lv_at hl 0 rfl) ?_
  refine lv_bipush (v := 24) hx hb dX12_feed_88 (by decide) ?_
  refine lv_bipush (v := 8) hx hb dX12_feed_90 (by decide) ?_
  refine lv_iload hx hb dX12_feed_92 (lv_at hl 1 rfl) ?_
  refine lv_iconst (v := 4) hx hb dX12_feed_94 (by decide) ?_
  refine lv_irem hx hb dX12_feed_95 (by decide) ?_
  refine z_i (v := 1) (by decide +kernel) ?_
  refine lv_imul hx hb dX12_feed_96 ?_
  refine z_i (v := 8) (by decide +kernel) ?_
  refine lv_isub hx hb dX12_feed_97 ?_
  refine z_i (v := 16) (by decide +kernel) ?_
  refine lv_ishr hx hb dX12_feed_98 ?_
  refine lv_sipush (v := 255) hx hb dX12_feed_99 (by decide) ?_
  refine lv_iand hx hb dX12_feed_102 ?_
  refine r_iast C w 1 rfl (IX.of (k := 5) (by decide +kernel)) (g := (upd (upd (upd (upd (upd (upd (fun _ => 0) 0 ((x0 >>> (24 &&& 31)) &&& 255)) 1 ((x0 >>> (16 &&& 31)) &&& 255)) 2 ((x0 >>> (8 &&& 31)) &&& 255)) 3 ((x0 >>> (0 &&& 31)) &&& 255)) 4 ((x1 >>> (24 &&& 31)) &&& 255)) 5 ((x1 >>> (16 &&& 31)) &&& 255))) rfl dX12_feed_103 (ws2 := [(q0, .inr (12, [.int 0, .int 5, .int 0, .int 0, .int 0, .int 0, .int 0, .int (-1), .ref q1, .ref q2, .ref q3, .int 0, .ref q4, .ref q5, .ref q6, .ref q7, .ref q8, .ref q9, .ref q10, .int 0, .ref q11, .ref q12, .ref q13, .ref q14, .ref q15, .ref q16, .ref q17, .int 0, .int (-1), .int 0, .ref q18, .ref q19, .ref q20, .ref q21, .ref q22, .ref q23, .ref q24, .ref q25, .int 0, .ref q26, .ref q27, .ref q28, .ref q29, .ref q30, .int 0, .ref q31, .ref q32, .ref q33, .ref q34, .int 0, .ref q35, .ref q36, .ref q37, .ref q38, .int 0, .int 0, .ref q39, .ref q40, .ref q41, .ref q42])), (q1, .inl (G.2.1, 600, .inl (upd (upd (upd (upd (upd (upd (fun _ => 0) 0 ((x0 >>> (24 &&& 31)) &&& 255)) 1 ((x0 >>> (16 &&& 31)) &&& 255)) 2 ((x0 >>> (8 &&& 31)) &&& 255)) 3 ((x0 >>> (0 &&& 31)) &&& 255)) 4 ((x1 >>> (24 &&& 31)) &&& 255)) 5 ((x1 >>> (16 &&& 31)) &&& 255))))]) rfl (fun H locs w => ?_)
  refine lv_aload_n hx hb dX12_feed_104 rfl (lv_at hl 2 rfl) ?_
  refine lv_dup hx hb dX12_feed_105 rfl ?_
  refine r_get C w 0 rfl fr_X12_148 rfl dX12_feed_106 ?_
  refine lv_iconst (v := 1) hx hb dX12_feed_109 (by decide) ?_
  refine lv_iadd hx hb dX12_feed_110 ?_
  refine z_i (v := 6) (by decide +kernel) ?_
  refine r_put C w 0 rfl fl_X12_148 (Nat.le_of_ble_eq_true rfl) rfl rfl dX12_feed_111 (ws2 := [(q0, .inr (12, [.int 0, .int 6, .int 0, .int 0, .int 0, .int 0, .int 0, .int (-1), .ref q1, .ref q2, .ref q3, .int 0, .ref q4, .ref q5, .ref q6, .ref q7, .ref q8, .ref q9, .ref q10, .int 0, .ref q11, .ref q12, .ref q13, .ref q14, .ref q15, .ref q16, .ref q17, .int 0, .int (-1), .int 0, .ref q18, .ref q19, .ref q20, .ref q21, .ref q22, .ref q23, .ref q24, .ref q25, .int 0, .ref q26, .ref q27, .ref q28, .ref q29, .ref q30, .int 0, .ref q31, .ref q32, .ref q33, .ref q34, .int 0, .ref q35, .ref q36, .ref q37, .ref q38, .int 0, .int 0, .ref q39, .ref q40, .ref q41, .ref q42])), (q1, .inl (G.2.1, 600, .inl (upd (upd (upd (upd (upd (upd (fun _ => 0) 0 ((x0 >>> (24 &&& 31)) &&& 255)) 1 ((x0 >>> (16 &&& 31)) &&& 255)) 2 ((x0 >>> (8 &&& 31)) &&& 255)) 3 ((x0 >>> (0 &&& 31)) &&& 255)) 4 ((x1 >>> (24 &&& 31)) &&& 255)) 5 ((x1 >>> (16 &&& 31)) &&& 255))))]) rfl (fun H locs w => ?_)
  refine lv_iinc (v := 6) (lv' := [(6, .int 6), (7, .int x1), (0, .ref q0), (1, .int x0), (2, .int x1), (3, .int x2), (4, .int x3), (5, .int x4)]) hx hb dX12_feed_114 hl (k := 1) rfl (by decide +kernel) (by decide) rfl (fun ls hl => ?_)
  refine lv_goto (tgt := 23) hx hb dX12_feed_117 (by decide) ?_
  refine lv_iload hx hb dX12_feed_23 (lv_at hl 0 rfl) ?_
  refine lv_bipush (v := 20) hx hb dX12_feed_25 (by decide) ?_
  refine lv_icmp_ge (tgt := 120) hx hb dX12_feed_27 (by decide) (fun h => absurd h (by decide)) (fun _ => ?_)
  refine lv_iload hx hb dX12_feed_30 (lv_at hl 0 rfl) ?_
  refine lv_iconst (v := 4) hx hb dX12_feed_32 (by decide) ?_
  refine lv_icmp_ge (tgt := 40) hx hb dX12_feed_33 (by decide) (fun _ => ?_) (fun h => absurd (by decide) h)
  refine lv_iload hx hb dX12_feed_40 (lv_at hl 0 rfl) ?_
  refine lv_bipush (v := 8) hx hb dX12_feed_42 (by decide) ?_
  refine lv_icmp_ge (tgt := 51) hx hb dX12_feed_44 (by decide) (fun h => absurd h (by decide)) (fun _ => ?_)
  refine lv_iload_n hx hb dX12_feed_47 rfl (lv_at hl 4 rfl) ?_
  refine lv_goto (tgt := 76) hx hb dX12_feed_48 (by decide) ?_
  refine lv_istore (lv' := [(7, .int x1), (6, .int 6), (0, .ref q0), (1, .int x0), (2, .int x1), (3, .int x2), (4, .int x3), (5, .int x4)]) hx hb dX12_feed_76 hl (by decide) rfl (fun ls hl => ?_)
  refine lv_aload_n hx hb dX12_feed_78 rfl (lv_at hl 2 rfl) ?_
  refine r_get C w 0 rfl fr_X12_16 rfl dX12_feed_79 ?_
  refine lv_aload_n hx hb dX12_feed_82 rfl (lv_at hl 2 rfl) ?_
  refine r_get C w 0 rfl fr_X12_148 rfl dX12_feed_83 ?_
  refine lv_iload hx hb dX12_feed_86 (lv_at hl 0 rfl) ?_
  refine lv_bipush (v := 24) hx hb dX12_feed_88 (by decide) ?_
  refine lv_bipush (v := 8) hx hb dX12_feed_90 (by decide) ?_
  refine lv_iload hx hb dX12_feed_92 (lv_at hl 1 rfl) ?_
  refine lv_iconst (v := 4) hx hb dX12_feed_94 (by decide) ?_
  refine lv_irem hx hb dX12_feed_95 (by decide) ?_
  refine z_i (v := 2) (by decide +kernel) ?_
  refine lv_imul hx hb dX12_feed_96 ?_
  refine z_i (v := 16) (by decide +kernel) ?_
  refine lv_isub hx hb dX12_feed_97 ?_
  refine z_i (v := 8) (by decide +kernel) ?_
  refine lv_ishr hx hb dX12_feed_98 ?_
  refine lv_sipush (v := 255) hx hb dX12_feed_99 (by decide) ?_
  refine lv_iand hx hb dX12_feed_102 ?_
  refine r_iast C w 1 rfl (IX.of (k := 6) (by decide +kernel)) (g := (upd (upd (upd (upd (upd (upd (upd (fun _ => 0) 0 ((x0 >>> (24 &&& 31)) &&& 255)) 1 ((x0 >>> (16 &&& 31)) &&& 255)) 2 ((x0 >>> (8 &&& 31)) &&& 255)) 3 ((x0 >>> (0 &&& 31)) &&& 255)) 4 ((x1 >>> (24 &&& 31)) &&& 255)) 5 ((x1 >>> (16 &&& 31)) &&& 255)) 6 ((x1 >>> (8 &&& 31)) &&& 255))) rfl dX12_feed_103 (ws2 := [(q0, .inr (12, [.int 0, .int 6, .int 0, .int 0, .int 0, .int 0, .int 0, .int (-1), .ref q1, .ref q2, .ref q3, .int 0, .ref q4, .ref q5, .ref q6, .ref q7, .ref q8, .ref q9, .ref q10, .int 0, .ref q11, .ref q12, .ref q13, .ref q14, .ref q15, .ref q16, .ref q17, .int 0, .int (-1), .int 0, .ref q18, .ref q19, .ref q20, .ref q21, .ref q22, .ref q23, .ref q24, .ref q25, .int 0, .ref q26, .ref q27, .ref q28, .ref q29, .ref q30, .int 0, .ref q31, .ref q32, .ref q33, .ref q34, .int 0, .ref q35, .ref q36, .ref q37, .ref q38, .int 0, .int 0, .ref q39, .ref q40, .ref q41, .ref q42])), (q1, .inl (G.2.1, 600, .inl (upd (upd (upd (upd (upd (upd (upd (fun _ => 0) 0 ((x0 >>> (24 &&& 31)) &&& 255)) 1 ((x0 >>> (16 &&& 31)) &&& 255)) 2 ((x0 >>> (8 &&& 31)) &&& 255)) 3 ((x0 >>> (0 &&& 31)) &&& 255)) 4 ((x1 >>> (24 &&& 31)) &&& 255)) 5 ((x1 >>> (16 &&& 31)) &&& 255)) 6 ((x1 >>> (8 &&& 31)) &&& 255))))]) rfl (fun H locs w => ?_)
  refine lv_aload_n hx hb dX12_feed_104 rfl (lv_at hl 2 rfl) ?_
  refine lv_dup hx hb dX12_feed_105 rfl ?_
  refine r_get C w 0 rfl fr_X12_148 rfl dX12_feed_106 ?_
  refine lv_iconst (v := 1) hx hb dX12_feed_109 (by decide) ?_
  refine lv_iadd hx hb dX12_feed_110 ?_
  refine z_i (v := 7) (by decide +kernel) ?_
  refine r_put C w 0 rfl fl_X12_148 (Nat.le_of_ble_eq_true rfl) rfl rfl dX12_feed_111 (ws2 := [(q0, .inr (12, [.int 0, .int 7, .int 0, .int 0, .int 0, .int 0, .int 0, .int (-1), .ref q1, .ref q2, .ref q3, .int 0, .ref q4, .ref q5, .ref q6, .ref q7, .ref q8, .ref q9, .ref q10, .int 0, .ref q11, .ref q12, .ref q13, .ref q14, .ref q15, .ref q16, .ref q17, .int 0, .int (-1), .int 0, .ref q18, .ref q19, .ref q20, .ref q21, .ref q22, .ref q23, .ref q24, .ref q25, .int 0, .ref q26, .ref q27, .ref q28, .ref q29, .ref q30, .int 0, .ref q31, .ref q32, .ref q33, .ref q34, .int 0, .ref q35, .ref q36, .ref q37, .ref q38, .int 0, .int 0, .ref q39, .ref q40, .ref q41, .ref q42])), (q1, .inl (G.2.1, 600, .inl (upd (upd (upd (upd (upd (upd (upd (fun _ => 0) 0 ((x0 >>> (24 &&& 31)) &&& 255)) 1 ((x0 >>> (16 &&& 31)) &&& 255)) 2 ((x0 >>> (8 &&& 31)) &&& 255)) 3 ((x0 >>> (0 &&& 31)) &&& 255)) 4 ((x1 >>> (24 &&& 31)) &&& 255)) 5 ((x1 >>> (16 &&& 31)) &&& 255)) 6 ((x1 >>> (8 &&& 31)) &&& 255))))]) rfl (fun H locs w => ?_)
  refine lv_iinc (v := 7) (lv' := [(6, .int 7), (7, .int x1), (0, .ref q0), (1, .int x0), (2, .int x1), (3, .int x2), (4, .int x3), (5, .int x4)]) hx hb dX12_feed_114 hl (k := 1) rfl (by decide +kernel) (by decide) rfl (fun ls hl => ?_)
  refine lv_goto (tgt := 23) hx hb dX12_feed_117 (by decide) ?_
  refine lv_iload hx hb dX12_feed_23 (lv_at hl 0 rfl) ?_
  refine lv_bipush (v := 20) hx hb dX12_feed_25 (by decide) ?_
  refine lv_icmp_ge (tgt := 120) hx hb dX12_feed_27 (by decide) (fun h => absurd h (by decide)) (fun _ => ?_)
  refine lv_iload hx hb dX12_feed_30 (lv_at hl 0 rfl) ?_
  refine lv_iconst (v := 4) hx hb dX12_feed_32 (by decide) ?_
  refine lv_icmp_ge (tgt := 40) hx hb dX12_feed_33 (by decide) (fun _ => ?_) (fun h => absurd (by decide) h)
  refine lv_iload hx hb dX12_feed_40 (lv_at hl 0 rfl) ?_
  refine lv_bipush (v := 8) hx hb dX12_feed_42 (by decide) ?_
  refine lv_icmp_ge (tgt := 51) hx hb dX12_feed_44 (by decide) (fun h => absurd h (by decide)) (fun _ => ?_)
  refine lv_iload_n hx hb dX12_feed_47 rfl (lv_at hl 4 rfl) ?_
  refine lv_goto (tgt := 76) hx hb dX12_feed_48 (by decide) ?_
  refine lv_istore (lv' := [(7, .int x1), (6, .int 7), (0, .ref q0), (1, .int x0), (2, .int x1), (3, .int x2), (4, .int x3), (5, .int x4)]) hx hb dX12_feed_76 hl (by decide) rfl (fun ls hl => ?_)
  refine lv_aload_n hx hb dX12_feed_78 rfl (lv_at hl 2 rfl) ?_
  refine r_get C w 0 rfl fr_X12_16 rfl dX12_feed_79 ?_
  refine lv_aload_n hx hb dX12_feed_82 rfl (lv_at hl 2 rfl) ?_
  refine r_get C w 0 rfl fr_X12_148 rfl dX12_feed_83 ?_
  refine lv_iload hx hb dX12_feed_86 (lv_at hl 0 rfl) ?_
  refine lv_bipush (v := 24) hx hb dX12_feed_88 (by decide) ?_
  refine lv_bipush (v := 8) hx hb dX12_feed_90 (by decide) ?_
  refine lv_iload hx hb dX12_feed_92 (lv_at hl 1 rfl) ?_
  refine lv_iconst (v := 4) hx hb dX12_feed_94 (by decide) ?_
  refine lv_irem hx hb dX12_feed_95 (by decide) ?_
  refine z_i (v := 3) (by decide +kernel) ?_
  refine lv_imul hx hb dX12_feed_96 ?_
  refine z_i (v := 24) (by decide +kernel) ?_
  refine lv_isub hx hb dX12_feed_97 ?_
  refine z_i (v := 0) (by decide +kernel) ?_
  refine lv_ishr hx hb dX12_feed_98 ?_
  refine lv_sipush (v := 255) hx hb dX12_feed_99 (by decide) ?_
  refine lv_iand hx hb dX12_feed_102 ?_
  refine r_iast C w 1 rfl (IX.of (k := 7) (by decide +kernel)) (g := (upd (upd (upd (upd (upd (upd (upd (upd (fun _ => 0) 0 ((x0 >>> (24 &&& 31)) &&& 255)) 1 ((x0 >>> (16 &&& 31)) &&& 255)) 2 ((x0 >>> (8 &&& 31)) &&& 255)) 3 ((x0 >>> (0 &&& 31)) &&& 255)) 4 ((x1 >>> (24 &&& 31)) &&& 255)) 5 ((x1 >>> (16 &&& 31)) &&& 255)) 6 ((x1 >>> (8 &&& 31)) &&& 255)) 7 ((x1 >>> (0 &&& 31)) &&& 255))) rfl dX12_feed_103 (ws2 := [(q0, .inr (12, [.int 0, .int 7, .int 0, .int 0, .int 0, .int 0, .int 0, .int (-1), .ref q1, .ref q2, .ref q3, .int 0, .ref q4, .ref q5, .ref q6, .ref q7, .ref q8, .ref q9, .ref q10, .int 0, .ref q11, .ref q12, .ref q13, .ref q14, .ref q15, .ref q16, .ref q17, .int 0, .int (-1), .int 0, .ref q18, .ref q19, .ref q20, .ref q21, .ref q22, .ref q23, .ref q24, .ref q25, .int 0, .ref q26, .ref q27, .ref q28, .ref q29, .ref q30, .int 0, .ref q31, .ref q32, .ref q33, .ref q34, .int 0, .ref q35, .ref q36, .ref q37, .ref q38, .int 0, .int 0, .ref q39, .ref q40, .ref q41, .ref q42])), (q1, .inl (G.2.1, 600, .inl (upd (upd (upd (upd (upd (upd (upd (upd (fun _ => 0) 0 ((x0 >>> (24 &&& 31)) &&& 255)) 1 ((x0 >>> (16 &&& 31)) &&& 255)) 2 ((x0 >>> (8 &&& 31)) &&& 255)) 3 ((x0 >>> (0 &&& 31)) &&& 255)) 4 ((x1 >>> (24 &&& 31)) &&& 255)) 5 ((x1 >>> (16 &&& 31)) &&& 255)) 6 ((x1 >>> (8 &&& 31)) &&& 255)) 7 ((x1 >>> (0 &&& 31)) &&& 255))))]) rfl (fun H locs w => ?_)
  refine lv_aload_n hx hb dX12_feed_104 rfl (lv_at hl 2 rfl) ?_
  refine lv_dup hx hb dX12_feed_105 rfl ?_
  refine r_get C w 0 rfl fr_X12_148 rfl dX12_feed_106 ?_
  refine lv_iconst (v := 1) hx hb dX12_feed_109 (by decide) ?_
  refine lv_iadd hx hb dX12_feed_110 ?_
  refine z_i (v := 8) (by decide +kernel) ?_
  refine r_put C w 0 rfl fl_X12_148 (Nat.le_of_ble_eq_true rfl) rfl rfl dX12_feed_111 (ws2 := [(q0, .inr (12, [.int 0, .int 8, .int 0, .int 0, .int 0, .int 0, .int 0, .int (-1), .ref q1, .ref q2, .ref q3, .int 0, .ref q4, .ref q5, .ref q6, .ref q7, .ref q8, .ref q9, .ref q10, .int 0, .ref q11, .ref q12, .ref q13, .ref q14, .ref q15, .ref q16, .ref q17, .int 0, .int (-1), .int 0, .ref q18, .ref q19, .ref q20, .ref q21, .ref q22, .ref q23, .ref q24, .ref q25, .int 0, .ref q26, .ref q27, .ref q28, .ref q29, .ref q30, .int 0, .ref q31, .ref q32, .ref q33, .ref q34, .int 0, .ref q35, .ref q36, .ref q37, .ref q38, .int 0, .int 0, .ref q39, .ref q40, .ref q41, .ref q42])), (q1, .inl (G.2.1, 600, .inl (upd (upd (upd (upd (upd (upd (upd (upd (fun _ => 0) 0 ((x0 >>> (24 &&& 31)) &&& 255)) 1 ((x0 >>> (16 &&& 31)) &&& 255)) 2 ((x0 >>> (8 &&& 31)) &&& 255)) 3 ((x0 >>> (0 &&& 31)) &&& 255)) 4 ((x1 >>> (24 &&& 31)) &&& 255)) 5 ((x1 >>> (16 &&& 31)) &&& 255)) 6 ((x1 >>> (8 &&& 31)) &&& 255)) 7 ((x1 >>> (0 &&& 31)) &&& 255))))]) rfl (fun H locs w => ?_)
  refine lv_iinc (v := 8) (lv' := [(6, .int 8), (7, .int x1), (0, .ref q0), (1, .int x0), (2, .int x1), (3, .int x2), (4, .int x3), (5, .int x4)]) hx hb dX12_feed_114 hl (k := 1) rfl (by decide +kernel) (by decide) rfl (fun ls hl => ?_)
  refine lv_goto (tgt := 23) hx hb dX12_feed_117 (by decide) ?_
  refine lv_iload hx hb dX12_feed_23 (lv_at hl 0 rfl) ?_
  refine lv_bipush (v := 20) hx hb dX12_feed_25 (by decide) ?_
  refine lv_icmp_ge (tgt := 120) hx hb dX12_feed_27 (by decide) (fun h => absurd h (by decide)) (fun _ => ?_)
  refine lv_iload hx hb dX12_feed_30 (lv_at hl 0 rfl) ?_
  refine lv_iconst (v := 4) hx hb dX12_feed_32 (by decide) ?_
  refine lv_icmp_ge (tgt := 40) hx hb dX12_feed_33 (by decide) (fun _ => ?_) (fun h => absurd (by decide) h)
  refine lv_iload hx hb dX12_feed_40 (lv_at hl 0 rfl) ?_
  refine lv_bipush (v := 8) hx hb dX12_feed_42 (by decide) ?_
  refine lv_icmp_ge (tgt := 51) hx hb dX12_feed_44 (by decide) (fun _ => ?_) (fun h => absurd (by decide) h)
  refine lv_iload hx hb dX12_feed_51 (lv_at hl 0 rfl) ?_
  refine lv_bipush (v := 12) hx hb dX12_feed_53 (by decide) ?_
  refine lv_icmp_ge (tgt := 62) hx hb dX12_feed_55 (by decide) (fun h => absurd h (by decide)) (fun _ => ?_)
  refine lv_iload_n hx hb dX12_feed_58 rfl (lv_at hl 5 rfl) ?_
  refine lv_goto (tgt := 76) hx hb dX12_feed_59 (by decide) ?_
  refine lv_istore (lv' := [(7, .int x2), (6, .int 8), (0, .ref q0), (1, .int x0), (2, .int x1), (3, .int x2), (4, .int x3), (5, .int x4)]) hx hb dX12_feed_76 hl (by decide) rfl (fun ls hl => ?_)
  refine lv_aload_n hx hb dX12_feed_78 rfl (lv_at hl 2 rfl) ?_
  refine r_get C w 0 rfl fr_X12_16 rfl dX12_feed_79 ?_
  refine lv_aload_n hx hb dX12_feed_82 rfl (lv_at hl 2 rfl) ?_
  refine r_get C w 0 rfl fr_X12_148 rfl dX12_feed_83 ?_
  refine lv_iload hx hb dX12_feed_86 (lv_at hl 0 rfl) ?_
  refine lv_bipush (v := 24) hx hb dX12_feed_88 (by decide) ?_
  refine lv_bipush (v := 8) hx hb dX12_feed_90 (by decide) ?_
  refine lv_iload hx hb dX12_feed_92 (lv_at hl 1 rfl) ?_
  refine lv_iconst (v := 4) hx hb dX12_feed_94 (by decide) ?_
  refine lv_irem hx hb dX12_feed_95 (by decide) ?_
  refine z_i (v := 0) (by decide +kernel) ?_
  refine lv_imul hx hb dX12_feed_96 ?_
  refine z_i (v := 0) (by decide +kernel) ?_
  refine lv_isub hx hb dX12_feed_97 ?_
  refine z_i (v := 24) (by decide +kernel) ?_
  refine lv_ishr hx hb dX12_feed_98 ?_
  refine lv_sipush (v := 255) hx hb dX12_feed_99 (by decide) ?_
  refine lv_iand hx hb dX12_feed_102 ?_
  refine r_iast C w 1 rfl (IX.of (k := 8) (by decide +kernel)) (g := (upd (upd (upd (upd (upd (upd (upd (upd (upd (fun _ => 0) 0 ((x0 >>> (24 &&& 31)) &&& 255)) 1 ((x0 >>> (16 &&& 31)) &&& 255)) 2 ((x0 >>> (8 &&& 31)) &&& 255)) 3 ((x0 >>> (0 &&& 31)) &&& 255)) 4 ((x1 >>> (24 &&& 31)) &&& 255)) 5 ((x1 >>> (16 &&& 31)) &&& 255)) 6 ((x1 >>> (8 &&& 31)) &&& 255)) 7 ((x1 >>> (0 &&& 31)) &&& 255)) 8 ((x2 >>> (24 &&& 31)) &&& 255))) rfl dX12_feed_103 (ws2 := [(q0, .inr (12, [.int 0, .int 8, .int 0, .int 0, .int 0, .int 0, .int 0, .int (-1), .ref q1, .ref q2, .ref q3, .int 0, .ref q4, .ref q5, .ref q6, .ref q7, .ref q8, .ref q9, .ref q10, .int 0, .ref q11, .ref q12, .ref q13, .ref q14, .ref q15, .ref q16, .ref q17, .int 0, .int (-1), .int 0, .ref q18, .ref q19, .ref q20, .ref q21, .ref q22, .ref q23, .ref q24, .ref q25, .int 0, .ref q26, .ref q27, .ref q28, .ref q29, .ref q30, .int 0, .ref q31, .ref q32, .ref q33, .ref q34, .int 0, .ref q35, .ref q36, .ref q37, .ref q38, .int 0, .int 0, .ref q39, .ref q40, .ref q41, .ref q42])), (q1, .inl (G.2.1, 600, .inl (upd (upd (upd (upd (upd (upd (upd (upd (upd (fun _ => 0) 0 ((x0 >>> (24 &&& 31)) &&& 255)) 1 ((x0 >>> (16 &&& 31)) &&& 255)) 2 ((x0 >>> (8 &&& 31)) &&& 255)) 3 ((x0 >>> (0 &&& 31)) &&& 255)) 4 ((x1 >>> (24 &&& 31)) &&& 255)) 5 ((x1 >>> (16 &&& 31)) &&& 255)) 6 ((x1 >>> (8 &&& 31)) &&& 255)) 7 ((x1 >>> (0 &&& 31)) &&& 255)) 8 ((x2 >>> (24 &&& 31)) &&& 255))))]) rfl (fun H locs w => ?_)
  refine lv_aload_n hx hb dX12_feed_104 rfl (lv_at hl 2 rfl) ?_
  refine lv_dup hx hb dX12_feed_105 rfl ?_
  refine r_get C w 0 rfl fr_X12_148 rfl dX12_feed_106 ?_
  refine lv_iconst (v := 1) hx hb dX12_feed_109 (by decide) ?_
  refine lv_iadd hx hb dX12_feed_110 ?_
  refine z_i (v := 9) (by decide +kernel) ?_
  refine r_put C w 0 rfl fl_X12_148 (Nat.le_of_ble_eq_true rfl) rfl rfl dX12_feed_111 (ws2 := [(q0, .inr (12, [.int 0, .int 9, .int 0, .int 0, .int 0, .int 0, .int 0, .int (-1), .ref q1, .ref q2, .ref q3, .int 0, .ref q4, .ref q5, .ref q6, .ref q7, .ref q8, .ref q9, .ref q10, .int 0, .ref q11, .ref q12, .ref q13, .ref q14, .ref q15, .ref q16, .ref q17, .int 0, .int (-1), .int 0, .ref q18, .ref q19, .ref q20, .ref q21, .ref q22, .ref q23, .ref q24, .ref q25, .int 0, .ref q26, .ref q27, .ref q28, .ref q29, .ref q30, .int 0, .ref q31, .ref q32, .ref q33, .ref q34, .int 0, .ref q35, .ref q36, .ref q37, .ref q38, .int 0, .int 0, .ref q39, .ref q40, .ref q41, .ref q42])), (q1, .inl (G.2.1, 600, .inl (upd (upd (upd (upd (upd (upd (upd (upd (upd (fun _ => 0) 0 ((x0 >>> (24 &&& 31)) &&& 255)) 1 ((x0 >>> (16 &&& 31)) &&& 255)) 2 ((x0 >>> (8 &&& 31)) &&& 255)) 3 ((x0 >>> (0 &&& 31)) &&& 255)) 4 ((x1 >>> (24 &&& 31)) &&& 255)) 5 ((x1 >>> (16 &&& 31)) &&& 255)) 6 ((x1 >>> (8 &&& 31)) &&& 255)) 7 ((x1 >>> (0 &&& 31)) &&& 255)) 8 ((x2 >>> (24 &&& 31)) &&& 255))))]) rfl (fun H locs w => ?_)
  refine lv_iinc (v := 9) (lv' := [(6, .int 9), (7, .int x2), (0, .ref q0), (1, .int x0), (2, .int x1), (3, .int x2), (4, .int x3), (5, .int x4)]) hx hb dX12_feed_114 hl (k := 1) rfl (by decide +kernel) (by decide) rfl (fun ls hl => ?_)
  refine lv_goto (tgt := 23) hx hb dX12_feed_117 (by decide) ?_
  refine lv_iload hx hb dX12_feed_23 (lv_at hl 0 rfl) ?_
  refine lv_bipush (v := 20) hx hb dX12_feed_25 (by decide) ?_
  refine lv_icmp_ge (tgt := 120) hx hb dX12_feed_27 (by decide) (fun h => absurd h (by decide)) (fun _ => ?_)
  refine lv_iload hx hb dX12_feed_30 (lv_at hl 0 rfl) ?_
  refine lv_iconst (v := 4) hx hb dX12_feed_32 (by decide) ?_
  refine lv_icmp_ge (tgt := 40) hx hb dX12_feed_33 (by decide) (fun _ => ?_) (fun h => absurd (by decide) h)
  refine lv_iload hx hb dX12_feed_40 (lv_at hl 0 rfl) ?_
  refine lv_bipush (v := 8) hx hb dX12_feed_42 (by decide) ?_
  refine lv_icmp_ge (tgt := 51) hx hb dX12_feed_44 (by decide) (fun _ => ?_) (fun h => absurd (by decide) h)
  refine lv_iload hx hb dX12_feed_51 (lv_at hl 0 rfl) ?_
  refine lv_bipush (v := 12) hx hb dX12_feed_53 (by decide) ?_
  refine lv_icmp_ge (tgt := 62) hx hb dX12_feed_55 (by decide) (fun h => absurd h (by decide)) (fun _ => ?_)
  refine lv_iload_n hx hb dX12_feed_58 rfl (lv_at hl 5 rfl) ?_
  refine lv_goto (tgt := 76) hx hb dX12_feed_59 (by decide) ?_
  refine lv_istore (lv' := [(7, .int x2), (6, .int 9), (0, .ref q0), (1, .int x0), (2, .int x1), (3, .int x2), (4, .int x3), (5, .int x4)]) hx hb dX12_feed_76 hl (by decide) rfl (fun ls hl => ?_)
  refine lv_aload_n hx hb dX12_feed_78 rfl (lv_at hl 2 rfl) ?_
  refine r_get C w 0 rfl fr_X12_16 rfl dX12_feed_79 ?_
  refine lv_aload_n hx hb dX12_feed_82 rfl (lv_at hl 2 rfl) ?_
  refine r_get C w 0 rfl fr_X12_148 rfl dX12_feed_83 ?_
  refine lv_iload hx hb dX12_feed_86 (lv_at hl 0 rfl) ?_
  refine lv_bipush (v := 24) hx hb dX12_feed_88 (by decide) ?_
  refine lv_bipush (v := 8) hx hb dX12_feed_90 (by decide) ?_
  refine lv_iload hx hb dX12_feed_92 (lv_at hl 1 rfl) ?_
  refine lv_iconst (v := 4) hx hb dX12_feed_94 (by decide) ?_
  refine lv_irem hx hb dX12_feed_95 (by decide) ?_
  refine z_i (v := 1) (by decide +kernel) ?_
  refine lv_imul hx hb dX12_feed_96 ?_
  refine z_i (v := 8) (by decide +kernel) ?_
  refine lv_isub hx hb dX12_feed_97 ?_
  refine z_i (v := 16) (by decide +kernel) ?_
  refine lv_ishr hx hb dX12_feed_98 ?_
  refine lv_sipush (v := 255) hx hb dX12_feed_99 (by decide) ?_
  refine lv_iand hx hb dX12_feed_102 ?_
  refine r_iast C w 1 rfl (IX.of (k := 9) (by decide +kernel)) (g := (upd (upd (upd (upd (upd (upd (upd (upd (upd (upd (fun _ => 0) 0 ((x0 >>> (24 &&& 31)) &&& 255)) 1 ((x0 >>> (16 &&& 31)) &&& 255)) 2 ((x0 >>> (8 &&& 31)) &&& 255)) 3 ((x0 >>> (0 &&& 31)) &&& 255)) 4 ((x1 >>> (24 &&& 31)) &&& 255)) 5 ((x1 >>> (16 &&& 31)) &&& 255)) 6 ((x1 >>> (8 &&& 31)) &&& 255)) 7 ((x1 >>> (0 &&& 31)) &&& 255)) 8 ((x2 >>> (24 &&& 31)) &&& 255)) 9 ((x2 >>> (16 &&& 31)) &&& 255))) rfl dX12_feed_103 (ws2 := [(q0, .inr (12, [.int 0, .int 9, .int 0, .int 0, .int 0, .int 0, .int 0, .int (-1), .ref q1, .ref q2, .ref q3, .int 0, .ref q4, .ref q5, .ref q6, .ref q7, .ref q8, .ref q9, .ref q10, .int 0, .ref q11, .ref q12, .ref q13, .ref q14, .ref q15, .ref q16, .ref q17, .int 0, .int (-1), .int 0, .ref q18, .ref q19, .ref q20, .ref q21, .ref q22, .ref q23, .ref q24, .ref q25, .int 0, .ref q26, .ref q27, .ref q28, .ref q29, .ref q30, .int 0, .ref q31, .ref q32, .ref q33, .ref q34, .int 0, .ref q35, .ref q36, .ref q37, .ref q38, .int 0, .int 0, .ref q39, .ref q40, .ref q41, .ref q42])), (q1, .inl (G.2.1, 600, .inl (upd (upd (upd (upd (upd (upd (upd (upd (upd (upd (fun _ => 0) 0 ((x0 >>> (24 &&& 31)) &&& 255)) 1 ((x0 >>> (16 &&& 31)) &&& 255)) 2 ((x0 >>> (8 &&& 31)) &&& 255)) 3 ((x0 >>> (0 &&& 31)) &&& 255)) 4 ((x1 >>> (24 &&& 31)) &&& 255)) 5 ((x1 >>> (16 &&& 31)) &&& 255)) 6 ((x1 >>> (8 &&& 31)) &&& 255)) 7 ((x1 >>> (0 &&& 31)) &&& 255)) 8 ((x2 >>> (24 &&& 31)) &&& 255)) 9 ((x2 >>> (16 &&& 31)) &&& 255))))]) rfl (fun H locs w => ?_)
  refine lv_aload_n hx hb dX12_feed_104 rfl (lv_at hl 2 rfl) ?_
  refine lv_dup hx hb dX12_feed_105 rfl ?_
  refine r_get C w 0 rfl fr_X12_148 rfl dX12_feed_106 ?_
  refine lv_iconst (v := 1) hx hb dX12_feed_109 (by decide) ?_
  refine lv_iadd hx hb dX12_feed_110 ?_
  refine z_i (v := 10) (by decide +kernel) ?_
  refine r_put C w 0 rfl fl_X12_148 (Nat.le_of_ble_eq_true rfl) rfl rfl dX12_feed_111 (ws2 := [(q0, .inr (12, [.int 0, .int 10, .int 0, .int 0, .int 0, .int 0, .int 0, .int (-1), .ref q1, .ref q2, .ref q3, .int 0, .ref q4, .ref q5, .ref q6, .ref q7, .ref q8, .ref q9, .ref q10, .int 0, .ref q11, .ref q12, .ref q13, .ref q14, .ref q15, .ref q16, .ref q17, .int 0, .int (-1), .int 0, .ref q18, .ref q19, .ref q20, .ref q21, .ref q22, .ref q23, .ref q24, .ref q25, .int 0, .ref q26, .ref q27, .ref q28, .ref q29, .ref q30, .int 0, .ref q31, .ref q32, .ref q33, .ref q34, .int 0, .ref q35, .ref q36, .ref q37, .ref q38, .int 0, .int 0, .ref q39, .ref q40, .ref q41, .ref q42])), (q1, .inl (G.2.1, 600, .inl (upd (upd (upd (upd (upd (upd (upd (upd (upd (upd (fun _ => 0) 0 ((x0 >>> (24 &&& 31)) &&& 255)) 1 ((x0 >>> (16 &&& 31)) &&& 255)) 2 ((x0 >>> (8 &&& 31)) &&& 255)) 3 ((x0 >>> (0 &&& 31)) &&& 255)) 4 ((x1 >>> (24 &&& 31)) &&& 255)) 5 ((x1 >>> (16 &&& 31)) &&& 255)) 6 ((x1 >>> (8 &&& 31)) &&& 255)) 7 ((x1 >>> (0 &&& 31)) &&& 255)) 8 ((x2 >>> (24 &&& 31)) &&& 255)) 9 ((x2 >>> (16 &&& 31)) &&& 255))))]) rfl (fun H locs w => ?_)
  refine lv_iinc (v := 10) (lv' := [(6, .int 10), (7, .int x2), (0, .ref q0), (1, .int x0), (2, .int x1), (3, .int x2), (4, .int x3), (5, .int x4)]) hx hb dX12_feed_114 hl (k := 1) rfl (by decide +kernel) (by decide) rfl (fun ls hl => ?_)
  refine lv_goto (tgt := 23) hx hb dX12_feed_117 (by decide) ?_
  refine lv_iload hx hb dX12_feed_23 (lv_at hl 0 rfl) ?_
  refine lv_bipush (v := 20) hx hb dX12_feed_25 (by decide) ?_
  refine lv_icmp_ge (tgt := 120) hx hb dX12_feed_27 (by decide) (fun h => absurd h (by decide)) (fun _ => ?_)
  refine lv_iload hx hb dX12_feed_30 (lv_at hl 0 rfl) ?_
  refine lv_iconst (v := 4) hx hb dX12_feed_32 (by decide) ?_
  refine lv_icmp_ge (tgt := 40) hx hb dX12_feed_33 (by decide) (fun _ => ?_) (fun h => absurd (by decide) h)
  refine lv_iload hx hb dX12_feed_40 (lv_at hl 0 rfl) ?_
  refine lv_bipush (v := 8) hx hb dX12_feed_42 (by decide) ?_
  refine lv_icmp_ge (tgt := 51) hx hb dX12_feed_44 (by decide) (fun _ => ?_) (fun h => absurd (by decide) h)
  refine lv_iload hx hb dX12_feed_51 (lv_at hl 0 rfl) ?_
  refine lv_bipush (v := 12) hx hb dX12_feed_53 (by decide) ?_
  refine lv_icmp_ge (tgt := 62) hx hb dX12_feed_55 (by decide) (fun h => absurd h (by decide)) (fun _ => ?_)
  refine lv_iload_n hx hb dX12_feed_58 rfl (lv_at hl 5 rfl) ?_
  refine lv_goto (tgt := 76) hx hb dX12_feed_59 (by decide) ?_
  refine lv_istore (lv' := [(7, .int x2), (6, .int 10), (0, .ref q0), (1, .int x0), (2, .int x1), (3, .int x2), (4, .int x3), (5, .int x4)]) hx hb dX12_feed_76 hl (by decide) rfl (fun ls hl => ?_)
  refine lv_aload_n hx hb dX12_feed_78 rfl (lv_at hl 2 rfl) ?_
  refine r_get C w 0 rfl fr_X12_16 rfl dX12_feed_79 ?_
  refine lv_aload_n hx hb dX12_feed_82 rfl (lv_at hl 2 rfl) ?_
  refine r_get C w 0 rfl fr_X12_148 rfl dX12_feed_83 ?_
  refine lv_iload hx hb dX12_feed_86 (lv_at hl 0 rfl) ?_
  refine lv_bipush (v := 24) hx hb dX12_feed_88 (by decide) ?_
  refine lv_bipush (v := 8) hx hb dX12_feed_90 (by decide) ?_
  refine lv_iload hx hb dX12_feed_92 (lv_at hl 1 rfl) ?_
  refine lv_iconst (v := 4) hx hb dX12_feed_94 (by decide) ?_
  refine lv_irem hx hb dX12_feed_95 (by decide) ?_
  refine z_i (v := 2) (by decide +kernel) ?_
  refine lv_imul hx hb dX12_feed_96 ?_
  refine z_i (v := 16) (by decide +kernel) ?_
  refine lv_isub hx hb dX12_feed_97 ?_
  refine z_i (v := 8) (by decide +kernel) ?_
  refine lv_ishr hx hb dX12_feed_98 ?_
  refine lv_sipush (v := 255) hx hb dX12_feed_99 (by decide) ?_
  refine lv_iand hx hb dX12_feed_102 ?_
  refine r_iast C w 1 rfl (IX.of (k := 10) (by decide +kernel)) (g := (upd (upd (upd (upd (upd (upd (upd (upd (upd (upd (upd (fun _ => 0) 0 ((x0 >>> (24 &&& 31)) &&& 255)) 1 ((x0 >>> (16 &&& 31)) &&& 255)) 2 ((x0 >>> (8 &&& 31)) &&& 255)) 3 ((x0 >>> (0 &&& 31)) &&& 255)) 4 ((x1 >>> (24 &&& 31)) &&& 255)) 5 ((x1 >>> (16 &&& 31)) &&& 255)) 6 ((x1 >>> (8 &&& 31)) &&& 255)) 7 ((x1 >>> (0 &&& 31)) &&& 255)) 8 ((x2 >>> (24 &&& 31)) &&& 255)) 9 ((x2 >>> (16 &&& 31)) &&& 255)) 10 ((x2 >>> (8 &&& 31)) &&& 255))) rfl dX12_feed_103 (ws2 := [(q0, .inr (12, [.int 0, .int 10, .int 0, .int 0, .int 0, .int 0, .int 0, .int (-1), .ref q1, .ref q2, .ref q3, .int 0, .ref q4, .ref q5, .ref q6, .ref q7, .ref q8, .ref q9, .ref q10, .int 0, .ref q11, .ref q12, .ref q13, .ref q14, .ref q15, .ref q16, .ref q17, .int 0, .int (-1), .int 0, .ref q18, .ref q19, .ref q20, .ref q21, .ref q22, .ref q23, .ref q24, .ref q25, .int 0, .ref q26, .ref q27, .ref q28, .ref q29, .ref q30, .int 0, .ref q31, .ref q32, .ref q33, .ref q34, .int 0, .ref q35, .ref q36, .ref q37, .ref q38, .int 0, .int 0, .ref q39, .ref q40, .ref q41, .ref q42])), (q1, .inl (G.2.1, 600, .inl (upd (upd (upd (upd (upd (upd (upd (upd (upd (upd (upd (fun _ => 0) 0 ((x0 >>> (24 &&& 31)) &&& 255)) 1 ((x0 >>> (16 &&& 31)) &&& 255)) 2 ((x0 >>> (8 &&& 31)) &&& 255)) 3 ((x0 >>> (0 &&& 31)) &&& 255)) 4 ((x1 >>> (24 &&& 31)) &&& 255)) 5 ((x1 >>> (16 &&& 31)) &&& 255)) 6 ((x1 >>> (8 &&& 31)) &&& 255)) 7 ((x1 >>> (0 &&& 31)) &&& 255)) 8 ((x2 >>> (24 &&& 31)) &&& 255)) 9 ((x2 >>> (16 &&& 31)) &&& 255)) 10 ((x2 >>> (8 &&& 31)) &&& 255))))]) rfl (fun H locs w => ?_)
  refine lv_aload_n hx hb dX12_feed_104 rfl (lv_at hl 2 rfl) ?_
  refine lv_dup hx hb dX12_feed_105 rfl ?_
  refine r_get C w 0 rfl fr_X12_148 rfl dX12_feed_106 ?_
  refine lv_iconst (v := 1) hx hb dX12_feed_109 (by decide) ?_
  refine lv_iadd hx hb dX12_feed_110 ?_
  refine z_i (v := 11) (by decide +kernel) ?_
  refine r_put C w 0 rfl fl_X12_148 (Nat.le_of_ble_eq_true rfl) rfl rfl dX12_feed_111 (ws2 := [(q0, .inr (12, [.int 0, .int 11, .int 0, .int 0, .int 0, .int 0, .int 0, .int (-1), .ref q1, .ref q2, .ref q3, .int 0, .ref q4, .ref q5, .ref q6, .ref q7, .ref q8, .ref q9, .ref q10, .int 0, .ref q11, .ref q12, .ref q13, .ref q14, .ref q15, .ref q16, .ref q17, .int 0, .int (-1), .int 0, .ref q18, .ref q19, .ref q20, .ref q21, .ref q22, .ref q23, .ref q24, .ref q25, .int 0, .ref q26, .ref q27, .ref q28, .ref q29, .ref q30, .int 0, .ref q31, .ref q32, .ref q33, .ref q34, .int 0, .ref q35, .ref q36, .ref q37, .ref q38, .int 0, .int 0, .ref q39, .ref q40, .ref q41, .ref q42])), (q1, .inl (G.2.1, 600, .inl (upd (upd (upd (upd (upd (upd (upd (upd (upd (upd (upd (fun _ => 0) 0 ((x0 >>> (24 &&& 31)) &&& 255)) 1 ((x0 >>> (16 &&& 31)) &&& 255)) 2 ((x0 >>> (8 &&& 31)) &&& 255)) 3 ((x0 >>> (0 &&& 31)) &&& 255)) 4 ((x1 >>> (24 &&& 31)) &&& 255)) 5 ((x1 >>> (16 &&& 31)) &&& 255)) 6 ((x1 >>> (8 &&& 31)) &&& 255)) 7 ((x1 >>> (0 &&& 31)) &&& 255)) 8 ((x2 >>> (24 &&& 31)) &&& 255)) 9 ((x2 >>> (16 &&& 31)) &&& 255)) 10 ((x2 >>> (8 &&& 31)) &&& 255))))]) rfl (fun H locs w => ?_)
  refine lv_iinc (v := 11) (lv' := [(6, .int 11), (7, .int x2), (0, .ref q0), (1, .int x0), (2, .int x1), (3, .int x2), (4, .int x3), (5, .int x4)]) hx hb dX12_feed_114 hl (k := 1) rfl (by decide +kernel) (by decide) rfl (fun ls hl => ?_)
  refine lv_goto (tgt := 23) hx hb dX12_feed_117 (by decide) ?_
  refine lv_iload hx hb dX12_feed_23 (lv_at hl 0 rfl) ?_
  refine lv_bipush (v := 20) hx hb dX12_feed_25 (by decide) ?_
  refine lv_icmp_ge (tgt := 120) hx hb dX12_feed_27 (by decide) (fun h => absurd h (by decide)) (fun _ => ?_)
  refine lv_iload hx hb dX12_feed_30 (lv_at hl 0 rfl) ?_
  refine lv_iconst (v := 4) hx hb dX12_feed_32 (by decide) ?_
  refine lv_icmp_ge (tgt := 40) hx hb dX12_feed_33 (by decide) (fun _ => ?_) (fun h => absurd (by decide) h)
  refine lv_iload hx hb dX12_feed_40 (lv_at hl 0 rfl) ?_
  refine lv_bipush (v := 8) hx hb dX12_feed_42 (by decide) ?_
  refine lv_icmp_ge (tgt := 51) hx hb dX12_feed_44 (by decide) (fun _ => ?_) (fun h => absurd (by decide) h)
  refine lv_iload hx hb dX12_feed_51 (lv_at hl 0 rfl) ?_
  refine lv_bipush (v := 12) hx hb dX12_feed_53 (by decide) ?_
  refine lv_icmp_ge (tgt := 62) hx hb dX12_feed_55 (by decide) (fun h => absurd h (by decide)) (fun _ => ?_)
  refine lv_iload_n hx hb dX12_feed_58 rfl (lv_at hl 5 rfl) ?_
  refine lv_goto (tgt := 76) hx hb dX12_feed_59 (by decide) ?_
  refine lv_istore (lv' := [(7, .int x2), (6, .int 11), (0, .ref q0), (1, .int x0), (2, .int x1), (3, .int x2), (4, .int x3), (5, .int x4)]) hx hb dX12_feed_76 hl (by decide) rfl (fun ls hl => ?_)
  refine lv_aload_n hx hb dX12_feed_78 rfl (lv_at hl 2 rfl) ?_
  refine r_get C w 0 rfl fr_X12_16 rfl dX12_feed_79 ?_
  refine lv_aload_n hx hb dX12_feed_82 rfl (lv_at hl 2 rfl) ?_
  refine r_get C w 0 rfl fr_X12_148 rfl dX12_feed_83 ?_
  refine lv_iload hx hb dX12_feed_86 (lv_at hl 0 rfl) ?_
  refine lv_bipush (v := 24) hx hb dX12_feed_88 (by decide) ?_
  refine lv_bipush (v := 8) hx hb dX12_feed_90 (by decide) ?_
  refine lv_iload hx hb dX12_feed_92 (lv_at hl 1 rfl) ?_
  refine lv_iconst (v := 4) hx hb dX12_feed_94 (by decide) ?_
  refine lv_irem hx hb dX12_feed_95 (by decide) ?_
  refine z_i (v := 3) (by decide +kernel) ?_
  refine lv_imul hx hb dX12_feed_96 ?_
  refine z_i (v := 24) (by decide +kernel) ?_
  refine lv_isub hx hb dX12_feed_97 ?_
  refine z_i (v := 0) (by decide +kernel) ?_
  refine lv_ishr hx hb dX12_feed_98 ?_
  refine lv_sipush (v := 255) hx hb dX12_feed_99 (by decide) ?_
  refine lv_iand hx hb dX12_feed_102 ?_
  refine r_iast C w 1 rfl (IX.of (k := 11) (by decide +kernel)) (g := (upd (upd (upd (upd (upd (upd (upd (upd (upd (upd (upd (upd (fun _ => 0) 0 ((x0 >>> (24 &&& 31)) &&& 255)) 1 ((x0 >>> (16 &&& 31)) &&& 255)) 2 ((x0 >>> (8 &&& 31)) &&& 255)) 3 ((x0 >>> (0 &&& 31)) &&& 255)) 4 ((x1 >>> (24 &&& 31)) &&& 255)) 5 ((x1 >>> (16 &&& 31)) &&& 255)) 6 ((x1 >>> (8 &&& 31)) &&& 255)) 7 ((x1 >>> (0 &&& 31)) &&& 255)) 8 ((x2 >>> (24 &&& 31)) &&& 255)) 9 ((x2 >>> (16 &&& 31)) &&& 255)) 10 ((x2 >>> (8 &&& 31)) &&& 255)) 11 ((x2 >>> (0 &&& 31)) &&& 255))) rfl dX12_feed_103 (ws2 := [(q0, .inr (12, [.int 0, .int 11, .int 0, .int 0, .int 0, .int 0, .int 0, .int (-1), .ref q1, .ref q2, .ref q3, .int 0, .ref q4, .ref q5, .ref q6, .ref q7, .ref q8, .ref q9, .ref q10, .int 0, .ref q11, .ref q12, .ref q13, .ref q14, .ref q15, .ref q16, .ref q17, .int 0, .int (-1), .int 0, .ref q18, .ref q19, .ref q20, .ref q21, .ref q22, .ref q23, .ref q24, .ref q25, .int 0, .ref q26, .ref q27, .ref q28, .ref q29, .ref q30, .int 0, .ref q31, .ref q32, .ref q33, .ref q34, .int 0, .ref q35, .ref q36, .ref q37, .ref q38, .int 0, .int 0, .ref q39, .ref q40, .ref q41, .ref q42])), (q1, .inl (G.2.1, 600, .inl (upd (upd (upd (upd (upd (upd (upd (upd (upd (upd (upd (upd (fun _ => 0) 0 ((x0 >>> (24 &&& 31)) &&& 255)) 1 ((x0 >>> (16 &&& 31)) &&& 255)) 2 ((x0 >>> (8 &&& 31)) &&& 255)) 3 ((x0 >>> (0 &&& 31)) &&& 255)) 4 ((x1 >>> (24 &&& 31)) &&& 255)) 5 ((x1 >>> (16 &&& 31)) &&& 255)) 6 ((x1 >>> (8 &&& 31)) &&& 255)) 7 ((x1 >>> (0 &&& 31)) &&& 255)) 8 ((x2 >>> (24 &&& 31)) &&& 255)) 9 ((x2 >>> (16 &&& 31)) &&& 255)) 10 ((x2 >>> (8 &&& 31)) &&& 255)) 11 ((x2 >>> (0 &&& 31)) &&& 255))))]) rfl (fun H locs w => ?_)
  refine lv_aload_n hx hb dX12_feed_104 rfl (lv_at hl 2 rfl) ?_
  refine lv_dup hx hb dX12_feed_105 rfl ?_
  refine r_get C w 0 rfl fr_X12_148 rfl dX12_feed_106 ?_
  refine lv_iconst (v := 1) hx hb dX12_feed_109 (by decide) ?_
  refine lv_iadd hx hb dX12_feed_110 ?_
  refine z_i (v := 12) (by decide +kernel) ?_
  refine r_put C w 0 rfl fl_X12_148 (Nat.le_of_ble_eq_true rfl) rfl rfl dX12_feed_111 (ws2 := [(q0, .inr (12, [.int 0, .int 12, .int 0, .int 0, .int 0, .int 0, .int 0, .int (-1), .ref q1, .ref q2, .ref q3, .int 0, .ref q4, .ref q5, .ref q6, .ref q7, .ref q8, .ref q9, .ref q10, .int 0, .ref q11, .ref q12, .ref q13, .ref q14, .ref q15, .ref q16, .ref q17, .int 0, .int (-1), .int 0, .ref q18, .ref q19, .ref q20, .ref q21, .ref q22, .ref q23, .ref q24, .ref q25, .int 0, .ref q26, .ref q27, .ref q28, .ref q29, .ref q30, .int 0, .ref q31, .ref q32, .ref q33, .ref q34, .int 0, .ref q35, .ref q36, .ref q37, .ref q38, .int 0, .int 0, .ref q39, .ref q40, .ref q41, .ref q42])), (q1, .inl (G.2.1, 600, .inl (upd (upd (upd (upd (upd (upd (upd (upd (upd (upd (upd (upd (fun _ => 0) 0 ((x0 >>> (24 &&& 31)) &&& 255)) 1 ((x0 >>> (16 &&& 31)) &&& 255)) 2 ((x0 >>> (8 &&& 31)) &&& 255)) 3 ((x0 >>> (0 &&& 31)) &&& 255)) 4 ((x1 >>> (24 &&& 31)) &&& 255)) 5 ((x1 >>> (16 &&& 31)) &&& 255)) 6 ((x1 >>> (8 &&& 31)) &&& 255)) 7 ((x1 >>> (0 &&& 31)) &&& 255)) 8 ((x2 >>> (24 &&& 31)) &&& 255)) 9 ((x2 >>> (16 &&& 31)) &&& 255)) 10 ((x2 >>> (8 &&& 31)) &&& 255)) 11 ((x2 >>> (0 &&& 31)) &&& 255))))]) rfl (fun H locs w => ?_)
  refine lv_iinc (v := 12) (lv' := [(6, .int 12), (7, .int x2), (0, .ref q0), (1, .int x0), (2, .int x1), (3, .int x2), (4, .int x3), (5, .int x4)]) hx hb dX12_feed_114 hl (k := 1) rfl (by decide +kernel) (by decide) rfl (fun ls hl => ?_)
  refine lv_goto (tgt := 23) hx hb dX12_feed_117 (by decide) ?_
  refine lv_iload hx hb dX12_feed_23 (lv_at hl 0 rfl) ?_
  refine lv_bipush (v := 20) hx hb dX12_feed_25 (by decide) ?_
  refine lv_icmp_ge (tgt := 120) hx hb dX12_feed_27 (by decide) (fun h => absurd h (by decide)) (fun _ => ?_)
  refine lv_iload hx hb dX12_feed_30 (lv_at hl 0 rfl) ?_
  refine lv_iconst (v := 4) hx hb dX12_feed_32 (by decide) ?_
  refine lv_icmp_ge (tgt := 40) hx hb dX12_feed_33 (by decide) (fun _ => ?_) (fun h => absurd (by decide) h)
  refine lv_iload hx hb dX12_feed_40 (lv_at hl 0 rfl) ?_
  refine lv_bipush (v := 8) hx hb dX12_feed_42 (by decide) ?_
  refine lv_icmp_ge (tgt := 51) hx hb dX12_feed_44 (by decide) (fun _ => ?_) (fun h => absurd (by decide) h)
  refine lv_iload hx hb dX12_feed_51 (lv_at hl 0 rfl) ?_
  refine lv_bipush (v := 12) hx hb dX12_feed_53 (by decide) ?_
  refine lv_icmp_ge (tgt := 62) hx hb dX12_feed_55 (by decide) (fun _ => ?_) (fun h => absurd (by decide) h)
  refine lv_iload hx hb dX12_feed_62 (lv_at hl 0 rfl) ?_
  refine lv_bipush (v := 16) hx hb dX12_feed_64 (by decide) ?_
  refine lv_icmp_ge (tgt := 74) hx hb dX12_feed_66 (by decide) (fun h => absurd h (by decide)) (fun _ => ?_)
  refine lv_iload hx hb dX12_feed_69 (lv_at hl 6 rfl) ?_
  refine lv_goto (tgt := 76) hx hb dX12_feed_71 (by decide) ?_
  refine lv_istore (lv' := [(7, .int x3), (6, .int 12), (0, .ref q0), (1, .int x0), (2, .int x1), (3, .int x2), (4, .int x3), (5, .int x4)]) hx hb dX12_feed_76 hl (by decide) rfl (fun ls hl => ?_)
  refine lv_aload_n hx hb dX12_feed_78 rfl (lv_at hl 2 rfl) ?_
  refine r_get C w 0 rfl fr_X12_16 rfl dX12_feed_79 ?_
  refine lv_aload_n hx hb dX12_feed_82 rfl (lv_at hl 2 rfl) ?_
  refine r_get C w 0 rfl fr_X12_148 rfl dX12_feed_83 ?_
  refine lv_iload hx hb dX12_feed_86 (lv_at hl 0 rfl) ?_
  refine lv_bipush (v := 24) hx hb dX12_feed_88 (by decide) ?_
  refine lv_bipush (v := 8) hx hb dX12_feed_90 (by decide) ?_
  refine lv_iload hx hb dX12_feed_92 (lv_at hl 1 rfl) ?_
  refine lv_iconst (v := 4) hx hb dX12_feed_94 (by decide) ?_
  refine lv_irem hx hb dX12_feed_95 (by decide) ?_
  refine z_i (v := 0) (by decide +kernel) ?_
  refine lv_imul hx hb dX12_feed_96 ?_
  refine z_i (v := 0) (by decide +kernel) ?_
  refine lv_isub hx hb dX12_feed_97 ?_
  refine z_i (v := 24) (by decide +kernel) ?_
  refine lv_ishr hx hb dX12_feed_98 ?_
  refine lv_sipush (v := 255) hx hb dX12_feed_99 (by decide) ?_
  refine lv_iand hx hb dX12_feed_102 ?_
  refine r_iast C w 1 rfl (IX.of (k := 12) (by decide +kernel)) (g := (upd (upd (upd (upd (upd (upd (upd (upd (upd (upd (upd (upd (upd (fun _ => 0) 0 ((x0 >>> (24 &&& 31)) &&& 255)) 1 ((x0 >>> (16 &&& 31)) &&& 255)) 2 ((x0 >>> (8 &&& 31)) &&& 255)) 3 ((x0 >>> (0 &&& 31)) &&& 255)) 4 ((x1 >>> (24 &&& 31)) &&& 255)) 5 ((x1 >>> (16 &&& 31)) &&& 255)) 6 ((x1 >>> (8 &&& 31)) &&& 255)) 7 ((x1 >>> (0 &&& 31)) &&& 255)) 8 ((x2 >>> (24 &&& 31)) &&& 255)) 9 ((x2 >>> (16 &&& 31)) &&& 255)) 10 ((x2 >>> (8 &&& 31)) &&& 255)) 11 ((x2 >>> (0 &&& 31)) &&& 255)) 12 ((x3 >>> (24 &&& 31)) &&& 255))) rfl dX12_feed_103 (ws2 := [(q0, .inr (12, [.int 0, .int 12, .int 0, .int 0, .int 0, .int 0, .int 0, .int (-1), .ref q1, .ref q2, .ref q3, .int 0, .ref q4, .ref q5, .ref q6, .ref q7, .ref q8, .ref q9, .ref q10, .int 0, .ref q11, .ref q12, .ref q13, .ref q14, .ref q15, .ref q16, .ref q17, .int 0, .int (-1), .int 0, .ref q18, .ref q19, .ref q20, .ref q21, .ref q22, .ref q23, .ref q24, .ref q25, .int 0, .ref q26, .ref q27, .ref q28, .ref q29, .ref q30, .int 0, .ref q31, .ref q32, .ref q33, .ref q34, .int 0, .ref q35, .ref q36, .ref q37, .ref q38, .int 0, .int 0, .ref q39, .ref q40, .ref q41, .ref q42])), (q1, .inl (G.2.1, 600, .inl (upd (upd (upd (upd (upd (upd (upd (upd (upd (upd (upd (upd (upd (fun _ => 0) 0 ((x0 >>> (24 &&& 31)) &&& 255)) 1 ((x0 >>> (16 &&& 31)) &&& 255)) 2 ((x0 >>> (8 &&& 31)) &&& 255)) 3 ((x0 >>> (0 &&& 31)) &&& 255)) 4 ((x1 >>> (24 &&& 31)) &&& 255)) 5 ((x1 >>> (16 &&& 31)) &&& 255)) 6 ((x1 >>> (8 &&& 31)) &&& 255)) 7 ((x1 >>> (0 &&& 31)) &&& 255)) 8 ((x2 >>> (24 &&& 31)) &&& 255)) 9 ((x2 >>> (16 &&& 31)) &&& 255)) 10 ((x2 >>> (8 &&& 31)) &&& 255)) 11 ((x2 >>> (0 &&& 31)) &&& 255)) 12 ((x3 >>> (24 &&& 31)) &&& 255))))]) rfl (fun H locs w => ?_)
  refine lv_aload_n hx hb dX12_feed_104 rfl (lv_at hl 2 rfl) ?_
  refine lv_dup hx hb dX12_feed_105 rfl ?_
  refine r_get C w 0 rfl fr_X12_148 rfl dX12_feed_106 ?_
  refine lv_iconst (v := 1) hx hb dX12_feed_109 (by decide) ?_
  refine lv_iadd hx hb dX12_feed_110 ?_
  refine z_i (v := 13) (by decide +kernel) ?_
  refine r_put C w 0 rfl fl_X12_148 (Nat.le_of_ble_eq_true rfl) rfl rfl dX12_feed_111 (ws2 := [(q0, .inr (12, [.int 0, .int 13, .int 0, .int 0, .int 0, .int 0, .int 0, .int (-1), .ref q1, .ref q2, .ref q3, .int 0, .ref q4, .ref q5, .ref q6, .ref q7, .ref q8, .ref q9, .ref q10, .int 0, .ref q11, .ref q12, .ref q13, .ref q14, .ref q15, .ref q16, .ref q17, .int 0, .int (-1), .int 0, .ref q18, .ref q19, .ref q20, .ref q21, .ref q22, .ref q23, .ref q24, .ref q25, .int 0, .ref q26, .ref q27, .ref q28, .ref q29, .ref q30, .int 0, .ref q31, .ref q32, .ref q33, .ref q34, .int 0, .ref q35, .ref q36, .ref q37, .ref q38, .int 0, .int 0, .ref q39, .ref q40, .ref q41, .ref q42])), (q1, .inl (G.2.1, 600, .inl (upd (upd (upd (upd (upd (upd (upd (upd (upd (upd (upd (upd (upd (fun _ => 0) 0 ((x0 >>> (24 &&& 31)) &&& 255)) 1 ((x0 >>> (16 &&& 31)) &&& 255)) 2 ((x0 >>> (8 &&& 31)) &&& 255)) 3 ((x0 >>> (0 &&& 31)) &&& 255)) 4 ((x1 >>> (24 &&& 31)) &&& 255)) 5 ((x1 >>> (16 &&& 31)) &&& 255)) 6 ((x1 >>> (8 &&& 31)) &&& 255)) 7 ((x1 >>> (0 &&& 31)) &&& 255)) 8 ((x2 >>> (24 &&& 31)) &&& 255)) 9 ((x2 >>> (16 &&& 31)) &&& 255)) 10 ((x2 >>> (8 &&& 31)) &&& 255)) 11 ((x2 >>> (0 &&& 31)) &&& 255)) 12 ((x3 >>> (24 &&& 31)) &&& 255))))]) rfl (fun H locs w => ?_)
  refine lv_iinc (v := 13) (lv' := [(6, .int 13), (7, .int x3), (0, .ref q0), (1, .int x0), (2, .int x1), (3, .int x2), (4, .int x3), (5, .int x4)]) hx hb dX12_feed_114 hl (k := 1) rfl (by decide +kernel) (by decide) rfl (fun ls hl => ?_)
  refine lv_goto (tgt := 23) hx hb dX12_feed_117 (by decide) ?_
  refine lv_iload hx hb dX12_feed_23 (lv_at hl 0 rfl) ?_
  refine lv_bipush (v := 20) hx hb dX12_feed_25 (by decide) ?_
  refine lv_icmp_ge (tgt := 120) hx hb dX12_feed_27 (by decide) (fun h => absurd h (by decide)) (fun _ => ?_)
  refine lv_iload hx hb dX12_feed_30 (lv_at hl 0 rfl) ?_
  refine lv_iconst (v := 4) hx hb dX12_feed_32 (by decide) ?_
  refine lv_icmp_ge (tgt := 40) hx hb dX12_feed_33 (by decide) (fun _ => ?_) (fun h => absurd (by decide) h)
  refine lv_iload hx hb dX12_feed_40 (lv_at hl 0 rfl) ?_
  refine lv_bipush (v := 8) hx hb dX12_feed_42 (by decide) ?_
  refine lv_icmp_ge (tgt := 51) hx hb dX12_feed_44 (by decide) (fun _ => ?_) (fun h => absurd (by decide) h)
  refine lv_iload hx hb dX12_feed_51 (lv_at hl 0 rfl) ?_
  refine lv_bipush (v := 12) hx hb dX12_feed_53 (by decide) ?_
  refine lv_icmp_ge (tgt := 62) hx hb dX12_feed_55 (by decide) (fun _ => ?_) (fun h => absurd (by decide) h)
  refine lv_iload hx hb dX12_feed_62 (lv_at hl 0 rfl) ?_
  refine lv_bipush (v := 16) hx hb dX12_feed_64 (by decide) ?_
  refine lv_icmp_ge (tgt := 74) hx hb dX12_feed_66 (by decide) (fun h => absurd h (by decide)) (fun _ => ?_)
  refine lv_iload hx hb dX12_feed_69 (lv_at hl 6 rfl) ?_
  refine lv_goto (tgt := 76) hx hb dX12_feed_71 (by decide) ?_
  refine lv_istore (lv' := [(7, .int x3), (6, .int 13), (0, .ref q0), (1, .int x0), (2, .int x1), (3, .int x2), (4, .int x3), (5, .int x4)]) hx hb dX12_feed_76 hl (by decide) rfl (fun ls hl => ?_)
  refine lv_aload_n hx hb dX12_feed_78 rfl (lv_at hl 2 rfl) ?_
  refine r_get C w 0 rfl fr_X12_16 rfl dX12_feed_79 ?_
  refine lv_aload_n hx hb dX12_feed_82 rfl (lv_at hl 2 rfl) ?_
  refine r_get C w 0 rfl fr_X12_148 rfl dX12_feed_83 ?_
  refine lv_iload hx hb dX12_feed_86 (lv_at hl 0 rfl) ?_
  refine lv_bipush (v := 24) hx hb dX12_feed_88 (by decide) ?_
  refine lv_bipush (v := 8) hx hb dX12_feed_90 (by decide) ?_
  refine lv_iload hx hb dX12_feed_92 (lv_at hl 1 rfl) ?_
  refine lv_iconst (v := 4) hx hb dX12_feed_94 (by decide) ?_
  refine lv_irem hx hb dX12_feed_95 (by decide) ?_
  refine z_i (v := 1) (by decide +kernel) ?_
  refine lv_imul hx hb dX12_feed_96 ?_
  refine z_i (v := 8) (by decide +kernel) ?_
  refine lv_isub hx hb dX12_feed_97 ?_
  refine z_i (v := 16) (by decide +kernel) ?_
  refine lv_ishr hx hb dX12_feed_98 ?_
  refine lv_sipush (v := 255) hx hb dX12_feed_99 (by decide) ?_
  refine lv_iand hx hb dX12_feed_102 ?_
  refine r_iast C w 1 rfl (IX.of (k := 13) (by decide +kernel)) (g := (upd (upd (upd (upd (upd (upd (upd (upd (upd (upd (upd (upd (upd (upd (fun _ => 0) 0 ((x0 >>> (24 &&& 31)) &&& 255)) 1 ((x0 >>> (16 &&& 31)) &&& 255)) 2 ((x0 >>> (8 &&& 31)) &&& 255)) 3 ((x0 >>> (0 &&& 31)) &&& 255)) 4 ((x1 >>> (24 &&& 31)) &&& 255)) 5 ((x1 >>> (16 &&& 31)) &&& 255)) 6 ((x1 >>> (8 &&& 31)) &&& 255)) 7 ((x1 >>> (0 &&& 31)) &&& 255)) 8 ((x2 >>> (24 &&& 31)) &&& 255)) 9 ((x2 >>> (16 &&& 31)) &&& 255)) 10 ((x2 >>> (8 &&& 31)) &&& 255)) 11 ((x2 >>> (0 &&& 31)) &&& 255)) 12 ((x3 >>> (24 &&& 31)) &&& 255)) 13 ((x3 >>> (16 &&& 31)) &&& 255))) rfl dX12_feed_103 (ws2 := [(q0, .inr (12, [.int 0, .int 13, .int 0, .int 0, .int 0, .int 0, .int 0, .int (-1), .ref q1, .ref q2, .ref q3, .int 0, .ref q4, .ref q5, .ref q6, .ref q7, .ref q8, .ref q9, .ref q10, .int 0, .ref q11, .ref q12, .ref q13, .ref q14, .ref q15, .ref q16, .ref q17, .int 0, .int (-1), .int 0, .ref q18, .ref q19, .ref q20, .ref q21, .ref q22, .ref q23, .ref q24, .ref q25, .int 0, .ref q26, .ref q27, .ref q28, .ref q29, .ref q30, .int 0, .ref q31, .ref q32, .ref q33, .ref q34, .int 0, .ref q35, .ref q36, .ref q37, .ref q38, .int 0, .int 0, .ref q39, .ref q40, .ref q41, .ref q42])), (q1, .inl (G.2.1, 600, .inl (upd (upd (upd (upd (upd (upd (upd (upd (upd (upd (upd (upd (upd (upd (fun _ => 0) 0 ((x0 >>> (24 &&& 31)) &&& 255)) 1 ((x0 >>> (16 &&& 31)) &&& 255)) 2 ((x0 >>> (8 &&& 31)) &&& 255)) 3 ((x0 >>> (0 &&& 31)) &&& 255)) 4 ((x1 >>> (24 &&& 31)) &&& 255)) 5 ((x1 >>> (16 &&& 31)) &&& 255)) 6 ((x1 >>> (8 &&& 31)) &&& 255)) 7 ((x1 >>> (0 &&& 31)) &&& 255)) 8 ((x2 >>> (24 &&& 31)) &&& 255)) 9 ((x2 >>> (16 &&& 31)) &&& 255)) 10 ((x2 >>> (8 &&& 31)) &&& 255)) 11 ((x2 >>> (0 &&& 31)) &&& 255)) 12 ((x3 >>> (24 &&& 31)) &&& 255)) 13 ((x3 >>> (16 &&& 31)) &&& 255))))]) rfl (fun H locs w => ?_)
  refine lv_aload_n hx hb dX12_feed_104 rfl (lv_at hl 2 rfl) ?_
  refine lv_dup hx hb dX12_feed_105 rfl ?_
  refine r_get C w 0 rfl fr_X12_148 rfl dX12_feed_106 ?_
  refine lv_iconst (v := 1) hx hb dX12_feed_109 (by decide) ?_
  refine lv_iadd hx hb dX12_feed_110 ?_
  refine z_i (v := 14) (by decide +kernel) ?_
  refine r_put C w 0 rfl fl_X12_148 (Nat.le_of_ble_eq_true rfl) rfl rfl dX12_feed_111 (ws2 := [(q0, .inr (12, [.int 0, .int 14, .int 0, .int 0, .int 0, .int 0, .int 0, .int (-1), .ref q1, .ref q2, .ref q3, .int 0, .ref q4, .ref q5, .ref q6, .ref q7, .ref q8, .ref q9, .ref q10, .int 0, .ref q11, .ref q12, .ref q13, .ref q14, .ref q15, .ref q16, .ref q17, .int 0, .int (-1), .int 0, .ref q18, .ref q19, .ref q20, .ref q21, .ref q22, .ref q23, .ref q24, .ref q25, .int 0, .ref q26, .ref q27, .ref q28, .ref q29, .ref q30, .int 0, .ref q31, .ref q32, .ref q33, .ref q34, .int 0, .ref q35, .ref q36, .ref q37, .ref q38, .int 0, .int 0, .ref q39, .ref q40, .ref q41, .ref q42])), (q1, .inl (G.2.1, 600, .inl (upd (upd (upd (upd (upd (upd (upd (upd (upd (upd (upd (upd (upd (upd (fun _ => 0) 0 ((x0 >>> (24 &&& 31)) &&& 255)) 1 ((x0 >>> (16 &&& 31)) &&& 255)) 2 ((x0 >>> (8 &&& 31)) &&& 255)) 3 ((x0 >>> (0 &&& 31)) &&& 255)) 4 ((x1 >>> (24 &&& 31)) &&& 255)) 5 ((x1 >>> (16 &&& 31)) &&& 255)) 6 ((x1 >>> (8 &&& 31)) &&& 255)) 7 ((x1 >>> (0 &&& 31)) &&& 255)) 8 ((x2 >>> (24 &&& 31)) &&& 255)) 9 ((x2 >>> (16 &&& 31)) &&& 255)) 10 ((x2 >>> (8 &&& 31)) &&& 255)) 11 ((x2 >>> (0 &&& 31)) &&& 255)) 12 ((x3 >>> (24 &&& 31)) &&& 255)) 13 ((x3 >>> (16 &&& 31)) &&& 255))))]) rfl (fun H locs w => ?_)
  refine lv_iinc (v := 14) (lv' := [(6, .int 14), (7, .int x3), (0, .ref q0), (1, .int x0), (2, .int x1), (3, .int x2), (4, .int x3), (5, .int x4)]) hx hb dX12_feed_114 hl (k := 1) rfl (by decide +kernel) (by decide) rfl (fun ls hl => ?_)
  refine lv_goto (tgt := 23) hx hb dX12_feed_117 (by decide) ?_
  refine lv_iload hx hb dX12_feed_23 (lv_at hl 0 rfl) ?_
  refine lv_bipush (v := 20) hx hb dX12_feed_25 (by decide) ?_
  refine lv_icmp_ge (tgt := 120) hx hb dX12_feed_27 (by decide) (fun h => absurd h (by decide)) (fun _ => ?_)
  refine lv_iload hx hb dX12_feed_30 (lv_at hl 0 rfl) ?_
  refine lv_iconst (v := 4) hx hb dX12_feed_32 (by decide) ?_
  refine lv_icmp_ge (tgt := 40) hx hb dX12_feed_33 (by decide) (fun _ => ?_) (fun h => absurd (by decide) h)
  refine lv_iload hx hb dX12_feed_40 (lv_at hl 0 rfl) ?_
  refine lv_bipush (v := 8) hx hb dX12_feed_42 (by decide) ?_
  refine lv_icmp_ge (tgt := 51) hx hb dX12_feed_44 (by decide) (fun _ => ?_) (fun h => absurd (by decide) h)
  refine lv_iload hx hb dX12_feed_51 (lv_at hl 0 rfl) ?_
  refine lv_bipush (v := 12) hx hb dX12_feed_53 (by decide) ?_
  refine lv_icmp_ge (tgt := 62) hx hb dX12_feed_55 (by decide) (fun _ => ?_) (fun h => absurd (by decide) h)
  refine lv_iload hx hb dX12_feed_62 (lv_at hl 0 rfl) ?_
  refine lv_bipush (v := 16) hx hb dX12_feed_64 (by decide) ?_
  refine lv_icmp_ge (tgt := 74) hx hb dX12_feed_66 (by decide) (fun h => absurd h (by decide)) (fun _ => ?_)
  refine lv_iload hx hb dX12_feed_69 (lv_at hl 6 rfl) ?_
  refine lv_goto (tgt := 76) hx hb dX12_feed_71 (by decide) ?_
  refine lv_istore (lv' := [(7, .int x3), (6, .int 14), (0, .ref q0), (1, .int x0), (2, .int x1), (3, .int x2), (4, .int x3), (5, .int x4)]) hx hb dX12_feed_76 hl (by decide) rfl (fun ls hl => ?_)
  refine lv_aload_n hx hb dX12_feed_78 rfl (lv_at hl 2 rfl) ?_
  refine r_get C w 0 rfl fr_X12_16 rfl dX12_feed_79 ?_
  refine lv_aload_n hx hb dX12_feed_82 rfl (lv_at hl 2 rfl) ?_
  refine r_get C w 0 rfl fr_X12_148 rfl dX12_feed_83 ?_
  refine lv_iload hx hb dX12_feed_86 (lv_at hl 0 rfl) ?_
  refine lv_bipush (v := 24) hx hb dX12_feed_88 (by decide) ?_
  refine lv_bipush (v := 8) hx hb dX12_feed_90 (by decide) ?_
  refine lv_iload hx hb dX12_feed_92 (lv_at hl 1 rfl) ?_
  refine lv_iconst (v := 4) hx hb dX12_feed_94 (by decide) ?_
  refine lv_irem hx hb dX12_feed_95 (by decide) ?_
  refine z_i (v := 2) (by decide +kernel) ?_
  refine lv_imul hx hb dX12_feed_96 ?_
  refine z_i (v := 16) (by decide +kernel) ?_
  refine lv_isub hx hb dX12_feed_97 ?_
  refine z_i (v := 8) (by decide +kernel) ?_
  refine lv_ishr hx hb dX12_feed_98 ?_
  refine lv_sipush (v := 255) hx hb dX12_feed_99 (by decide) ?_
  refine lv_iand hx hb dX12_feed_102 ?_
  refine r_iast C w 1 rfl (IX.of (k := 14) (by decide +kernel)) (g := (upd (upd (upd (upd (upd (upd (upd (upd (upd (upd (upd (upd (upd (upd (upd (fun _ => 0) 0 ((x0 >>> (24 &&& 31)) &&& 255)) 1 ((x0 >>> (16 &&& 31)) &&& 255)) 2 ((x0 >>> (8 &&& 31)) &&& 255)) 3 ((x0 >>> (0 &&& 31)) &&& 255)) 4 ((x1 >>> (24 &&& 31)) &&& 255)) 5 ((x1 >>> (16 &&& 31)) &&& 255)) 6 ((x1 >>> (8 &&& 31)) &&& 255)) 7 ((x1 >>> (0 &&& 31)) &&& 255)) 8 ((x2 >>> (24 &&& 31)) &&& 255)) 9 ((x2 >>> (16 &&& 31)) &&& 255)) 10 ((x2 >>> (8 &&& 31)) &&& 255)) 11 ((x2 >>> (0 &&& 31)) &&& 255)) 12 ((x3 >>> (24 &&& 31)) &&& 255)) 13 ((x3 >>> (16 &&& 31)) &&& 255)) 14 ((x3 >>> (8 &&& 31)) &&& 255))) rfl dX12_feed_103 (ws2 := [(q0, .inr (12, [.int 0, .int 14, .int 0, .int 0, .int 0, .int 0, .int 0, .int (-1), .ref q1, .ref q2, .ref q3, .int 0, .ref q4, .ref q5, .ref q6, .ref q7, .ref q8, .ref q9, .ref q10, .int 0, .ref q11, .ref q12, .ref q13, .ref q14, .ref q15, .ref q16, .ref q17, .int 0, .int (-1), .int 0, .ref q18, .ref q19, .ref q20, .ref q21, .ref q22, .ref q23, .ref q24, .ref q25, .int 0, .ref q26, .ref q27, .ref q28, .ref q29, .ref q30, .int 0, .ref q31, .ref q32, .ref q33, .ref q34, .int 0, .ref q35, .ref q36, .ref q37, .ref q38, .int 0, .int 0, .ref q39, .ref q40, .ref q41, .ref q42])), (q1, .inl (G.2.1, 600, .inl (upd (upd (upd (upd (upd (upd (upd (upd (upd (upd (upd (upd (upd (upd (upd (fun _ => 0) 0 ((x0 >>> (24 &&& 31)) &&& 255)) 1 ((x0 >>> (16 &&& 31)) &&& 255)) 2 ((x0 >>> (8 &&& 31)) &&& 255)) 3 ((x0 >>> (0 &&& 31)) &&& 255)) 4 ((x1 >>> (24 &&& 31)) &&& 255)) 5 ((x1 >>> (16 &&& 31)) &&& 255)) 6 ((x1 >>> (8 &&& 31)) &&& 255)) 7 ((x1 >>> (0 &&& 31)) &&& 255)) 8 ((x2 >>> (24 &&& 31)) &&& 255)) 9 ((x2 >>> (16 &&& 31)) &&& 255)) 10 ((x2 >>> (8 &&& 31)) &&& 255)) 11 ((x2 >>> (0 &&& 31)) &&& 255)) 12 ((x3 >>> (24 &&& 31)) &&& 255)) 13 ((x3 >>> (16 &&& 31)) &&& 255)) 14 ((x3 >>> (8 &&& 31)) &&& 255))))]) rfl (fun H locs w => ?_)
  refine lv_aload_n hx hb dX12_feed_104 rfl (lv_at hl 2 rfl) ?_
  refine lv_dup hx hb dX12_feed_105 rfl ?_
  refine r_get C w 0 rfl fr_X12_148 rfl dX12_feed_106 ?_
  refine lv_iconst (v := 1) hx hb dX12_feed_109 (by decide) ?_
  refine lv_iadd hx hb dX12_feed_110 ?_
  refine z_i (v := 15) (by decide +kernel) ?_
  refine r_put C w 0 rfl fl_X12_148 (Nat.le_of_ble_eq_true rfl) rfl rfl dX12_feed_111 (ws2 := [(q0, .inr (12, [.int 0, .int 15, .int 0, .int 0, .int 0, .int 0, .int 0, .int (-1), .ref q1, .ref q2, .ref q3, .int 0, .ref q4, .ref q5, .ref q6, .ref q7, .ref q8, .ref q9, .ref q10, .int 0, .ref q11, .ref q12, .ref q13, .ref q14, .ref q15, .ref q16, .ref q17, .int 0, .int (-1), .int 0, .ref q18, .ref q19, .ref q20, .ref q21, .ref q22, .ref q23, .ref q24, .ref q25, .int 0, .ref q26, .ref q27, .ref q28, .ref q29, .ref q30, .int 0, .ref q31, .ref q32, .ref q33, .ref q34, .int 0, .ref q35, .ref q36, .ref q37, .ref q38, .int 0, .int 0, .ref q39, .ref q40, .ref q41, .ref q42])), (q1, .inl (G.2.1, 600, .inl (upd (upd (upd (upd (upd (upd (upd (upd (upd (upd (upd (upd (upd (upd (upd (fun _ => 0) 0 ((x0 >>> (24 &&& 31)) &&& 255)) 1 ((x0 >>> (16 &&& 31)) &&& 255)) 2 ((x0 >>> (8 &&& 31)) &&& 255)) 3 ((x0 >>> (0 &&& 31)) &&& 255)) 4 ((x1 >>> (24 &&& 31)) &&& 255)) 5 ((x1 >>> (16 &&& 31)) &&& 255)) 6 ((x1 >>> (8 &&& 31)) &&& 255)) 7 ((x1 >>> (0 &&& 31)) &&& 255)) 8 ((x2 >>> (24 &&& 31)) &&& 255)) 9 ((x2 >>> (16 &&& 31)) &&& 255)) 10 ((x2 >>> (8 &&& 31)) &&& 255)) 11 ((x2 >>> (0 &&& 31)) &&& 255)) 12 ((x3 >>> (24 &&& 31)) &&& 255)) 13 ((x3 >>> (16 &&& 31)) &&& 255)) 14 ((x3 >>> (8 &&& 31)) &&& 255))))]) rfl (fun H locs w => ?_)
  refine lv_iinc (v := 15) (lv' := [(6, .int 15), (7, .int x3), (0, .ref q0), (1, .int x0), (2, .int x1), (3, .int x2), (4, .int x3), (5, .int x4)]) hx hb dX12_feed_114 hl (k := 1) rfl (by decide +kernel) (by decide) rfl (fun ls hl => ?_)
  refine lv_goto (tgt := 23) hx hb dX12_feed_117 (by decide) ?_
  refine lv_iload hx hb dX12_feed_23 (lv_at hl 0 rfl) ?_
  refine lv_bipush (v := 20) hx hb dX12_feed_25 (by decide) ?_
  refine lv_icmp_ge (tgt := 120) hx hb dX12_feed_27 (by decide) (fun h => absurd h (by decide)) (fun _ => ?_)
  refine lv_iload hx hb dX12_feed_30 (lv_at hl 0 rfl) ?_
  refine lv_iconst (v := 4) hx hb dX12_feed_32 (by decide) ?_
  refine lv_icmp_ge (tgt := 40) hx hb dX12_feed_33 (by decide) (fun _ => ?_) (fun h => absurd (by decide) h)
  refine lv_iload hx hb dX12_feed_40 (lv_at hl 0 rfl) ?_
  refine lv_bipush (v := 8) hx hb dX12_feed_42 (by decide) ?_
  refine lv_icmp_ge (tgt := 51) hx hb dX12_feed_44 (by decide) (fun _ => ?_) (fun h => absurd (by decide) h)
  refine lv_iload hx hb dX12_feed_51 (lv_at hl 0 rfl) ?_
  refine lv_bipush (v := 12) hx hb dX12_feed_53 (by decide) ?_
  refine lv_icmp_ge (tgt := 62) hx hb dX12_feed_55 (by decide) (fun _ => ?_) (fun h => absurd (by decide) h)
  refine lv_iload hx hb dX12_feed_62 (lv_at hl 0 rfl) ?_
  refine lv_bipush (v := 16) hx hb dX12_feed_64 (by decide) ?_
  refine lv_icmp_ge (tgt := 74) hx hb dX12_feed_66 (by decide) (fun h => absurd h (by decide)) (fun _ => ?_)
  refine lv_iload hx hb dX12_feed_69 (lv_at hl 6 rfl) ?_
  refine lv_goto (tgt := 76) hx hb dX12_feed_71 (by decide) ?_
  refine lv_istore (lv' := [(7, .int x3), (6, .int 15), (0, .ref q0), (1, .int x0), (2, .int x1), (3, .int x2), (4, .int x3), (5, .int x4)]) hx hb dX12_feed_76 hl (by decide) rfl (fun ls hl => ?_)
  refine lv_aload_n hx hb dX12_feed_78 rfl (lv_at hl 2 rfl) ?_
  refine r_get C w 0 rfl fr_X12_16 rfl dX12_feed_79 ?_
  refine lv_aload_n hx hb dX12_feed_82 rfl (lv_at hl 2 rfl) ?_
  refine r_get C w 0 rfl fr_X12_148 rfl dX12_feed_83 ?_
  refine lv_iload hx hb dX12_feed_86 (lv_at hl 0 rfl) ?_
  refine lv_bipush (v := 24) hx hb dX12_feed_88 (by decide) ?_
  refine lv_bipush (v := 8) hx hb dX12_feed_90 (by decide) ?_
  refine lv_iload hx hb dX12_feed_92 (lv_at hl 1 rfl) ?_
  refine lv_iconst (v := 4) hx hb dX12_feed_94 (by decide) ?_
  refine lv_irem hx hb dX12_feed_95 (by decide) ?_
  refine z_i (v := 3) (by decide +kernel) ?_
  refine lv_imul hx hb dX12_feed_96 ?_
  refine z_i (v := 24) (by decide +kernel) ?_
  refine lv_isub hx hb dX12_feed_97 ?_
  refine z_i (v := 0) (by decide +kernel) ?_
  refine lv_ishr hx hb dX12_feed_98 ?_
  refine lv_sipush (v := 255) hx hb dX12_feed_99 (by decide) ?_
  refine lv_iand hx hb dX12_feed_102 ?_
  refine r_iast C w 1 rfl (IX.of (k := 15) (by decide +kernel)) (g := (upd (upd (upd (upd (upd (upd (upd (upd (upd (upd (upd (upd (upd (upd (upd (upd (fun _ => 0) 0 ((x0 >>> (24 &&& 31)) &&& 255)) 1 ((x0 >>> (16 &&& 31)) &&& 255)) 2 ((x0 >>> (8 &&& 31)) &&& 255)) 3 ((x0 >>> (0 &&& 31)) &&& 255)) 4 ((x1 >>> (24 &&& 31)) &&& 255)) 5 ((x1 >>> (16 &&& 31)) &&& 255)) 6 ((x1 >>> (8 &&& 31)) &&& 255)) 7 ((x1 >>> (0 &&& 31)) &&& 255)) 8 ((x2 >>> (24 &&& 31)) &&& 255)) 9 ((x2 >>> (16 &&& 31)) &&& 255)) 10 ((x2 >>> (8 &&& 31)) &&& 255)) 11 ((x2 >>> (0 &&& 31)) &&& 255)) 12 ((x3 >>> (24 &&& 31)) &&& 255)) 13 ((x3 >>> (16 &&& 31)) &&& 255)) 14 ((x3 >>> (8 &&& 31)) &&& 255)) 15 ((x3 >>> (0 &&& 31)) &&& 255))) rfl dX12_feed_103 (ws2 := [(q0, .inr (12, [.int 0, .int 15, .int 0, .int 0, .int 0, .int 0, .int 0, .int (-1), .ref q1, .ref q2, .ref q3, .int 0, .ref q4, .ref q5, .ref q6, .ref q7, .ref q8, .ref q9, .ref q10, .int 0, .ref q11, .ref q12, .ref q13, .ref q14, .ref q15, .ref q16, .ref q17, .int 0, .int (-1), .int 0, .ref q18, .ref q19, .ref q20, .ref q21, .ref q22, .ref q23, .ref q24, .ref q25, .int 0, .ref q26, .ref q27, .ref q28, .ref q29, .ref q30, .int 0, .ref q31, .ref q32, .ref q33, .ref q34, .int 0, .ref q35, .ref q36, .ref q37, .ref q38, .int 0, .int 0, .ref q39, .ref q40, .ref q41, .ref q42])), (q1, .inl (G.2.1, 600, .inl (upd (upd (upd (upd (upd (upd (upd (upd (upd (upd (upd (upd (upd (upd (upd (upd (fun _ => 0) 0 ((x0 >>> (24 &&& 31)) &&& 255)) 1 ((x0 >>> (16 &&& 31)) &&& 255)) 2 ((x0 >>> (8 &&& 31)) &&& 255)) 3 ((x0 >>> (0 &&& 31)) &&& 255)) 4 ((x1 >>> (24 &&& 31)) &&& 255)) 5 ((x1 >>> (16 &&& 31)) &&& 255)) 6 ((x1 >>> (8 &&& 31)) &&& 255)) 7 ((x1 >>> (0 &&& 31)) &&& 255)) 8 ((x2 >>> (24 &&& 31)) &&& 255)) 9 ((x2 >>> (16 &&& 31)) &&& 255)) 10 ((x2 >>> (8 &&& 31)) &&& 255)) 11 ((x2 >>> (0 &&& 31)) &&& 255)) 12 ((x3 >>> (24 &&& 31)) &&& 255)) 13 ((x3 >>> (16 &&& 31)) &&& 255)) 14 ((x3 >>> (8 &&& 31)) &&& 255)) 15 ((x3 >>> (0 &&& 31)) &&& 255))))]) rfl (fun H locs w => ?_)
  refine lv_aload_n hx hb dX12_feed_104 rfl (lv_at hl 2 rfl) ?_
  refine lv_dup hx hb dX12_feed_105 rfl ?_
  refine r_get C w 0 rfl fr_X12_148 rfl dX12_feed_106 ?_
  refine lv_iconst (v := 1) hx hb dX12_feed_109 (by decide) ?_
  refine lv_iadd hx hb dX12_feed_110 ?_
  refine z_i (v := 16) (by decide +kernel) ?_
  refine r_put C w 0 rfl fl_X12_148 (Nat.le_of_ble_eq_true rfl) rfl rfl dX12_feed_111 (ws2 := [(q0, .inr (12, [.int 0, .int 16, .int 0, .int 0, .int 0, .int 0, .int 0, .int (-1), .ref q1, .ref q2, .ref q3, .int 0, .ref q4, .ref q5, .ref q6, .ref q7, .ref q8, .ref q9, .ref q10, .int 0, .ref q11, .ref q12, .ref q13, .ref q14, .ref q15, .ref q16, .ref q17, .int 0, .int (-1), .int 0, .ref q18, .ref q19, .ref q20, .ref q21, .ref q22, .ref q23, .ref q24, .ref q25, .int 0, .ref q26, .ref q27, .ref q28, .ref q29, .ref q30, .int 0, .ref q31, .ref q32, .ref q33, .ref q34, .int 0, .ref q35, .ref q36, .ref q37, .ref q38, .int 0, .int 0, .ref q39, .ref q40, .ref q41, .ref q42])), (q1, .inl (G.2.1, 600, .inl (upd (upd (upd (upd (upd (upd (upd (upd (upd (upd (upd (upd (upd (upd (upd (upd (fun _ => 0) 0 ((x0 >>> (24 &&& 31)) &&& 255)) 1 ((x0 >>> (16 &&& 31)) &&& 255)) 2 ((x0 >>> (8 &&& 31)) &&& 255)) 3 ((x0 >>> (0 &&& 31)) &&& 255)) 4 ((x1 >>> (24 &&& 31)) &&& 255)) 5 ((x1 >>> (16 &&& 31)) &&& 255)) 6 ((x1 >>> (8 &&& 31)) &&& 255)) 7 ((x1 >>> (0 &&& 31)) &&& 255)) 8 ((x2 >>> (24 &&& 31)) &&& 255)) 9 ((x2 >>> (16 &&& 31)) &&& 255)) 10 ((x2 >>> (8 &&& 31)) &&& 255)) 11 ((x2 >>> (0 &&& 31)) &&& 255)) 12 ((x3 >>> (24 &&& 31)) &&& 255)) 13 ((x3 >>> (16 &&& 31)) &&& 255)) 14 ((x3 >>> (8 &&& 31)) &&& 255)) 15 ((x3 >>> (0 &&& 31)) &&& 255))))]) rfl (fun H locs w => ?_)
  refine lv_iinc (v := 16) (lv' := [(6, .int 16), (7, .int x3), (0, .ref q0), (1, .int x0), (2, .int x1), (3, .int x2), (4, .int x3), (5, .int x4)]) hx hb dX12_feed_114 hl (k := 1) rfl (by decide +kernel) (by decide) rfl (fun ls hl => ?_)
  refine lv_goto (tgt := 23) hx hb dX12_feed_117 (by decide) ?_
  refine lv_iload hx hb dX12_feed_23 (lv_at hl 0 rfl) ?_
  refine lv_bipush (v := 20) hx hb dX12_feed_25 (by decide) ?_
  refine lv_icmp_ge (tgt := 120) hx hb dX12_feed_27 (by decide) (fun h => absurd h (by decide)) (fun _ => ?_)
  refine lv_iload hx hb dX12_feed_30 (lv_at hl 0 rfl) ?_
  refine lv_iconst (v := 4) hx hb dX12_feed_32 (by decide) ?_
  refine lv_icmp_ge (tgt := 40) hx hb dX12_feed_33 (by decide) (fun _ => ?_) (fun h => absurd (by decide) h)
  refine lv_iload hx hb dX12_feed_40 (lv_at hl 0 rfl) ?_
  refine lv_bipush (v := 8) hx hb dX12_feed_42 (by decide) ?_
  refine lv_icmp_ge (tgt := 51) hx hb dX12_feed_44 (by decide) (fun _ => ?_) (fun h => absurd (by decide) h)
  refine lv_iload hx hb dX12_feed_51 (lv_at hl 0 rfl) ?_
  refine lv_bipush (v := 12) hx hb dX12_feed_53 (by decide) ?_
  refine lv_icmp_ge (tgt := 62) hx hb dX12_feed_55 (by decide) (fun _ => ?_) (fun h => absurd (by decide) h)
  refine lv_iload hx hb dX12_feed_62 (lv_at hl 0 rfl) ?_
  refine lv_bipush (v := 16) hx hb dX12_feed_64 (by decide) ?_
  refine lv_icmp_ge (tgt := 74) hx hb dX12_feed_66 (by decide) (fun _ => ?_) (fun h => absurd (by decide) h)
  refine lv_iload hx hb dX12_feed_74 (lv_at hl 7 rfl) ?_
  refine lv_istore (lv' := [(7, .int x4), (6, .int 16), (0, .ref q0), (1, .int x0), (2, .int x1), (3, .int x2), (4, .int x3), (5, .int x4)]) hx hb dX12_feed_76 hl (by decide) rfl (fun ls hl => ?_)
  refine lv_aload_n hx hb dX12_feed_78 rfl (lv_at hl 2 rfl) ?_
  refine r_get C w 0 rfl fr_X12_16 rfl dX12_feed_79 ?_
  refine lv_aload_n hx hb dX12_feed_82 rfl (lv_at hl 2 rfl) ?_
  refine r_get C w 0 rfl fr_X12_148 rfl dX12_feed_83 ?_
  refine lv_iload hx hb dX12_feed_86 (lv_at hl 0 rfl) ?_
  refine lv_bipush (v := 24) hx hb dX12_feed_88 (by decide) ?_
  refine lv_bipush (v := 8) hx hb dX12_feed_90 (by decide) ?_
  refine lv_iload hx hb dX12_feed_92 (lv_at hl 1 rfl) ?_
  refine lv_iconst (v := 4) hx hb dX12_feed_94 (by decide) ?_
  refine lv_irem hx hb dX12_feed_95 (by decide) ?_
  refine z_i (v := 0) (by decide +kernel) ?_
  refine lv_imul hx hb dX12_feed_96 ?_
  refine z_i (v := 0) (by decide +kernel) ?_
  refine lv_isub hx hb dX12_feed_97 ?_
  refine z_i (v := 24) (by decide +kernel) ?_
  refine lv_ishr hx hb dX12_feed_98 ?_
  refine lv_sipush (v := 255) hx hb dX12_feed_99 (by decide) ?_
  refine lv_iand hx hb dX12_feed_102 ?_
  refine r_iast C w 1 rfl (IX.of (k := 16) (by decide +kernel)) (g := (upd (upd (upd (upd (upd (upd (upd (upd (upd (upd (upd (upd (upd (upd (upd (upd (upd (fun _ => 0) 0 ((x0 >>> (24 &&& 31)) &&& 255)) 1 ((x0 >>> (16 &&& 31)) &&& 255)) 2 ((x0 >>> (8 &&& 31)) &&& 255)) 3 ((x0 >>> (0 &&& 31)) &&& 255)) 4 ((x1 >>> (24 &&& 31)) &&& 255)) 5 ((x1 >>> (16 &&& 31)) &&& 255)) 6 ((x1 >>> (8 &&& 31)) &&& 255)) 7 ((x1 >>> (0 &&& 31)) &&& 255)) 8 ((x2 >>> (24 &&& 31)) &&& 255)) 9 ((x2 >>> (16 &&& 31)) &&& 255)) 10 ((x2 >>> (8 &&& 31)) &&& 255)) 11 ((x2 >>> (0 &&& 31)) &&& 255)) 12 ((x3 >>> (24 &&& 31)) &&& 255)) 13 ((x3 >>> (16 &&& 31)) &&& 255)) 14 ((x3 >>> (8 &&& 31)) &&& 255)) 15 ((x3 >>> (0 &&& 31)) &&& 255)) 16 ((x4 >>> (24 &&& 31)) &&& 255))) rfl dX12_feed_103 (ws2 := [(q0, .inr (12, [.int 0, .int 16, .int 0, .int 0, .int 0, .int 0, .int 0, .int (-1), .ref q1, .ref q2, .ref q3, .int 0, .ref q4, .ref q5, .ref q6, .ref q7, .ref q8, .ref q9, .ref q10, .int 0, .ref q11, .ref q12, .ref q13, .ref q14, .ref q15, .ref q16, .ref q17, .int 0, .int (-1), .int 0, .ref q18, .ref q19, .ref q20, .ref q21, .ref q22, .ref q23, .ref q24, .ref q25, .int 0, .ref q26, .ref q27, .ref q28, .ref q29, .ref q30, .int 0, .ref q31, .ref q32, .ref q33, .ref q34, .int 0, .ref q35, .ref q36, .ref q37, .ref q38, .int 0, .int 0, .ref q39, .ref q40, .ref q41, .ref q42])), (q1, .inl (G.2.1, 600, .inl (upd (upd (upd (upd (upd (upd (upd (upd (upd (upd (upd (upd (upd (upd (upd (upd (upd (fun _ => 0) 0 ((x0 >>> (24 &&& 31)) &&& 255)) 1 ((x0 >>> (16 &&& 31)) &&& 255)) 2 ((x0 >>> (8 &&& 31)) &&& 255)) 3 ((x0 >>> (0 &&& 31)) &&& 255)) 4 ((x1 >>> (24 &&& 31)) &&& 255)) 5 ((x1 >>> (16 &&& 31)) &&& 255)) 6 ((x1 >>> (8 &&& 31)) &&& 255)) 7 ((x1 >>> (0 &&& 31)) &&& 255)) 8 ((x2 >>> (24 &&& 31)) &&& 255)) 9 ((x2 >>> (16 &&& 31)) &&& 255)) 10 ((x2 >>> (8 &&& 31)) &&& 255)) 11 ((x2 >>> (0 &&& 31)) &&& 255)) 12 ((x3 >>> (24 &&& 31)) &&& 255)) 13 ((x3 >>> (16 &&& 31)) &&& 255)) 14 ((x3 >>> (8 &&& 31)) &&& 255)) 15 ((x3 >>> (0 &&& 31)) &&& 255)) 16 ((x4 >>> (24 &&& 31)) &&& 255))))]) rfl (fun H locs w => ?_)
  refine lv_aload_n hx hb dX12_feed_104 rfl (lv_at hl 2 rfl) ?_
  refine lv_dup hx hb dX12_feed_105 rfl ?_
  refine r_get C w 0 rfl fr_X12_148 rfl dX12_feed_106 ?_
  refine lv_iconst (v := 1) hx hb dX12_feed_109 (by decide) ?_
  refine lv_iadd hx hb dX12_feed_110 ?_
  refine z_i (v := 17) (by decide +kernel) ?_
  refine r_put C w 0 rfl fl_X12_148 (Nat.le_of_ble_eq_true rfl) rfl rfl dX12_feed_111 (ws2 := [(q0, .inr (12, [.int 0, .int 17, .int 0, .int 0, .int 0, .int 0, .int 0, .int (-1), .ref q1, .ref q2, .ref q3, .int 0, .ref q4, .ref q5, .ref q6, .ref q7, .ref q8, .ref q9, .ref q10, .int 0, .ref q11, .ref q12, .ref q13, .ref q14, .ref q15, .ref q16, .ref q17, .int 0, .int (-1), .int 0, .ref q18, .ref q19, .ref q20, .ref q21, .ref q22, .ref q23, .ref q24, .ref q25, .int 0, .ref q26, .ref q27, .ref q28, .ref q29, .ref q30, .int 0, .ref q31, .ref q32, .ref q33, .ref q34, .int 0, .ref q35, .ref q36, .ref q37, .ref q38, .int 0, .int 0, .ref q39, .ref q40, .ref q41, .ref q42])), (q1, .inl (G.2.1, 600, .inl (upd (upd (upd (upd (upd (upd (upd (upd (upd (upd (upd (upd (upd (upd (upd (upd (upd (fun _ => 0) 0 ((x0 >>> (24 &&& 31)) &&& 255)) 1 ((x0 >>> (16 &&& 31)) &&& 255)) 2 ((x0 >>> (8 &&& 31)) &&& 255)) 3 ((x0 >>> (0 &&& 31)) &&& 255)) 4 ((x1 >>> (24 &&& 31)) &&& 255)) 5 ((x1 >>> (16 &&& 31)) &&& 255)) 6 ((x1 >>> (8 &&& 31)) &&& 255)) 7 ((x1 >>> (0 &&& 31)) &&& 255)) 8 ((x2 >>> (24 &&& 31)) &&& 255)) 9 ((x2 >>> (16 &&& 31)) &&& 255)) 10 ((x2 >>> (8 &&& 31)) &&& 255)) 11 ((x2 >>> (0 &&& 31)) &&& 255)) 12 ((x3 >>> (24 &&& 31)) &&& 255)) 13 ((x3 >>> (16 &&& 31)) &&& 255)) 14 ((x3 >>> (8 &&& 31)) &&& 255)) 15 ((x3 >>> (0 &&& 31)) &&& 255)) 16 ((x4 >>> (24 &&& 31)) &&& 255))))]) rfl (fun H locs w => ?_)
  refine lv_iinc (v := 17) (lv' := [(6, .int 17), (7, .int x4), (0, .ref q0), (1, .int x0), (2, .int x1), (3, .int x2), (4, .int x3), (5, .int x4)]) hx hb dX12_feed_114 hl (k := 1) rfl (by decide +kernel) (by decide) rfl (fun ls hl => ?_)
  refine lv_goto (tgt := 23) hx hb dX12_feed_117 (by decide) ?_
  refine lv_iload hx hb dX12_feed_23 (lv_at hl 0 rfl) ?_
  refine lv_bipush (v := 20) hx hb dX12_feed_25 (by decide) ?_
  refine lv_icmp_ge (tgt := 120) hx hb dX12_feed_27 (by decide) (fun h => absurd h (by decide)) (fun _ => ?_)
  refine lv_iload hx hb dX12_feed_30 (lv_at hl 0 rfl) ?_
  refine lv_iconst (v := 4) hx hb dX12_feed_32 (by decide) ?_
  refine lv_icmp_ge (tgt := 40) hx hb dX12_feed_33 (by decide) (fun _ => ?_) (fun h => absurd (by decide) h)
  refine lv_iload hx hb dX12_feed_40 (lv_at hl 0 rfl) ?_
  refine lv_bipush (v := 8) hx hb dX12_feed_42 (by decide) ?_
  refine lv_icmp_ge (tgt := 51) hx hb dX12_feed_44 (by decide) (fun _ => ?_) (fun h => absurd (by decide) h)
  refine lv_iload hx hb dX12_feed_51 (lv_at hl 0 rfl) ?_
  refine lv_bipush (v := 12) hx hb dX12_feed_53 (by decide) ?_
  refine lv_icmp_ge (tgt := 62) hx hb dX12_feed_55 (by decide) (fun _ => ?_) (fun h => absurd (by decide) h)
  refine lv_iload hx hb dX12_feed_62 (lv_at hl 0 rfl) ?_
  refine lv_bipush (v := 16) hx hb dX12_feed_64 (by decide) ?_
  refine lv_icmp_ge (tgt := 74) hx hb dX12_feed_66 (by decide) (fun _ => ?_) (fun h => absurd (by decide) h)
  refine lv_iload hx hb dX12_feed_74 (lv_at hl 7 rfl) ?_
  refine lv_istore (lv' := [(7, .int x4), (6, .int 17), (0, .ref q0), (1, .int x0), (2, .int x1), (3, .int x2), (4, .int x3), (5, .int x4)]) hx hb dX12_feed_76 hl (by decide) rfl (fun ls hl => ?_)
  refine lv_aload_n hx hb dX12_feed_78 rfl (lv_at hl 2 rfl) ?_
  refine r_get C w 0 rfl fr_X12_16 rfl dX12_feed_79 ?_
  refine lv_aload_n hx hb dX12_feed_82 rfl (lv_at hl 2 rfl) ?_
  refine r_get C w 0 rfl fr_X12_148 rfl dX12_feed_83 ?_
  refine lv_iload hx hb dX12_feed_86 (lv_at hl 0 rfl) ?_
  refine lv_bipush (v := 24) hx hb dX12_feed_88 (by decide) ?_
  refine lv_bipush (v := 8) hx hb dX12_feed_90 (by decide) ?_
  refine lv_iload hx hb dX12_feed_92 (lv_at hl 1 rfl) ?_
  refine lv_iconst (v := 4) hx hb dX12_feed_94 (by decide) ?_
  refine lv_irem hx hb dX12_feed_95 (by decide) ?_
  refine z_i (v := 1) (by decide +kernel) ?_
  refine lv_imul hx hb dX12_feed_96 ?_
  refine z_i (v := 8) (by decide +kernel) ?_
  refine lv_isub hx hb dX12_feed_97 ?_
  refine z_i (v := 16) (by decide +kernel) ?_
  refine lv_ishr hx hb dX12_feed_98 ?_
  refine lv_sipush (v := 255) hx hb dX12_feed_99 (by decide) ?_
  refine lv_iand hx hb dX12_feed_102 ?_
  refine r_iast C w 1 rfl (IX.of (k := 17) (by decide +kernel)) (g := (upd (upd (upd (upd (upd (upd (upd (upd (upd (upd (upd (upd (upd (upd (upd (upd (upd (upd (fun _ => 0) 0 ((x0 >>> (24 &&& 31)) &&& 255)) 1 ((x0 >>> (16 &&& 31)) &&& 255)) 2 ((x0 >>> (8 &&& 31)) &&& 255)) 3 ((x0 >>> (0 &&& 31)) &&& 255)) 4 ((x1 >>> (24 &&& 31)) &&& 255)) 5 ((x1 >>> (16 &&& 31)) &&& 255)) 6 ((x1 >>> (8 &&& 31)) &&& 255)) 7 ((x1 >>> (0 &&& 31)) &&& 255)) 8 ((x2 >>> (24 &&& 31)) &&& 255)) 9 ((x2 >>> (16 &&& 31)) &&& 255)) 10 ((x2 >>> (8 &&& 31)) &&& 255)) 11 ((x2 >>> (0 &&& 31)) &&& 255)) 12 ((x3 >>> (24 &&& 31)) &&& 255)) 13 ((x3 >>> (16 &&& 31)) &&& 255)) 14 ((x3 >>> (8 &&& 31)) &&& 255)) 15 ((x3 >>> (0 &&& 31)) &&& 255)) 16 ((x4 >>> (24 &&& 31)) &&& 255)) 17 ((x4 >>> (16 &&& 31)) &&& 255))) rfl dX12_feed_103 (ws2 := [(q0, .inr (12, [.int 0, .int 17, .int 0, .int 0, .int 0, .int 0, .int 0, .int (-1), .ref q1, .ref q2, .ref q3, .int 0, .ref q4, .ref q5, .ref q6, .ref q7, .ref q8, .ref q9, .ref q10, .int 0, .ref q11, .ref q12, .ref q13, .ref q14, .ref q15, .ref q16, .ref q17, .int 0, .int (-1), .int 0, .ref q18, .ref q19, .ref q20, .ref q21, .ref q22, .ref q23, .ref q24, .ref q25, .int 0, .ref q26, .ref q27, .ref q28, .ref q29, .ref q30, .int 0, .ref q31, .ref q32, .ref q33, .ref q34, .int 0, .ref q35, .ref q36, .ref q37, .ref q38, .int 0, .int 0, .ref q39, .ref q40, .ref q41, .ref q42])), (q1, .inl (G.2.1, 600, .inl (upd (upd (upd (upd (upd (upd (upd (upd (upd (upd (upd (upd (upd (upd (upd (upd (upd (upd (fun _ => 0) 0 ((x0 >>> (24 &&& 31)) &&& 255)) 1 ((x0 >>> (16 &&& 31)) &&& 255)) 2 ((x0 >>> (8 &&& 31)) &&& 255)) 3 ((x0 >>> (0 &&& 31)) &&& 255)) 4 ((x1 >>> (24 &&& 31)) &&& 255)) 5 ((x1 >>> (16 &&& 31)) &&& 255)) 6 ((x1 >>> (8 &&& 31)) &&& 255)) 7 ((x1 >>> (0 &&& 31)) &&& 255)) 8 ((x2 >>> (24 &&& 31)) &&& 255)) 9 ((x2 >>> (16 &&& 31)) &&& 255)) 10 ((x2 >>> (8 &&& 31)) &&& 255)) 11 ((x2 >>> (0 &&& 31)) &&& 255)) 12 ((x3 >>> (24 &&& 31)) &&& 255)) 13 ((x3 >>> (16 &&& 31)) &&& 255)) 14 ((x3 >>> (8 &&& 31)) &&& 255)) 15 ((x3 >>> (0 &&& 31)) &&& 255)) 16 ((x4 >>> (24 &&& 31)) &&& 255)) 17 ((x4 >>> (16 &&& 31)) &&& 255))))]) rfl (fun H locs w => ?_)
  refine lv_aload_n hx hb dX12_feed_104 rfl (lv_at hl 2 rfl) ?_
  refine lv_dup hx hb dX12_feed_105 rfl ?_
  refine r_get C w 0 rfl fr_X12_148 rfl dX12_feed_106 ?_
  refine lv_iconst (v := 1) hx hb dX12_feed_109 (by decide) ?_
  refine lv_iadd hx hb dX12_feed_110 ?_
  refine z_i (v := 18) (by decide +kernel) ?_
  refine r_put C w 0 rfl fl_X12_148 (Nat.le_of_ble_eq_true rfl) rfl rfl dX12_feed_111 (ws2 := [(q0, .inr (12, [.int 0, .int 18, .int 0, .int 0, .int 0, .int 0, .int 0, .int (-1), .ref q1, .ref q2, .ref q3, .int 0, .ref q4, .ref q5, .ref q6, .ref q7, .ref q8, .ref q9, .ref q10, .int 0, .ref q11, .ref q12, .ref q13, .ref q14, .ref q15, .ref q16, .ref q17, .int 0, .int (-1), .int 0, .ref q18, .ref q19, .ref q20, .ref q21, .ref q22, .ref q23, .ref q24, .ref q25, .int 0, .ref q26, .ref q27, .ref q28, .ref q29, .ref q30, .int 0, .ref q31, .ref q32, .ref q33, .ref q34, .int 0, .ref q35, .ref q36, .ref q37, .ref q38, .int 0, .int 0, .ref q39, .ref q40, .ref q41, .ref q42])), (q1, .inl (G.2.1, 600, .inl (upd (upd (upd (upd (upd (upd (upd (upd (upd (upd (upd (upd (upd (upd (upd (upd (upd (upd (fun _ => 0) 0 ((x0 >>> (24 &&& 31)) &&& 255)) 1 ((x0 >>> (16 &&& 31)) &&& 255)) 2 ((x0 >>> (8 &&& 31)) &&& 255)) 3 ((x0 >>> (0 &&& 31)) &&& 255)) 4 ((x1 >>> (24 &&& 31)) &&& 255)) 5 ((x1 >>> (16 &&& 31)) &&& 255)) 6 ((x1 >>> (8 &&& 31)) &&& 255)) 7 ((x1 >>> (0 &&& 31)) &&& 255)) 8 ((x2 >>> (24 &&& 31)) &&& 255)) 9 ((x2 >>> (16 &&& 31)) &&& 255)) 10 ((x2 >>> (8 &&& 31)) &&& 255)) 11 ((x2 >>> (0 &&& 31)) &&& 255)) 12 ((x3 >>> (24 &&& 31)) &&& 255)) 13 ((x3 >>> (16 &&& 31)) &&& 255)) 14 ((x3 >>> (8 &&& 31)) &&& 255)) 15 ((x3 >>> (0 &&& 31)) &&& 255)) 16 ((x4 >>> (24 &&& 31)) &&& 255)) 17 ((x4 >>> (16 &&& 31)) &&& 255))))]) rfl (fun H locs w => ?_)
  refine lv_iinc (v := 18) (lv' := [(6, .int 18), (7, .int x4), (0, .ref q0), (1, .int x0), (2, .int x1), (3, .int x2), (4, .int x3), (5, .int x4)]) hx hb dX12_feed_114 hl (k := 1) rfl (by decide +kernel) (by decide) rfl (fun ls hl => ?_)
  refine lv_goto (tgt := 23) hx hb dX12_feed_117 (by decide) ?_
  refine lv_iload hx hb dX12_feed_23 (lv_at hl 0 rfl) ?_
  refine lv_bipush (v := 20) hx hb dX12_feed_25 (by decide) ?_
  refine lv_icmp_ge (tgt := 120) hx hb dX12_feed_27 (by decide) (fun h => absurd h (by decide)) (fun _ => ?_)
  refine lv_iload hx hb dX12_feed_30 (lv_at hl 0 rfl) ?_
  refine lv_iconst (v := 4) hx hb dX12_feed_32 (by decide) ?_
  refine lv_icmp_ge (tgt := 40) hx hb dX12_feed_33 (by decide) (fun _ => ?_) (fun h => absurd (by decide) h)
  refine lv_iload hx hb dX12_feed_40 (lv_at hl 0 rfl) ?_
  refine lv_bipush (v := 8) hx hb dX12_feed_42 (by decide) ?_
  refine lv_icmp_ge (tgt := 51) hx hb dX12_feed_44 (by decide) (fun _ => ?_) (fun h => absurd (by decide) h)
  refine lv_iload hx hb dX12_feed_51 (lv_at hl 0 rfl) ?_
  refine lv_bipush (v := 12) hx hb dX12_feed_53 (by decide) ?_
  refine lv_icmp_ge (tgt := 62) hx hb dX12_feed_55 (by decide) (fun _ => ?_) (fun h => absurd (by decide) h)
  refine lv_iload hx hb dX12_feed_62 (lv_at hl 0 rfl) ?_
  refine lv_bipush (v := 16) hx hb dX12_feed_64 (by decide) ?_
  refine lv_icmp_ge (tgt := 74) hx hb dX12_feed_66 (by decide) (fun _ => ?_) (fun h => absurd (by decide) h)
  refine lv_iload hx hb dX12_feed_74 (lv_at hl 7 rfl) ?_
  refine lv_istore (lv' := [(7, .int x4), (6, .int 18), (0, .ref q0), (1, .int x0), (2, .int x1), (3, .int x2), (4, .int x3), (5, .int x4)]) hx hb dX12_feed_76 hl (by decide) rfl (fun ls hl => ?_)
  refine lv_aload_n hx hb dX12_feed_78 rfl (lv_at hl 2 rfl) ?_
  refine r_get C w 0 rfl fr_X12_16 rfl dX12_feed_79 ?_
  refine lv_aload_n hx hb dX12_feed_82 rfl (lv_at hl 2 rfl) ?_
  refine r_get C w 0 rfl fr_X12_148 rfl dX12_feed_83 ?_
  refine lv_iload hx hb dX12_feed_86 (lv_at hl 0 rfl) ?_
  refine lv_bipush (v := 24) hx hb dX12_feed_88 (by decide) ?_
  refine lv_bipush (v := 8) hx hb dX12_feed_90 (by decide) ?_
  refine lv_iload hx hb dX12_feed_92 (lv_at hl 1 rfl) ?_
  refine lv_iconst (v := 4) hx hb dX12_feed_94 (by decide) ?_
  refine lv_irem hx hb dX12_feed_95 (by decide) ?_
  refine z_i (v := 2) (by decide +kernel) ?_
  refine lv_imul hx hb dX12_feed_96 ?_
  refine z_i (v := 16) (by decide +kernel) ?_
  refine lv_isub hx hb dX12_feed_97 ?_
  refine z_i (v := 8) (by decide +kernel) ?_
  refine lv_ishr hx hb dX12_feed_98 ?_
  refine lv_sipush (v := 255) hx hb dX12_feed_99 (by decide) ?_
  refine lv_iand hx hb dX12_feed_102 ?_
  refine r_iast C w 1 rfl (IX.of (k := 18) (by decide +kernel)) (g := (upd (upd (upd (upd (upd (upd (upd (upd (upd (upd (upd (upd (upd (upd (upd (upd (upd (upd (upd (fun _ => 0) 0 ((x0 >>> (24 &&& 31)) &&& 255)) 1 ((x0 >>> (16 &&& 31)) &&& 255)) 2 ((x0 >>> (8 &&& 31)) &&& 255)) 3 ((x0 >>> (0 &&& 31)) &&& 255)) 4 ((x1 >>> (24 &&& 31)) &&& 255)) 5 ((x1 >>> (16 &&& 31)) &&& 255)) 6 ((x1 >>> (8 &&& 31)) &&& 255)) 7 ((x1 >>> (0 &&& 31)) &&& 255)) 8 ((x2 >>> (24 &&& 31)) &&& 255)) 9 ((x2 >>> (16 &&& 31)) &&& 255)) 10 ((x2 >>> (8 &&& 31)) &&& 255)) 11 ((x2 >>> (0 &&& 31)) &&& 255)) 12 ((x3 >>> (24 &&& 31)) &&& 255)) 13 ((x3 >>> (16 &&& 31)) &&& 255)) 14 ((x3 >>> (8 &&& 31)) &&& 255)) 15 ((x3 >>> (0 &&& 31)) &&& 255)) 16 ((x4 >>> (24 &&& 31)) &&& 255)) 17 ((x4 >>> (16 &&& 31)) &&& 255)) 18 ((x4 >>> (8 &&& 31)) &&& 255))) rfl dX12_feed_103 (ws2 := [(q0, .inr (12, [.int 0, .int 18, .int 0, .int 0, .int 0, .int 0, .int 0, .int (-1), .ref q1, .ref q2, .ref q3, .int 0, .ref q4, .ref q5, .ref q6, .ref q7, .ref q8, .ref q9, .ref q10, .int 0, .ref q11, .ref q12, .ref q13, .ref q14, .ref q15, .ref q16, .ref q17, .int 0, .int (-1), .int 0, .ref q18, .ref q19, .ref q20, .ref q21, .ref q22, .ref q23, .ref q24, .ref q25, .int 0, .ref q26, .ref q27, .ref q28, .ref q29, .ref q30, .int 0, .ref q31, .ref q32, .ref q33, .ref q34, .int 0, .ref q35, .ref q36, .ref q37, .ref q38, .int 0, .int 0, .ref q39, .ref q40, .ref q41, .ref q42])), (q1, .inl (G.2.1, 600, .inl (upd (upd (upd (upd (upd (upd (upd (upd (upd (upd (upd (upd (upd (upd (upd (upd (upd (upd (upd (fun _ => 0) 0 ((x0 >>> (24 &&& 31)) &&& 255)) 1 ((x0 >>> (16 &&& 31)) &&& 255)) 2 ((x0 >>> (8 &&& 31)) &&& 255)) 3 ((x0 >>> (0 &&& 31)) &&& 255)) 4 ((x1 >>> (24 &&& 31)) &&& 255)) 5 ((x1 >>> (16 &&& 31)) &&& 255)) 6 ((x1 >>> (8 &&& 31)) &&& 255)) 7 ((x1 >>> (0 &&& 31)) &&& 255)) 8 ((x2 >>> (24 &&& 31)) &&& 255)) 9 ((x2 >>> (16 &&& 31)) &&& 255)) 10 ((x2 >>> (8 &&& 31)) &&& 255)) 11 ((x2 >>> (0 &&& 31)) &&& 255)) 12 ((x3 >>> (24 &&& 31)) &&& 255)) 13 ((x3 >>> (16 &&& 31)) &&& 255)) 14 ((x3 >>> (8 &&& 31)) &&& 255)) 15 ((x3 >>> (0 &&& 31)) &&& 255)) 16 ((x4 >>> (24 &&& 31)) &&& 255)) 17 ((x4 >>> (16 &&& 31)) &&& 255)) 18 ((x4 >>> (8 &&& 31)) &&& 255))))]) rfl (fun H locs w => ?_)
  refine lv_aload_n hx hb dX12_feed_104 rfl (lv_at hl 2 rfl) ?_
  refine lv_dup hx hb dX12_feed_105 rfl ?_
  refine r_get C w 0 rfl fr_X12_148 rfl dX12_feed_106 ?_
  refine lv_iconst (v := 1) hx hb dX12_feed_109 (by decide) ?_
  refine lv_iadd hx hb dX12_feed_110 ?_
  refine z_i (v := 19) (by decide +kernel) ?_
  refine r_put C w 0 rfl fl_X12_148 (Nat.le_of_ble_eq_true rfl) rfl rfl dX12_feed_111 (ws2 := [(q0, .inr (12, [.int 0, .int 19, .int 0, .int 0, .int 0, .int 0, .int 0, .int (-1), .ref q1, .ref q2, .ref q3, .int 0, .ref q4, .ref q5, .ref q6, .ref q7, .ref q8, .ref q9, .ref q10, .int 0, .ref q11, .ref q12, .ref q13, .ref q14, .ref q15, .ref q16, .ref q17, .int 0, .int (-1), .int 0, .ref q18, .ref q19, .ref q20, .ref q21, .ref q22, .ref q23, .ref q24, .ref q25, .int 0, .ref q26, .ref q27, .ref q28, .ref q29, .ref q30, .int 0, .ref q31, .ref q32, .ref q33, .ref q34, .int 0, .ref q35, .ref q36, .ref q37, .ref q38, .int 0, .int 0, .ref q39, .ref q40, .ref q41, .ref q42])), (q1, .inl (G.2.1, 600, .inl (upd (upd (upd (upd (upd (upd (upd (upd (upd (upd (upd (upd (upd (upd (upd (upd (upd (upd (upd (fun _ => 0) 0 ((x0 >>> (24 &&& 31)) &&& 255)) 1 ((x0 >>> (16 &&& 31)) &&& 255)) 2 ((x0 >>> (8 &&& 31)) &&& 255)) 3 ((x0 >>> (0 &&& 31)) &&& 255)) 4 ((x1 >>> (24 &&& 31)) &&& 255)) 5 ((x1 >>> (16 &&& 31)) &&& 255)) 6 ((x1 >>> (8 &&& 31)) &&& 255)) 7 ((x1 >>> (0 &&& 31)) &&& 255)) 8 ((x2 >>> (24 &&& 31)) &&& 255)) 9 ((x2 >>> (16 &&& 31)) &&& 255)) 10 ((x2 >>> (8 &&& 31)) &&& 255)) 11 ((x2 >>> (0 &&& 31)) &&& 255)) 12 ((x3 >>> (24 &&& 31)) &&& 255)) 13 ((x3 >>> (16 &&& 31)) &&& 255)) 14 ((x3 >>> (8 &&& 31)) &&& 255)) 15 ((x3 >>> (0 &&& 31)) &&& 255)) 16 ((x4 >>> (24 &&& 31)) &&& 255)) 17 ((x4 >>> (16 &&& 31)) &&& 255)) 18 ((x4 >>> (8 &&& 31)) &&& 255))))]) rfl (fun H locs w => ?_)
  refine lv_iinc (v := 19) (lv' := [(6, .int 19), (7, .int x4), (0, .ref q0), (1, .int x0), (2, .int x1), (3, .int x2), (4, .int x3), (5, .int x4)]) hx hb dX12_feed_114 hl (k := 1) rfl (by decide +kernel) (by decide) rfl (fun ls hl => ?_)
  refine lv_goto (tgt := 23) hx hb dX12_feed_117 (by decide) ?_
  refine lv_iload hx hb dX12_feed_23 (lv_at hl 0 rfl) ?_
  refine lv_bipush (v := 20) hx hb dX12_feed_25 (by decide) ?_
  refine lv_icmp_ge (tgt := 120) hx hb dX12_feed_27 (by decide) (fun h => absurd h (by decide)) (fun _ => ?_)
  refine lv_iload hx hb dX12_feed_30 (lv_at hl 0 rfl) ?_
  refine lv_iconst (v := 4) hx hb dX12_feed_32 (by decide) ?_
  refine lv_icmp_ge (tgt := 40) hx hb dX12_feed_33 (by decide) (fun _ => ?_) (fun h => absurd (by decide) h)
  refine lv_iload hx hb dX12_feed_40 (lv_at hl 0 rfl) ?_
  refine lv_bipush (v := 8) hx hb dX12_feed_42 (by decide) ?_
  refine lv_icmp_ge (tgt := 51) hx hb dX12_feed_44 (by decide) (fun _ => ?_) (fun h => absurd (by decide) h)
  refine lv_iload hx hb dX12_feed_51 (lv_at hl 0 rfl) ?_
  refine lv_bipush (v := 12) hx hb dX12_feed_53 (by decide) ?_
  refine lv_icmp_ge (tgt := 62) hx hb dX12_feed_55 (by decide) (fun _ => ?_) (fun h => absurd (by decide) h)
  refine lv_iload hx hb dX12_feed_62 (lv_at hl 0 rfl) ?_
  refine lv_bipush (v := 16) hx hb dX12_feed_64 (by decide) ?_
  refine lv_icmp_ge (tgt := 74) hx hb dX12_feed_66 (by decide) (fun _ => ?_) (fun h => absurd (by decide) h)
  refine lv_iload hx hb dX12_feed_74 (lv_at hl 7 rfl) ?_
  refine lv_istore (lv' := [(7, .int x4), (6, .int 19), (0, .ref q0), (1, .int x0), (2, .int x1), (3, .int x2), (4, .int x3), (5, .int x4)]) hx hb dX12_feed_76 hl (by decide) rfl (fun ls hl => ?_)
  refine lv_aload_n hx hb dX12_feed_78 rfl (lv_at hl 2 rfl) ?_
  refine r_get C w 0 rfl fr_X12_16 rfl dX12_feed_79 ?_
  refine lv_aload_n hx hb dX12_feed_82 rfl (lv_at hl 2 rfl) ?_
  refine r_get C w 0 rfl fr_X12_148 rfl dX12_feed_83 ?_
  refine lv_iload hx hb dX12_feed_86 (lv_at hl 0 rfl) ?_
  refine lv_bipush (v := 24) hx hb dX12_feed_88 (by decide) ?_
  refine lv_bipush (v := 8) hx hb dX12_feed_90 (by decide) ?_
  refine lv_iload hx hb dX12_feed_92 (lv_at hl 1 rfl) ?_
  refine lv_iconst (v := 4) hx hb dX12_feed_94 (by decide) ?_
  refine lv_irem hx hb dX12_feed_95 (by decide) ?_
  refine z_i (v := 3) (by decide +kernel) ?_
  refine lv_imul hx hb dX12_feed_96 ?_
  refine z_i (v := 24) (by decide +kernel) ?_
  refine lv_isub hx hb dX12_feed_97 ?_
  refine z_i (v := 0) (by decide +kernel) ?_
  refine lv_ishr hx hb dX12_feed_98 ?_
  refine lv_sipush (v := 255) hx hb dX12_feed_99 (by decide) ?_
  refine lv_iand hx hb dX12_feed_102 ?_
  refine r_iast C w 1 rfl (IX.of (k := 19) (by decide +kernel)) (g := (upd (upd (upd (upd (upd (upd (upd (upd (upd (upd (upd (upd (upd (upd (upd (upd (upd (upd (upd (upd (fun _ => 0) 0 ((x0 >>> (24 &&& 31)) &&& 255)) 1 ((x0 >>> (16 &&& 31)) &&& 255)) 2 ((x0 >>> (8 &&& 31)) &&& 255)) 3 ((x0 >>> (0 &&& 31)) &&& 255)) 4 ((x1 >>> (24 &&& 31)) &&& 255)) 5 ((x1 >>> (16 &&& 31)) &&& 255)) 6 ((x1 >>> (8 &&& 31)) &&& 255)) 7 ((x1 >>> (0 &&& 31)) &&& 255)) 8 ((x2 >>> (24 &&& 31)) &&& 255)) 9 ((x2 >>> (16 &&& 31)) &&& 255)) 10 ((x2 >>> (8 &&& 31)) &&& 255)) 11 ((x2 >>> (0 &&& 31)) &&& 255)) 12 ((x3 >>> (24 &&& 31)) &&& 255)) 13 ((x3 >>> (16 &&& 31)) &&& 255)) 14 ((x3 >>> (8 &&& 31)) &&& 255)) 15 ((x3 >>> (0 &&& 31)) &&& 255)) 16 ((x4 >>> (24 &&& 31)) &&& 255)) 17 ((x4 >>> (16 &&& 31)) &&& 255)) 18 ((x4 >>> (8 &&& 31)) &&& 255)) 19 ((x4 >>> (0 &&& 31)) &&& 255))) rfl dX12_feed_103 (ws2 := [(q0, .inr (12, [.int 0, .int 19, .int 0, .int 0, .int 0, .int 0, .int 0, .int (-1), .ref q1, .ref q2, .ref q3, .int 0, .ref q4, .ref q5, .ref q6, .ref q7, .ref q8, .ref q9, .ref q10, .int 0, .ref q11, .ref q12, .ref q13, .ref q14, .ref q15, .ref q16, .ref q17, .int 0, .int (-1), .int 0, .ref q18, .ref q19, .ref q20, .ref q21, .ref q22, .ref q23, .ref q24, .ref q25, .int 0, .ref q26, .ref q27, .ref q28, .ref q29, .ref q30, .int 0, .ref q31, .ref q32, .ref q33, .ref q34, .int 0, .ref q35, .ref q36, .ref q37, .ref q38, .int 0, .int 0, .ref q39, .ref q40, .ref q41, .ref q42])), (q1, .inl (G.2.1, 600, .inl (upd (upd (upd (upd (upd (upd (upd (upd (upd (upd (upd (upd (upd (upd (upd (upd (upd (upd (upd (upd (fun _ => 0) 0 ((x0 >>> (24 &&& 31)) &&& 255)) 1 ((x0 >>> (16 &&& 31)) &&& 255)) 2 ((x0 >>> (8 &&& 31)) &&& 255)) 3 ((x0 >>> (0 &&& 31)) &&& 255)) 4 ((x1 >>> (24 &&& 31)) &&& 255)) 5 ((x1 >>> (16 &&& 31)) &&& 255)) 6 ((x1 >>> (8 &&& 31)) &&& 255)) 7 ((x1 >>> (0 &&& 31)) &&& 255)) 8 ((x2 >>> (24 &&& 31)) &&& 255)) 9 ((x2 >>> (16 &&& 31)) &&& 255)) 10 ((x2 >>> (8 &&& 31)) &&& 255)) 11 ((x2 >>> (0 &&& 31)) &&& 255)) 12 ((x3 >>> (24 &&& 31)) &&& 255)) 13 ((x3 >>> (16 &&& 31)) &&& 255)) 14 ((x3 >>> (8 &&& 31)) &&& 255)) 15 ((x3 >>> (0 &&& 31)) &&& 255)) 16 ((x4 >>> (24 &&& 31)) &&& 255)) 17 ((x4 >>> (16 &&& 31)) &&& 255)) 18 ((x4 >>> (8 &&& 31)) &&& 255)) 19 ((x4 >>> (0 &&& 31)) &&& 255))))]) rfl (fun H locs w => ?_)
  refine lv_aload_n hx hb dX12_feed_104 rfl (lv_at hl 2 rfl) ?_
  refine lv_dup hx hb dX12_feed_105 rfl ?_
  refine r_get C w 0 rfl fr_X12_148 rfl dX12_feed_106 ?_
  refine lv_iconst (v := 1) hx hb dX12_feed_109 (by decide) ?_
  refine lv_iadd hx hb dX12_feed_110 ?_
  refine z_i (v := 20) (by decide +kernel) ?_
  refine r_put C w 0 rfl fl_X12_148 (Nat.le_of_ble_eq_true rfl) rfl rfl dX12_feed_111 (ws2 := [(q0, .inr (12, [.int 0, .int 20, .int 0, .int 0, .int 0, .int 0, .int 0, .int (-1), .ref q1, .ref q2, .ref q3, .int 0, .ref q4, .ref q5, .ref q6, .ref q7, .ref q8, .ref q9, .ref q10, .int 0, .ref q11, .ref q12, .ref q13, .ref q14, .ref q15, .ref q16, .ref q17, .int 0, .int (-1), .int 0, .ref q18, .ref q19, .ref q20, .ref q21, .ref q22, .ref q23, .ref q24, .ref q25, .int 0, .ref q26, .ref q27, .ref q28, .ref q29, .ref q30, .int 0, .ref q31, .ref q32, .ref q33, .ref q34, .int 0, .ref q35, .ref q36, .ref q37, .ref q38, .int 0, .int 0, .ref q39, .ref q40, .ref q41, .ref q42])), (q1, .inl (G.2.1, 600, .inl (upd (upd (upd (upd (upd (upd (upd (upd (upd (upd (upd (upd (upd (upd (upd (upd (upd (upd (upd (upd (fun _ => 0) 0 ((x0 >>> (24 &&& 31)) &&& 255)) 1 ((x0 >>> (16 &&& 31)) &&& 255)) 2 ((x0 >>> (8 &&& 31)) &&& 255)) 3 ((x0 >>> (0 &&& 31)) &&& 255)) 4 ((x1 >>> (24 &&& 31)) &&& 255)) 5 ((x1 >>> (16 &&& 31)) &&& 255)) 6 ((x1 >>> (8 &&& 31)) &&& 255)) 7 ((x1 >>> (0 &&& 31)) &&& 255)) 8 ((x2 >>> (24 &&& 31)) &&& 255)) 9 ((x2 >>> (16 &&& 31)) &&& 255)) 10 ((x2 >>> (8 &&& 31)) &&& 255)) 11 ((x2 >>> (0 &&& 31)) &&& 255)) 12 ((x3 >>> (24 &&& 31)) &&& 255)) 13 ((x3 >>> (16 &&& 31)) &&& 255)) 14 ((x3 >>> (8 &&& 31)) &&& 255)) 15 ((x3 >>> (0 &&& 31)) &&& 255)) 16 ((x4 >>> (24 &&& 31)) &&& 255)) 17 ((x4 >>> (16 &&& 31)) &&& 255)) 18 ((x4 >>> (8 &&& 31)) &&& 255)) 19 ((x4 >>> (0 &&& 31)) &&& 255))))]) rfl (fun H locs w => ?_)
  refine lv_iinc (v := 20) (lv' := [(6, .int 20), (7, .int x4), (0, .ref q0), (1, .int x0), (2, .int x1), (3, .int x2), (4, .int x3), (5, .int x4)]) hx hb dX12_feed_114 hl (k := 1) rfl (by decide +kernel) (by decide) rfl (fun ls hl => ?_)
  refine lv_goto (tgt := 23) hx hb dX12_feed_117 (by decide) ?_
  refine lv_iload hx hb dX12_feed_23 (lv_at hl 0 rfl) ?_
  refine lv_bipush (v := 20) hx hb dX12_feed_25 (by decide) ?_
  refine lv_icmp_ge (tgt := 120) hx hb dX12_feed_27 (by decide) (fun _ => ?_) (fun h => absurd (by decide) h)
  refine lv_aload_n hx hb dX12_feed_120 rfl (lv_at hl 2 rfl) ?_
  refine r_get C w 0 rfl fr_X12_148 rfl dX12_feed_121 ?_
  exact e_i C hr w (fun _ => 0) [0, 1] rfl rfl rfl dX12_feed_124 (by decide) (by decide)
set_option maxRecDepth 100000 in
set_option maxHeartbeats 4000000 in
theorem k15_needWithin {l : Launch} {s0 : State} {a0 : Array Value} {G : GT} (b0 : B0 l s0 a0 G) (x0 : Int32) (h0 : x0 < 0) (sz : Nat) : Kx l s0 G yX11_needWithin cX11_needWithin 3 none { frames := 6, cells := 1, slots := 6, locals := 90 } [.int x0, .int 0, .int 0] [] sz "java/lang/IllegalArgumentException" := by
  refine Kx.of b0 (own := RX11) (nm := "needWithin") [(0, .int x0), (1, .int 0), (2, .int 0)] rfl rfl (by decide +kernel) (Nat.le_of_ble_eq_true rfl) rfl ?_
  intro p e s m below meth c A C ht H locs w ls hl
  have hx := C.hx
  have hb := C.hb
  refine lv_iload_n hx hb dX11_needWithin_0 rfl (lv_at hl 0 rfl) ?_
  refine lv_iload_n hx hb dX11_needWithin_1 rfl (lv_at hl 1 rfl) ?_
  refine lv_icmp_lt (tgt := 10) hx hb dX11_needWithin_2 (by decide) (fun _ => ?_) (fun h => absurd h0 h)
  exact r_throwS C ht w hl.1 th_X11_247 C.b0.2.2.2.2.2.1 dX11_needWithin_10 dX11_needWithin_13 dX11_needWithin_14 dX11_needWithin_16 dX11_needWithin_19 (by decide) (Nat.le_of_ble_eq_true rfl) (by decide) (by decide) (by decide) (by decide) [] rfl rfl
set_option maxRecDepth 100000 in
set_option maxHeartbeats 4000000 in
theorem k16_net {l : Launch} {s0 : State} {a0 : Array Value} {G : GT} (b0 : B0 l s0 a0 G) (q0 q1 q2 q3 q4 q5 q6 q7 q8 q9 q10 : Nat) (x0 : Int32) (h0 : x0 < 0) (sz : Nat) : Kx l s0 G yX11_net cX11_net 4 (some .int) { frames := 7, cells := 1, slots := 6, locals := 112 } [.ref q0, .int x0] [(q0, .inr (11, [.ref q1, .ref q2, .ref q3, .ref q4, .ref q5, .ref q6, .ref q7, .ref q8, .ref q9, .ref q10, .int 0, .int (-1), .int 0, .int 0, .null, .null, .null, .null, .null]))] sz "java/lang/IllegalArgumentException" := by
  refine Kx.of b0 (own := RX11) (nm := "net") [(0, .ref q0), (1, .int x0)] rfl rfl (by decide +kernel) (Nat.le_of_ble_eq_true rfl) rfl ?_
  intro p e s m below meth c A C ht H locs w ls hl
  have hx := C.hx
  have hb := C.hb
  refine lv_iload_n hx hb dX11_net_0 rfl (lv_at hl 1 rfl) ?_
  refine lv_iconst (v := 0) hx hb dX11_net_1 (by decide) ?_
  refine lv_aload_n hx hb dX11_net_2 rfl (lv_at hl 0 rfl) ?_
  refine r_get C w 0 rfl fr_X11_65 rfl dX11_net_3 ?_
  refine fin_x C w (run_Sx C w ms_X11_72 (k15_needWithin C.b0 x0 h0 H.size) [] rfl rfl (by decide) rfl hl.1 rfl (Nat.le_of_ble_eq_true rfl) dX11_net_6 (cells2 := 1) (slots2 := 6) (by decide)) [] [0] rfl rfl (by decide) (cells2 := 1) (slots2 := 6) (by decide) (fun qx2 ce H locs w hce hcv hcl => ?_)
  have w : Wd s G A [(q0, .inr (11, [.ref q1, .ref q2, .ref q3, .ref q4, .ref q5, .ref q6, .ref q7, .ref q8, .ref q9, .ref q10, .int 0, .int (-1), .int 0, .int 0, .null, .null, .null, .null, .null]))] H locs := w
  exact r_out C ht w [0] rfl rfl hce hcv hcl (by decide) (by decide)
set_option maxRecDepth 100000 in
set_option maxHeartbeats 4000000 in
theorem k17_net {l : Launch} {s0 : State} {a0 : Array Value} {G : GT} (b0 : B0 l s0 a0 G) (q0 q1 q2 q3 q4 q5 q6 q7 q8 q9 q10 q11 : Nat) (x0 : Int32) (h0 : x0 < 0) (sz : Nat) : Kh l s0 G yL_net cL_net 4 (some .int) [(0, 9, 12, 13)] { frames := 8, cells := 1, slots := 6, locals := 135 } [.ref q0, .int x0, .ref q1] [(q0, .inr (11, [.ref q2, .ref q3, .ref q4, .ref q5, .ref q6, .ref q7, .ref q8, .ref q9, .ref q10, .ref q11, .int 0, .int (-1), .int 0, .int 0, .null, .null, .null, .null, .null]))] sz 1 (fun u => [(q0, .inr (11, [.ref q2, .ref q3, .ref q4, .ref q5, .ref q6, .ref q7, .ref q8, .ref q9, .ref q10, .ref q11, .int 0, .int (-1), .int 0, .int 0, .null, .null, .null, .null, .null]))]) := by
  refine Kh.of b0 (own := RL) (nm := "net") [(0, .ref q0), (1, .int x0), (2, .ref q1)] rfl rfl (by decide +kernel) (Nat.le_of_ble_eq_true rfl) rfl ?_
  intro p e s m below meth c A C hr ht H locs w ls hl
  have hx := C.hx
  have hb := C.hb
  refine lv_aload_n hx hb dL_net_0 rfl (lv_at hl 2 rfl) ?_
  refine lv_iconst (v := 0) hx hb dL_net_1 (by decide) ?_
  refine lv_aload_n hx hb dL_net_2 rfl (lv_at hl 0 rfl) ?_
  refine lv_iload_n hx hb dL_net_3 rfl (lv_at hl 1 rfl) ?_
  refine fin_x C w (run_Vx C w mv_L_7 (k16_net C.b0 q0 q2 q3 q4 q5 q6 q7 q8 q9 q10 q11 x0 h0 H.size) [0] rfl rfl 0 rfl rfl (by decide) rfl hl.1 rfl (Nat.le_of_ble_eq_true rfl) dL_net_4 (cells2 := 1) (slots2 := 6) (by decide)) [0] [] rfl rfl (by decide) (cells2 := 1) (slots2 := 6) (by decide) (fun qx2 ce H locs w hce hcv hcl => ?_)
  have w : Wd s G A [(q0, .inr (11, [.ref q2, .ref q3, .ref q4, .ref q5, .ref q6, .ref q7, .ref q8, .ref q9, .ref q10, .ref q11, .int 0, .int (-1), .int 0, .int 0, .null, .null, .null, .null, .null]))] H locs := w
  refine r_catch C ht (by decide) (by decide) tl_L_13 tk_java_lang_IllegalArgumentException hce hcv hcl ?_
  refine lv_astore_n (lv' := [(3, .ref qx2), (0, .ref q0), (1, .int x0), (2, .ref q1)]) hx hb dL_net_12 rfl hl (by decide) rfl (fun ls hl => ?_)
  refine lv_iconst (v := 1) hx hb dL_net_13 (by decide) ?_
  exact e_i C hr w (fun _ => 0) [0] rfl rfl rfl dL_net_14 (by decide) (by decide)
set_option maxRecDepth 100000 in
set_option maxHeartbeats 4000000 in
theorem k18_may {l : Launch} {s0 : State} {a0 : Array Value} {G : GT} (b0 : B0 l s0 a0 G) (q0 q1 q2 q3 q4 q5 q6 q7 q8 q9 q10 q11 q12 q13 q14 q15 q16 q17 q18 q19 q20 q21 q22 q23 q24 q25 q26 q27 q28 q29 q30 q31 q32 q33 q34 q35 q36 q37 q38 q39 q40 q41 q42 : Nat) (sz : Nat) : Ki l s0 G yX12_may cX12_may 3 (some .boolean) { frames := 0, cells := 0, slots := 0, locals := 0 } [.ref q0, .int 0, .int 1] [(q0, .inr (12, [.int 0, .int 0, .int 0, .int 0, .int 0, .int 0, .int 0, .int (-1), .ref q1, .ref q2, .ref q3, .int 0, .ref q4, .ref q5, .ref q6, .ref q7, .ref q8, .ref q9, .ref q10, .int 0, .ref q11, .ref q12, .ref q13, .ref q14, .ref q15, .ref q16, .ref q17, .int 0, .int (-1), .int 0, .ref q18, .ref q19, .ref q20, .ref q21, .ref q22, .ref q23, .ref q24, .ref q25, .int 0, .ref q26, .ref q27, .ref q28, .ref q29, .ref q30, .int 0, .ref q31, .ref q32, .ref q33, .ref q34, .int 0, .ref q35, .ref q36, .ref q37, .ref q38, .int 0, .int 0, .ref q39, .ref q40, .ref q41, .ref q42]))] sz 0 (fun u => [(q0, .inr (12, [.int 1, .int 0, .int 0, .int 0, .int 0, .int 0, .int 0, .int (-1), .ref q1, .ref q2, .ref q3, .int 0, .ref q4, .ref q5, .ref q6, .ref q7, .ref q8, .ref q9, .ref q10, .int 0, .ref q11, .ref q12, .ref q13, .ref q14, .ref q15, .ref q16, .ref q17, .int 0, .int (-1), .int 0, .ref q18, .ref q19, .ref q20, .ref q21, .ref q22, .ref q23, .ref q24, .ref q25, .int 0, .ref q26, .ref q27, .ref q28, .ref q29, .ref q30, .int 0, .ref q31, .ref q32, .ref q33, .ref q34, .int 0, .ref q35, .ref q36, .ref q37, .ref q38, .int 0, .int 0, .ref q39, .ref q40, .ref q41, .ref q42]))]) := by
  refine Ki.of b0 (own := RX12) (nm := "may") [(0, .ref q0), (1, .int 0), (2, .int 1)] rfl rfl (by decide +kernel) (Nat.le_of_ble_eq_true rfl) rfl ?_
  intro p e s m below meth c A C hr H locs w ls hl
  have hx := C.hx
  have hb := C.hb
  refine lv_iload_n hx hb dX12_may_0 rfl (lv_at hl 1 rfl) ?_
  refine lv_if_ne (tgt := 16) hx hb dX12_may_1 (by decide) (fun h => absurd (by decide) h) (fun _ => ?_)
  refine lv_aload_n hx hb dX12_may_4 rfl (lv_at hl 0 rfl) ?_
  refine r_get C w 0 rfl fr_X12_1 rfl dX12_may_5 ?_
  refine lv_if_ne (tgt := 16) hx hb dX12_may_8 (by decide) (fun h => absurd (by decide) h) (fun _ => ?_)
  refine lv_aload_n hx hb dX12_may_11 rfl (lv_at hl 0 rfl) ?_
  refine lv_iload_n hx hb dX12_may_12 rfl (lv_at hl 2 rfl) ?_
  refine r_put C w 0 rfl fl_X12_1 (Nat.le_of_ble_eq_true rfl) rfl rfl dX12_may_13 (ws2 := [(q0, .inr (12, [.int 1, .int 0, .int 0, .int 0, .int 0, .int 0, .int 0, .int (-1), .ref q1, .ref q2, .ref q3, .int 0, .ref q4, .ref q5, .ref q6, .ref q7, .ref q8, .ref q9, .ref q10, .int 0, .ref q11, .ref q12, .ref q13, .ref q14, .ref q15, .ref q16, .ref q17, .int 0, .int (-1), .int 0, .ref q18, .ref q19, .ref q20, .ref q21, .ref q22, .ref q23, .ref q24, .ref q25, .int 0, .ref q26, .ref q27, .ref q28, .ref q29, .ref q30, .int 0, .ref q31, .ref q32, .ref q33, .ref q34, .int 0, .ref q35, .ref q36, .ref q37, .ref q38, .int 0, .int 0, .ref q39, .ref q40, .ref q41, .ref q42]))]) rfl (fun H locs w => ?_)
  refine lv_aload_n hx hb dX12_may_16 rfl (lv_at hl 0 rfl) ?_
  refine r_get C w 0 rfl fr_X12_1 rfl dX12_may_17 ?_
  refine lv_if_ne (tgt := 27) hx hb dX12_may_20 (by decide) (fun _ => ?_) (fun h => h.elim (by decide))
  refine lv_iconst (v := 0) hx hb dX12_may_27 (by decide) ?_
  exact e_i C hr w (fun _ => 0) [0] rfl rfl (by decide) dX12_may_28 (by decide) (by decide)
set_option maxRecDepth 100000 in
set_option maxHeartbeats 4000000 in
theorem k19_net {l : Launch} {s0 : State} {a0 : Array Value} {G : GT} (b0 : B0 l s0 a0 G) (q0 q1 q2 q3 q4 q5 q6 q7 q8 q9 q10 q11 q12 q13 q14 q15 q16 q17 q18 q19 q20 q21 q22 q23 q24 q25 q26 q27 q28 q29 q30 q31 q32 q33 q34 q35 q36 q37 q38 q39 q40 q41 q42 : Nat) (x0 : Int32) (h0 : x0 < 0) (sz : Nat) : Ki l s0 G yX12_net cX12_net 4 (some .int) { frames := 1, cells := 0, slots := 0, locals := 22 } [.ref q0, .int x0] [(q0, .inr (12, [.int 0, .int 0, .int 0, .int 0, .int 0, .int 0, .int 0, .int (-1), .ref q1, .ref q2, .ref q3, .int 0, .ref q4, .ref q5, .ref q6, .ref q7, .ref q8, .ref q9, .ref q10, .int 0, .ref q11, .ref q12, .ref q13, .ref q14, .ref q15, .ref q16, .ref q17, .int 0, .int (-1), .int 0, .ref q18, .ref q19, .ref q20, .ref q21, .ref q22, .ref q23, .ref q24, .ref q25, .int 0, .ref q26, .ref q27, .ref q28, .ref q29, .ref q30, .int 0, .ref q31, .ref q32, .ref q33, .ref q34, .int 0, .ref q35, .ref q36, .ref q37, .ref q38, .int 0, .int 0, .ref q39, .ref q40, .ref q41, .ref q42]))] sz 0 (fun u => [(q0, .inr (12, [.int 1, .int 0, .int 0, .int 0, .int 0, .int 0, .int 0, .int (-1), .ref q1, .ref q2, .ref q3, .int 0, .ref q4, .ref q5, .ref q6, .ref q7, .ref q8, .ref q9, .ref q10, .int 0, .ref q11, .ref q12, .ref q13, .ref q14, .ref q15, .ref q16, .ref q17, .int 0, .int (-1), .int 0, .ref q18, .ref q19, .ref q20, .ref q21, .ref q22, .ref q23, .ref q24, .ref q25, .int 0, .ref q26, .ref q27, .ref q28, .ref q29, .ref q30, .int 0, .ref q31, .ref q32, .ref q33, .ref q34, .int 0, .ref q35, .ref q36, .ref q37, .ref q38, .int 0, .int 0, .ref q39, .ref q40, .ref q41, .ref q42]))]) := by
  refine Ki.of b0 (own := RX12) (nm := "net") [(0, .ref q0), (1, .int x0)] rfl rfl (by decide +kernel) (Nat.le_of_ble_eq_true rfl) rfl ?_
  intro p e s m below meth c A C hr H locs w ls hl
  have hx := C.hx
  have hb := C.hb
  refine lv_aload_n hx hb dX12_net_0 rfl (lv_at hl 0 rfl) ?_
  refine lv_iconst (v := 0) hx hb dX12_net_1 (by decide) ?_
  refine r_put C w 0 rfl fl_X12_1 (Nat.le_of_ble_eq_true rfl) rfl rfl dX12_net_2 (ws2 := [(q0, .inr (12, [.int 0, .int 0, .int 0, .int 0, .int 0, .int 0, .int 0, .int (-1), .ref q1, .ref q2, .ref q3, .int 0, .ref q4, .ref q5, .ref q6, .ref q7, .ref q8, .ref q9, .ref q10, .int 0, .ref q11, .ref q12, .ref q13, .ref q14, .ref q15, .ref q16, .ref q17, .int 0, .int (-1), .int 0, .ref q18, .ref q19, .ref q20, .ref q21, .ref q22, .ref q23, .ref q24, .ref q25, .int 0, .ref q26, .ref q27, .ref q28, .ref q29, .ref q30, .int 0, .ref q31, .ref q32, .ref q33, .ref q34, .int 0, .ref q35, .ref q36, .ref q37, .ref q38, .int 0, .int 0, .ref q39, .ref q40, .ref q41, .ref q42]))]) rfl (fun H locs w => ?_)
  refine lv_aload_n hx hb dX12_net_5 rfl (lv_at hl 0 rfl) ?_
  refine lv_iload_n hx hb dX12_net_6 rfl (lv_at hl 1 rfl) ?_
  refine lv_if_lt (tgt := 22) hx hb dX12_net_7 (by decide) (fun _ => ?_) (fun h => absurd h0 h)
  refine lv_iconst (v := 0) hx hb dX12_net_22 (by decide) ?_
  refine lv_iconst (v := 1) hx hb dX12_net_23 (by decide) ?_
  refine fin_i C w (run_V C w mv_X12_267 (k18_may C.b0 q0 q1 q2 q3 q4 q5 q6 q7 q8 q9 q10 q11 q12 q13 q14 q15 q16 q17 q18 q19 q20 q21 q22 q23 q24 q25 q26 q27 q28 q29 q30 q31 q32 q33 q34 q35 q36 q37 q38 q39 q40 q41 q42 H.size) [0] rfl rfl 0 rfl rfl (by decide) rfl hl.1 rfl (Nat.le_of_ble_eq_true rfl) dX12_net_24 (cells2 := 0) (slots2 := 0) (by decide)) [0] [] rfl rfl (by decide) (cells2 := 0) (slots2 := 0) (by decide) (fun u1 H locs w => ?_)
  have w : Wd s G A [(q0, .inr (12, [.int 1, .int 0, .int 0, .int 0, .int 0, .int 0, .int 0, .int (-1), .ref q1, .ref q2, .ref q3, .int 0, .ref q4, .ref q5, .ref q6, .ref q7, .ref q8, .ref q9, .ref q10, .int 0, .ref q11, .ref q12, .ref q13, .ref q14, .ref q15, .ref q16, .ref q17, .int 0, .int (-1), .int 0, .ref q18, .ref q19, .ref q20, .ref q21, .ref q22, .ref q23, .ref q24, .ref q25, .int 0, .ref q26, .ref q27, .ref q28, .ref q29, .ref q30, .int 0, .ref q31, .ref q32, .ref q33, .ref q34, .int 0, .ref q35, .ref q36, .ref q37, .ref q38, .int 0, .int 0, .ref q39, .ref q40, .ref q41, .ref q42]))] H locs := w
  refine lv_if_ne (tgt := 32) hx hb dX12_net_27 (by decide) (fun h => absurd (by decide) h) (fun _ => ?_)
  refine lv_iconst (v := 0) hx hb dX12_net_30 (by decide) ?_
  exact e_i C hr w (fun _ => 0) [0] rfl rfl rfl dX12_net_31 (by decide) (by decide)
set_option maxRecDepth 100000 in
set_option maxHeartbeats 4000000 in
theorem k20_thrown {l : Launch} {s0 : State} {a0 : Array Value} {G : GT} (b0 : B0 l s0 a0 G) (q0 q1 q2 q3 q4 q5 q6 q7 q8 q9 q10 q11 q12 q13 q14 q15 q16 q17 q18 q19 q20 q21 q22 q23 q24 q25 q26 q27 q28 q29 q30 q31 q32 q33 q34 q35 q36 q37 q38 q39 q40 q41 q42 : Nat) (sz : Nat) : Ki l s0 G yX12_thrown cX12_thrown 1 (some .int) { frames := 0, cells := 0, slots := 0, locals := 0 } [.ref q0] [(q0, .inr (12, [.int 1, .int 0, .int 0, .int 0, .int 0, .int 0, .int 0, .int (-1), .ref q1, .ref q2, .ref q3, .int 0, .ref q4, .ref q5, .ref q6, .ref q7, .ref q8, .ref q9, .ref q10, .int 0, .ref q11, .ref q12, .ref q13, .ref q14, .ref q15, .ref q16, .ref q17, .int 0, .int (-1), .int 0, .ref q18, .ref q19, .ref q20, .ref q21, .ref q22, .ref q23, .ref q24, .ref q25, .int 0, .ref q26, .ref q27, .ref q28, .ref q29, .ref q30, .int 0, .ref q31, .ref q32, .ref q33, .ref q34, .int 0, .ref q35, .ref q36, .ref q37, .ref q38, .int 0, .int 0, .ref q39, .ref q40, .ref q41, .ref q42]))] sz 1 (fun u => [(q0, .inr (12, [.int 1, .int 0, .int 0, .int 0, .int 0, .int 0, .int 0, .int (-1), .ref q1, .ref q2, .ref q3, .int 0, .ref q4, .ref q5, .ref q6, .ref q7, .ref q8, .ref q9, .ref q10, .int 0, .ref q11, .ref q12, .ref q13, .ref q14, .ref q15, .ref q16, .ref q17, .int 0, .int (-1), .int 0, .ref q18, .ref q19, .ref q20, .ref q21, .ref q22, .ref q23, .ref q24, .ref q25, .int 0, .ref q26, .ref q27, .ref q28, .ref q29, .ref q30, .int 0, .ref q31, .ref q32, .ref q33, .ref q34, .int 0, .ref q35, .ref q36, .ref q37, .ref q38, .int 0, .int 0, .ref q39, .ref q40, .ref q41, .ref q42]))]) := by
  refine Ki.of b0 (own := RX12) (nm := "thrown") [(0, .ref q0)] rfl rfl (by decide +kernel) (Nat.le_of_ble_eq_true rfl) rfl ?_
  intro p e s m below meth c A C hr H locs w ls hl
  have hx := C.hx
  have hb := C.hb
  refine lv_aload_n hx hb dX12_thrown_0 rfl (lv_at hl 0 rfl) ?_
  refine r_get C w 0 rfl fr_X12_1 rfl dX12_thrown_1 ?_
  exact e_i C hr w (fun _ => 0) [0] rfl rfl rfl dX12_thrown_4 (by decide) (by decide)
set_option maxRecDepth 100000 in
set_option maxHeartbeats 4000000 in
theorem k21_needWithin {l : Launch} {s0 : State} {a0 : Array Value} {G : GT} (b0 : B0 l s0 a0 G) (x0 : Int32) (h0 : 0 < x0) (h1 : ¬ x0 < 0) (sz : Nat) : Kx l s0 G yX11_needWithin cX11_needWithin 3 none { frames := 6, cells := 1, slots := 6, locals := 90 } [.int x0, .int 0, .int 0] [] sz "java/lang/IllegalArgumentException" := by
  refine Kx.of b0 (own := RX11) (nm := "needWithin") [(0, .int x0), (1, .int 0), (2, .int 0)] rfl rfl (by decide +kernel) (Nat.le_of_ble_eq_true rfl) rfl ?_
  intro p e s m below meth c A C ht H locs w ls hl
  have hx := C.hx
  have hb := C.hb
  refine lv_iload_n hx hb dX11_needWithin_0 rfl (lv_at hl 0 rfl) ?_
  refine lv_iload_n hx hb dX11_needWithin_1 rfl (lv_at hl 1 rfl) ?_
  refine lv_icmp_lt (tgt := 10) hx hb dX11_needWithin_2 (by decide) (fun h => absurd h h1) (fun _ => ?_)
  refine lv_iload_n hx hb dX11_needWithin_5 rfl (lv_at hl 0 rfl) ?_
  refine lv_iload_n hx hb dX11_needWithin_6 rfl (lv_at hl 2 rfl) ?_
  refine lv_icmp_le (tgt := 20) hx hb dX11_needWithin_7 (by decide) (fun h => absurd h (Int32.not_le.mpr h0)) (fun _ => ?_)
  exact r_throwS C ht w hl.1 th_X11_247 C.b0.2.2.2.2.2.1 dX11_needWithin_10 dX11_needWithin_13 dX11_needWithin_14 dX11_needWithin_16 dX11_needWithin_19 (by decide) (Nat.le_of_ble_eq_true rfl) (by decide) (by decide) (by decide) (by decide) [] rfl rfl
set_option maxRecDepth 100000 in
set_option maxHeartbeats 4000000 in
theorem k22_net {l : Launch} {s0 : State} {a0 : Array Value} {G : GT} (b0 : B0 l s0 a0 G) (q0 q1 q2 q3 q4 q5 q6 q7 q8 q9 q10 : Nat) (x0 : Int32) (h0 : 0 < x0) (h1 : ¬ x0 < 0) (sz : Nat) : Kx l s0 G yX11_net cX11_net 4 (some .int) { frames := 7, cells := 1, slots := 6, locals := 112 } [.ref q0, .int x0] [(q0, .inr (11, [.ref q1, .ref q2, .ref q3, .ref q4, .ref q5, .ref q6, .ref q7, .ref q8, .ref q9, .ref q10, .int 0, .int (-1), .int 0, .int 0, .null, .null, .null, .null, .null]))] sz "java/lang/IllegalArgumentException" := by
  refine Kx.of b0 (own := RX11) (nm := "net") [(0, .ref q0), (1, .int x0)] rfl rfl (by decide +kernel) (Nat.le_of_ble_eq_true rfl) rfl ?_
  intro p e s m below meth c A C ht H locs w ls hl
  have hx := C.hx
  have hb := C.hb
  refine lv_iload_n hx hb dX11_net_0 rfl (lv_at hl 1 rfl) ?_
  refine lv_iconst (v := 0) hx hb dX11_net_1 (by decide) ?_
  refine lv_aload_n hx hb dX11_net_2 rfl (lv_at hl 0 rfl) ?_
  refine r_get C w 0 rfl fr_X11_65 rfl dX11_net_3 ?_
  refine fin_x C w (run_Sx C w ms_X11_72 (k21_needWithin C.b0 x0 h0 h1 H.size) [] rfl rfl (by decide) rfl hl.1 rfl (Nat.le_of_ble_eq_true rfl) dX11_net_6 (cells2 := 1) (slots2 := 6) (by decide)) [] [0] rfl rfl (by decide) (cells2 := 1) (slots2 := 6) (by decide) (fun qx2 ce H locs w hce hcv hcl => ?_)
  have w : Wd s G A [(q0, .inr (11, [.ref q1, .ref q2, .ref q3, .ref q4, .ref q5, .ref q6, .ref q7, .ref q8, .ref q9, .ref q10, .int 0, .int (-1), .int 0, .int 0, .null, .null, .null, .null, .null]))] H locs := w
  exact r_out C ht w [0] rfl rfl hce hcv hcl (by decide) (by decide)
set_option maxRecDepth 100000 in
set_option maxHeartbeats 4000000 in
theorem k23_net {l : Launch} {s0 : State} {a0 : Array Value} {G : GT} (b0 : B0 l s0 a0 G) (q0 q1 q2 q3 q4 q5 q6 q7 q8 q9 q10 q11 : Nat) (x0 : Int32) (h0 : 0 < x0) (h1 : ¬ x0 < 0) (sz : Nat) : Kh l s0 G yL_net cL_net 4 (some .int) [(0, 9, 12, 13)] { frames := 8, cells := 1, slots := 6, locals := 135 } [.ref q0, .int x0, .ref q1] [(q0, .inr (11, [.ref q2, .ref q3, .ref q4, .ref q5, .ref q6, .ref q7, .ref q8, .ref q9, .ref q10, .ref q11, .int 0, .int (-1), .int 0, .int 0, .null, .null, .null, .null, .null]))] sz 1 (fun u => [(q0, .inr (11, [.ref q2, .ref q3, .ref q4, .ref q5, .ref q6, .ref q7, .ref q8, .ref q9, .ref q10, .ref q11, .int 0, .int (-1), .int 0, .int 0, .null, .null, .null, .null, .null]))]) := by
  refine Kh.of b0 (own := RL) (nm := "net") [(0, .ref q0), (1, .int x0), (2, .ref q1)] rfl rfl (by decide +kernel) (Nat.le_of_ble_eq_true rfl) rfl ?_
  intro p e s m below meth c A C hr ht H locs w ls hl
  have hx := C.hx
  have hb := C.hb
  refine lv_aload_n hx hb dL_net_0 rfl (lv_at hl 2 rfl) ?_
  refine lv_iconst (v := 0) hx hb dL_net_1 (by decide) ?_
  refine lv_aload_n hx hb dL_net_2 rfl (lv_at hl 0 rfl) ?_
  refine lv_iload_n hx hb dL_net_3 rfl (lv_at hl 1 rfl) ?_
  refine fin_x C w (run_Vx C w mv_L_7 (k22_net C.b0 q0 q2 q3 q4 q5 q6 q7 q8 q9 q10 q11 x0 h0 h1 H.size) [0] rfl rfl 0 rfl rfl (by decide) rfl hl.1 rfl (Nat.le_of_ble_eq_true rfl) dL_net_4 (cells2 := 1) (slots2 := 6) (by decide)) [0] [] rfl rfl (by decide) (cells2 := 1) (slots2 := 6) (by decide) (fun qx2 ce H locs w hce hcv hcl => ?_)
  have w : Wd s G A [(q0, .inr (11, [.ref q2, .ref q3, .ref q4, .ref q5, .ref q6, .ref q7, .ref q8, .ref q9, .ref q10, .ref q11, .int 0, .int (-1), .int 0, .int 0, .null, .null, .null, .null, .null]))] H locs := w
  refine r_catch C ht (by decide) (by decide) tl_L_13 tk_java_lang_IllegalArgumentException hce hcv hcl ?_
  refine lv_astore_n (lv' := [(3, .ref qx2), (0, .ref q0), (1, .int x0), (2, .ref q1)]) hx hb dL_net_12 rfl hl (by decide) rfl (fun ls hl => ?_)
  refine lv_iconst (v := 1) hx hb dL_net_13 (by decide) ?_
  exact e_i C hr w (fun _ => 0) [0] rfl rfl rfl dL_net_14 (by decide) (by decide)
set_option maxRecDepth 100000 in
set_option maxHeartbeats 4000000 in
theorem k24_net {l : Launch} {s0 : State} {a0 : Array Value} {G : GT} (b0 : B0 l s0 a0 G) (q0 q1 q2 q3 q4 q5 q6 q7 q8 q9 q10 q11 q12 q13 q14 q15 q16 q17 q18 q19 q20 q21 q22 q23 q24 q25 q26 q27 q28 q29 q30 q31 q32 q33 q34 q35 q36 q37 q38 q39 q40 q41 q42 : Nat) (x0 : Int32) (h0 : 0 < x0) (h1 : ¬ x0 < 0) (sz : Nat) : Ki l s0 G yX12_net cX12_net 4 (some .int) { frames := 1, cells := 0, slots := 0, locals := 22 } [.ref q0, .int x0] [(q0, .inr (12, [.int 0, .int 0, .int 0, .int 0, .int 0, .int 0, .int 0, .int (-1), .ref q1, .ref q2, .ref q3, .int 0, .ref q4, .ref q5, .ref q6, .ref q7, .ref q8, .ref q9, .ref q10, .int 0, .ref q11, .ref q12, .ref q13, .ref q14, .ref q15, .ref q16, .ref q17, .int 0, .int (-1), .int 0, .ref q18, .ref q19, .ref q20, .ref q21, .ref q22, .ref q23, .ref q24, .ref q25, .int 0, .ref q26, .ref q27, .ref q28, .ref q29, .ref q30, .int 0, .ref q31, .ref q32, .ref q33, .ref q34, .int 0, .ref q35, .ref q36, .ref q37, .ref q38, .int 0, .int 0, .ref q39, .ref q40, .ref q41, .ref q42]))] sz 0 (fun u => [(q0, .inr (12, [.int 1, .int 0, .int 0, .int 0, .int 0, .int 0, .int 0, .int (-1), .ref q1, .ref q2, .ref q3, .int 0, .ref q4, .ref q5, .ref q6, .ref q7, .ref q8, .ref q9, .ref q10, .int 0, .ref q11, .ref q12, .ref q13, .ref q14, .ref q15, .ref q16, .ref q17, .int 0, .int (-1), .int 0, .ref q18, .ref q19, .ref q20, .ref q21, .ref q22, .ref q23, .ref q24, .ref q25, .int 0, .ref q26, .ref q27, .ref q28, .ref q29, .ref q30, .int 0, .ref q31, .ref q32, .ref q33, .ref q34, .int 0, .ref q35, .ref q36, .ref q37, .ref q38, .int 0, .int 0, .ref q39, .ref q40, .ref q41, .ref q42]))]) := by
  refine Ki.of b0 (own := RX12) (nm := "net") [(0, .ref q0), (1, .int x0)] rfl rfl (by decide +kernel) (Nat.le_of_ble_eq_true rfl) rfl ?_
  intro p e s m below meth c A C hr H locs w ls hl
  have hx := C.hx
  have hb := C.hb
  refine lv_aload_n hx hb dX12_net_0 rfl (lv_at hl 0 rfl) ?_
  refine lv_iconst (v := 0) hx hb dX12_net_1 (by decide) ?_
  refine r_put C w 0 rfl fl_X12_1 (Nat.le_of_ble_eq_true rfl) rfl rfl dX12_net_2 (ws2 := [(q0, .inr (12, [.int 0, .int 0, .int 0, .int 0, .int 0, .int 0, .int 0, .int (-1), .ref q1, .ref q2, .ref q3, .int 0, .ref q4, .ref q5, .ref q6, .ref q7, .ref q8, .ref q9, .ref q10, .int 0, .ref q11, .ref q12, .ref q13, .ref q14, .ref q15, .ref q16, .ref q17, .int 0, .int (-1), .int 0, .ref q18, .ref q19, .ref q20, .ref q21, .ref q22, .ref q23, .ref q24, .ref q25, .int 0, .ref q26, .ref q27, .ref q28, .ref q29, .ref q30, .int 0, .ref q31, .ref q32, .ref q33, .ref q34, .int 0, .ref q35, .ref q36, .ref q37, .ref q38, .int 0, .int 0, .ref q39, .ref q40, .ref q41, .ref q42]))]) rfl (fun H locs w => ?_)
  refine lv_aload_n hx hb dX12_net_5 rfl (lv_at hl 0 rfl) ?_
  refine lv_iload_n hx hb dX12_net_6 rfl (lv_at hl 1 rfl) ?_
  refine lv_if_lt (tgt := 22) hx hb dX12_net_7 (by decide) (fun h => absurd h h1) (fun _ => ?_)
  refine lv_iload_n hx hb dX12_net_10 rfl (lv_at hl 1 rfl) ?_
  refine lv_aload_n hx hb dX12_net_11 rfl (lv_at hl 0 rfl) ?_
  refine r_get C w 0 rfl fr_X12_148 rfl dX12_net_12 ?_
  refine lv_icmp_gt (tgt := 22) hx hb dX12_net_15 (by decide) (fun _ => ?_) (fun h => absurd h0 h)
  refine lv_iconst (v := 0) hx hb dX12_net_22 (by decide) ?_
  refine lv_iconst (v := 1) hx hb dX12_net_23 (by decide) ?_
  refine fin_i C w (run_V C w mv_X12_267 (k18_may C.b0 q0 q1 q2 q3 q4 q5 q6 q7 q8 q9 q10 q11 q12 q13 q14 q15 q16 q17 q18 q19 q20 q21 q22 q23 q24 q25 q26 q27 q28 q29 q30 q31 q32 q33 q34 q35 q36 q37 q38 q39 q40 q41 q42 H.size) [0] rfl rfl 0 rfl rfl (by decide) rfl hl.1 rfl (Nat.le_of_ble_eq_true rfl) dX12_net_24 (cells2 := 0) (slots2 := 0) (by decide)) [0] [] rfl rfl (by decide) (cells2 := 0) (slots2 := 0) (by decide) (fun u1 H locs w => ?_)
  have w : Wd s G A [(q0, .inr (12, [.int 1, .int 0, .int 0, .int 0, .int 0, .int 0, .int 0, .int (-1), .ref q1, .ref q2, .ref q3, .int 0, .ref q4, .ref q5, .ref q6, .ref q7, .ref q8, .ref q9, .ref q10, .int 0, .ref q11, .ref q12, .ref q13, .ref q14, .ref q15, .ref q16, .ref q17, .int 0, .int (-1), .int 0, .ref q18, .ref q19, .ref q20, .ref q21, .ref q22, .ref q23, .ref q24, .ref q25, .int 0, .ref q26, .ref q27, .ref q28, .ref q29, .ref q30, .int 0, .ref q31, .ref q32, .ref q33, .ref q34, .int 0, .ref q35, .ref q36, .ref q37, .ref q38, .int 0, .int 0, .ref q39, .ref q40, .ref q41, .ref q42]))] H locs := w
  refine lv_if_ne (tgt := 32) hx hb dX12_net_27 (by decide) (fun h => absurd (by decide) h) (fun _ => ?_)
  refine lv_iconst (v := 0) hx hb dX12_net_30 (by decide) ?_
  exact e_i C hr w (fun _ => 0) [0] rfl rfl rfl dX12_net_31 (by decide) (by decide)
set_option maxRecDepth 100000 in
set_option maxHeartbeats 4000000 in
theorem k25_needWithin {l : Launch} {s0 : State} {a0 : Array Value} {G : GT} (b0 : B0 l s0 a0 G) (x0 : Int32) (h0 : ¬ 0 < x0) (h1 : ¬ x0 < 0) (sz : Nat) : Kv l s0 G yX11_needWithin cX11_needWithin 3 none { frames := 0, cells := 0, slots := 0, locals := 0 } [.int x0, .int 0, .int 0] [] sz (fun u => []) := by
  refine Kv.of b0 (own := RX11) (nm := "needWithin") [(0, .int x0), (1, .int 0), (2, .int 0)] rfl rfl (by decide +kernel) (Nat.le_of_ble_eq_true rfl) rfl ?_
  intro p e s m below meth c A C hr H locs w ls hl
  have hx := C.hx
  have hb := C.hb
  refine lv_iload_n hx hb dX11_needWithin_0 rfl (lv_at hl 0 rfl) ?_
  refine lv_iload_n hx hb dX11_needWithin_1 rfl (lv_at hl 1 rfl) ?_
  refine lv_icmp_lt (tgt := 10) hx hb dX11_needWithin_2 (by decide) (fun h => absurd h h1) (fun _ => ?_)
  refine lv_iload_n hx hb dX11_needWithin_5 rfl (lv_at hl 0 rfl) ?_
  refine lv_iload_n hx hb dX11_needWithin_6 rfl (lv_at hl 2 rfl) ?_
  refine lv_icmp_le (tgt := 20) hx hb dX11_needWithin_7 (by decide) (fun _ => ?_) (fun h => absurd (Int32.not_lt.mp h0) h)
  exact e_v C hr w (fun _ => 0) [] rfl rfl dX11_needWithin_20 (by decide) (by decide)
set_option maxRecDepth 100000 in
set_option maxHeartbeats 4000000 in
theorem k26_wipe {l : Launch} {s0 : State} {a0 : Array Value} {G : GT} (b0 : B0 l s0 a0 G) (q0 q1 q2 q3 q4 q5 q6 q7 q8 q9 q10 q11 q12 q13 q14 : Nat) (sz : Nat) : Kv l s0 G yX2_wipe cX2_wipe 1 none { frames := 1, cells := 0, slots := 0, locals := 23 } [.ref q0] [(q0, .inr (2, [.int 0, .int 0, .ref q4, .ref q5, .ref q6, .ref q7, .ref q1, .ref q2, .ref q3, .ref q8, .ref q9, .ref q10, .ref q11, .ref q12, .ref q13, .ref q14, .int 0])), (q1, .inl (G.2.1, 64, .inl (fun _ => 0))), (q2, .inl (G.2.1, 64, .inl (fun _ => 0))), (q3, .inl (G.2.1, 64, .inl (fun _ => 0)))] sz (fun u => [(q0, .inr (2, [.int 0, .int 0, .ref q4, .ref q5, .ref q6, .ref q7, .ref q1, .ref q2, .ref q3, .ref q8, .ref q9, .ref q10, .ref q11, .ref q12, .ref q13, .ref q14, .int 0])), (q1, .inl (G.2.1, 64, .inl (fun _ => 0))), (q2, .inl (G.2.1, 64, .inl (fun _ => 0))), (q3, .inl (G.2.1, 64, .inl (fun _ => 0)))]) := by
  refine Kv.of b0 (own := RX2) (nm := "wipe") [(0, .ref q0)] rfl rfl (by decide +kernel) (Nat.le_of_ble_eq_true rfl) rfl ?_
  intro p e s m below meth c A C hr H locs w ls hl
  have hx := C.hx
  have hb := C.hb
  refine lv_aload_n hx hb dX2_wipe_0 rfl (lv_at hl 0 rfl) ?_
  refine lv_iconst (v := 0) hx hb dX2_wipe_1 (by decide) ?_
  refine r_put C w 0 rfl fl_X2_54 (Nat.le_of_ble_eq_true rfl) rfl rfl dX2_wipe_2 (ws2 := [(q0, .inr (2, [.int 0, .int 0, .ref q4, .ref q5, .ref q6, .ref q7, .ref q1, .ref q2, .ref q3, .ref q8, .ref q9, .ref q10, .ref q11, .ref q12, .ref q13, .ref q14, .int 0])), (q1, .inl (G.2.1, 64, .inl (fun _ => 0))), (q2, .inl (G.2.1, 64, .inl (fun _ => 0))), (q3, .inl (G.2.1, 64, .inl (fun _ => 0)))]) rfl (fun H locs w => ?_)
  refine lv_aload_n hx hb dX2_wipe_5 rfl (lv_at hl 0 rfl) ?_
  refine lv_iconst (v := 0) hx hb dX2_wipe_6 (by decide) ?_
  refine r_put C w 0 rfl fl_X2_58 (Nat.le_of_ble_eq_true rfl) rfl rfl dX2_wipe_7 (ws2 := [(q0, .inr (2, [.int 0, .int 0, .ref q4, .ref q5, .ref q6, .ref q7, .ref q1, .ref q2, .ref q3, .ref q8, .ref q9, .ref q10, .ref q11, .ref q12, .ref q13, .ref q14, .int 0])), (q1, .inl (G.2.1, 64, .inl (fun _ => 0))), (q2, .inl (G.2.1, 64, .inl (fun _ => 0))), (q3, .inl (G.2.1, 64, .inl (fun _ => 0)))]) rfl (fun H locs w => ?_)
  refine lv_aload_n hx hb dX2_wipe_10 rfl (lv_at hl 0 rfl) ?_
  refine lv_iconst (v := 0) hx hb dX2_wipe_11 (by decide) ?_
  refine r_put C w 0 rfl fl_X2_61 (Nat.le_of_ble_eq_true rfl) rfl rfl dX2_wipe_12 (ws2 := [(q0, .inr (2, [.int 0, .int 0, .ref q4, .ref q5, .ref q6, .ref q7, .ref q1, .ref q2, .ref q3, .ref q8, .ref q9, .ref q10, .ref q11, .ref q12, .ref q13, .ref q14, .int 0])), (q1, .inl (G.2.1, 64, .inl (fun _ => 0))), (q2, .inl (G.2.1, 64, .inl (fun _ => 0))), (q3, .inl (G.2.1, 64, .inl (fun _ => 0)))]) rfl (fun H locs w => ?_)
  refine lv_aload_n hx hb dX2_wipe_15 rfl (lv_at hl 0 rfl) ?_
  refine r_get C w 0 rfl fr_X2_24 rfl dX2_wipe_16 ?_
  refine lv_iconst (v := 0) hx hb dX2_wipe_19 (by decide) ?_
  refine fin_v C w (run_S C w ms_X2_64 (k_fillI C.b0 q1 64 (by decide) (fun _ => 0) 0 H.size) [1] rfl rfl (by decide) rfl hl.1 rfl (Nat.le_of_ble_eq_true rfl) dX2_wipe_20 (cells2 := 0) (slots2 := 0) (by decide)) [1] [0, 2, 3] rfl rfl (by decide) (cells2 := 0) (slots2 := 0) (by decide) (fun u1 H locs w => ?_)
  have w : Wd s G A [(q0, .inr (2, [.int 0, .int 0, .ref q4, .ref q5, .ref q6, .ref q7, .ref q1, .ref q2, .ref q3, .ref q8, .ref q9, .ref q10, .ref q11, .ref q12, .ref q13, .ref q14, .int 0])), (q2, .inl (G.2.1, 64, .inl (fun _ => 0))), (q3, .inl (G.2.1, 64, .inl (fun _ => 0))), (q1, .inl (G.2.1, 64, .inl (fun _ => 0)))] H locs := w
  refine lv_aload_n hx hb dX2_wipe_23 rfl (lv_at hl 0 rfl) ?_
  refine r_get C w 0 rfl fr_X2_27 rfl dX2_wipe_24 ?_
  refine lv_iconst (v := 0) hx hb dX2_wipe_27 (by decide) ?_
  refine fin_v C w (run_S C w ms_X2_64 (k_fillI C.b0 q2 64 (by decide) (fun _ => 0) 0 H.size) [1] rfl rfl (by decide) rfl hl.1 rfl (Nat.le_of_ble_eq_true rfl) dX2_wipe_28 (cells2 := 0) (slots2 := 0) (by decide)) [1] [0, 2, 3] rfl rfl (by decide) (cells2 := 0) (slots2 := 0) (by decide) (fun u2 H locs w => ?_)
  have w : Wd s G A [(q0, .inr (2, [.int 0, .int 0, .ref q4, .ref q5, .ref q6, .ref q7, .ref q1, .ref q2, .ref q3, .ref q8, .ref q9, .ref q10, .ref q11, .ref q12, .ref q13, .ref q14, .int 0])), (q3, .inl (G.2.1, 64, .inl (fun _ => 0))), (q1, .inl (G.2.1, 64, .inl (fun _ => 0))), (q2, .inl (G.2.1, 64, .inl (fun _ => 0)))] H locs := w
  refine lv_aload_n hx hb dX2_wipe_31 rfl (lv_at hl 0 rfl) ?_
  refine r_get C w 0 rfl fr_X2_30 rfl dX2_wipe_32 ?_
  refine lv_iconst (v := 0) hx hb dX2_wipe_35 (by decide) ?_
  refine fin_v C w (run_S C w ms_X2_64 (k_fillI C.b0 q3 64 (by decide) (fun _ => 0) 0 H.size) [1] rfl rfl (by decide) rfl hl.1 rfl (Nat.le_of_ble_eq_true rfl) dX2_wipe_36 (cells2 := 0) (slots2 := 0) (by decide)) [1] [0, 2, 3] rfl rfl (by decide) (cells2 := 0) (slots2 := 0) (by decide) (fun u3 H locs w => ?_)
  have w : Wd s G A [(q0, .inr (2, [.int 0, .int 0, .ref q4, .ref q5, .ref q6, .ref q7, .ref q1, .ref q2, .ref q3, .ref q8, .ref q9, .ref q10, .ref q11, .ref q12, .ref q13, .ref q14, .int 0])), (q1, .inl (G.2.1, 64, .inl (fun _ => 0))), (q2, .inl (G.2.1, 64, .inl (fun _ => 0))), (q3, .inl (G.2.1, 64, .inl (fun _ => 0)))] H locs := w
  exact e_v C hr w (fun _ => 0) [0, 1, 2, 3] rfl rfl dX2_wipe_39 (by decide) (by decide)
set_option maxRecDepth 100000 in
set_option maxHeartbeats 4000000 in
theorem k27_advance {l : Launch} {s0 : State} {a0 : Array Value} {G : GT} (b0 : B0 l s0 a0 G) (q0 q1 q2 : Nat) (x0 : Int32) (h0 : ¬ 0 < x0) (sz : Nat) : Kv l s0 G yX3_advance cX3_advance 1 none { frames := 0, cells := 0, slots := 0, locals := 0 } [.ref q0] [(q0, .inr (3, [.int (-1), .int 0, .ref q1, .int x0, .int 0, .int 0, .int 0, .int 0, .int 0, .int 0, .ref q2]))] sz (fun u => [(q0, .inr (3, [.int (-1), .int 0, .ref q1, .int x0, .int 0, .int 0, .int 0, .int 0, .int 0, .int 0, .ref q2]))]) := by
  refine Kv.of b0 (own := RX3) (nm := "advance") [(0, .ref q0)] rfl rfl (by decide +kernel) (Nat.le_of_ble_eq_true rfl) rfl ?_
  intro p e s m below meth c A C hr H locs w ls hl
  have hx := C.hx
  have hb := C.hb
  refine lv_aload_n hx hb dX3_advance_0 rfl (lv_at hl 0 rfl) ?_
  refine lv_aload_n hx hb dX3_advance_1 rfl (lv_at hl 0 rfl) ?_
  refine r_get C w 0 rfl fr_X3_31 rfl dX3_advance_2 ?_
  refine r_put C w 0 rfl fl_X3_60 (Nat.le_of_ble_eq_true rfl) rfl rfl dX3_advance_5 (ws2 := [(q0, .inr (3, [.int (-1), .int 0, .ref q1, .int x0, .int 0, .int 0, .int 0, .int 0, .int 0, .int 0, .ref q2]))]) rfl (fun H locs w => ?_)
  refine lv_aload_n hx hb dX3_advance_8 rfl (lv_at hl 0 rfl) ?_
  refine r_get C w 0 rfl fr_X3_60 rfl dX3_advance_9 ?_
  refine lv_aload_n hx hb dX3_advance_12 rfl (lv_at hl 0 rfl) ?_
  refine r_get C w 0 rfl fr_X3_19 rfl dX3_advance_13 ?_
  refine lv_icmp_ge (tgt := 46) hx hb dX3_advance_16 (by decide) (fun _ => ?_) (fun h => absurd (Int32.not_lt.mp h0) h)
  refine lv_aload_n hx hb dX3_advance_46 rfl (lv_at hl 0 rfl) ?_
  refine lv_aload_n hx hb dX3_advance_47 rfl (lv_at hl 0 rfl) ?_
  refine r_get C w 0 rfl fr_X3_60 rfl dX3_advance_48 ?_
  refine r_put C w 0 rfl fl_X3_31 (Nat.le_of_ble_eq_true rfl) rfl rfl dX3_advance_51 (ws2 := [(q0, .inr (3, [.int (-1), .int 0, .ref q1, .int x0, .int 0, .int 0, .int 0, .int 0, .int 0, .int 0, .ref q2]))]) rfl (fun H locs w => ?_)
  refine lv_aload_n hx hb dX3_advance_54 rfl (lv_at hl 0 rfl) ?_
  refine lv_iconst (v := 0) hx hb dX3_advance_55 (by decide) ?_
  refine r_put C w 0 rfl fl_X3_43 (Nat.le_of_ble_eq_true rfl) rfl rfl dX3_advance_56 (ws2 := [(q0, .inr (3, [.int (-1), .int 0, .ref q1, .int x0, .int 0, .int 0, .int 0, .int 0, .int 0, .int 0, .ref q2]))]) rfl (fun H locs w => ?_)
  refine lv_aload_n hx hb dX3_advance_59 rfl (lv_at hl 0 rfl) ?_
  refine lv_iconst (v := 0) hx hb dX3_advance_60 (by decide) ?_
  refine r_put C w 0 rfl fl_X3_63 (Nat.le_of_ble_eq_true rfl) rfl rfl dX3_advance_61 (ws2 := [(q0, .inr (3, [.int (-1), .int 0, .ref q1, .int x0, .int 0, .int 0, .int 0, .int 0, .int 0, .int 0, .ref q2]))]) rfl (fun H locs w => ?_)
  refine lv_aload_n hx hb dX3_advance_64 rfl (lv_at hl 0 rfl) ?_
  refine r_get C w 0 rfl fr_X3_31 rfl dX3_advance_65 ?_
  refine lv_aload_n hx hb dX3_advance_68 rfl (lv_at hl 0 rfl) ?_
  refine r_get C w 0 rfl fr_X3_19 rfl dX3_advance_69 ?_
  refine lv_icmp_ge (tgt := 150) hx hb dX3_advance_72 (by decide) (fun _ => ?_) (fun h => absurd (Int32.not_lt.mp h0) h)
  refine lv_aload_n hx hb dX3_advance_150 rfl (lv_at hl 0 rfl) ?_
  refine r_get C w 0 rfl fr_X3_31 rfl dX3_advance_151 ?_
  refine lv_aload_n hx hb dX3_advance_154 rfl (lv_at hl 0 rfl) ?_
  refine r_get C w 0 rfl fr_X3_19 rfl dX3_advance_155 ?_
  refine lv_icmp_ge (tgt := 215) hx hb dX3_advance_158 (by decide) (fun _ => ?_) (fun h => absurd (Int32.not_lt.mp h0) h)
  refine lv_aload_n hx hb dX3_advance_215 rfl (lv_at hl 0 rfl) ?_
  refine r_get C w 0 rfl fr_X3_60 rfl dX3_advance_216 ?_
  refine lv_aload_n hx hb dX3_advance_219 rfl (lv_at hl 0 rfl) ?_
  refine r_get C w 0 rfl fr_X3_19 rfl dX3_advance_220 ?_
  refine lv_icmp_ge (tgt := 261) hx hb dX3_advance_223 (by decide) (fun _ => ?_) (fun h => absurd (Int32.not_lt.mp h0) h)
  exact e_v C hr w (fun _ => 0) [0] rfl rfl dX3_advance_261 (by decide) (by decide)
set_option maxRecDepth 100000 in
set_option maxHeartbeats 4000000 in
theorem k28_fails {l : Launch} {s0 : State} {a0 : Array Value} {G : GT} (b0 : B0 l s0 a0 G) (q0 q1 q2 : Nat) (x0 : Int32) (sz : Nat) : Ki l s0 G yX3_fails cX3_fails 3 (some .boolean) { frames := 0, cells := 0, slots := 0, locals := 0 } [.ref q0, .int 4, .int x0] [(q0, .inr (3, [.int (-1), .int 0, .ref q1, .int x0, .int 0, .int 0, .int 0, .int 0, .int 0, .int 0, .ref q2]))] sz 0 (fun u => [(q0, .inr (3, [.int x0, .int 4, .ref q1, .int x0, .int 0, .int 0, .int 0, .int 0, .int 0, .int 0, .ref q2]))]) := by
  refine Ki.of b0 (own := RX3) (nm := "fails") [(0, .ref q0), (1, .int 4), (2, .int x0)] rfl rfl (by decide +kernel) (Nat.le_of_ble_eq_true rfl) rfl ?_
  intro p e s m below meth c A C hr H locs w ls hl
  have hx := C.hx
  have hb := C.hb
  refine lv_aload_n hx hb dX3_fails_0 rfl (lv_at hl 0 rfl) ?_
  refine lv_iload_n hx hb dX3_fails_1 rfl (lv_at hl 1 rfl) ?_
  refine r_put C w 0 rfl fl_X3_37 (Nat.le_of_ble_eq_true rfl) rfl rfl dX3_fails_2 (ws2 := [(q0, .inr (3, [.int (-1), .int 4, .ref q1, .int x0, .int 0, .int 0, .int 0, .int 0, .int 0, .int 0, .ref q2]))]) rfl (fun H locs w => ?_)
  refine lv_aload_n hx hb dX3_fails_5 rfl (lv_at hl 0 rfl) ?_
  refine lv_iload_n hx hb dX3_fails_6 rfl (lv_at hl 2 rfl) ?_
  refine r_put C w 0 rfl fl_X3_9 (Nat.le_of_ble_eq_true rfl) rfl rfl dX3_fails_7 (ws2 := [(q0, .inr (3, [.int x0, .int 4, .ref q1, .int x0, .int 0, .int 0, .int 0, .int 0, .int 0, .int 0, .ref q2]))]) rfl (fun H locs w => ?_)
  refine lv_iconst (v := 0) hx hb dX3_fails_10 (by decide) ?_
  exact e_i C hr w (fun _ => 0) [0] rfl rfl (by decide) dX3_fails_11 (by decide) (by decide)
set_option maxRecDepth 100000 in
set_option maxHeartbeats 4000000 in
theorem k29_readNet {l : Launch} {s0 : State} {a0 : Array Value} {G : GT} (b0 : B0 l s0 a0 G) (q0 q1 q2 q3 q4 q5 q6 q7 q8 q9 q10 q11 q12 q13 q14 q15 q16 : Nat) (x0 : Int32) (h0 : ¬ 0 < x0) (sz : Nat) : Ki l s0 G yX3_readNet cX3_readNet 5 (some .int) { frames := 2, cells := 0, slots := 0, locals := 43 } [.ref q0, .ref q5, .int x0, .ref q1] [(q0, .inr (3, [.int (-1), .int 0, .null, .int 0, .int 0, .int 0, .int 0, .int 0, .int 0, .int 0, .null])), (q1, .inr (2, [.int 0, .int 0, .ref q6, .ref q7, .ref q8, .ref q9, .ref q2, .ref q3, .ref q4, .ref q10, .ref q11, .ref q12, .ref q13, .ref q14, .ref q15, .ref q16, .int 0])), (q2, .inl (G.2.1, 64, .inl (fun _ => 0))), (q3, .inl (G.2.1, 64, .inl (fun _ => 0))), (q4, .inl (G.2.1, 64, .inl (fun _ => 0)))] sz 4 (fun u => [(q0, .inr (3, [.int x0, .int 4, .ref q5, .int x0, .int 0, .int 0, .int 0, .int 0, .int 0, .int 0, .ref q1])), (q1, .inr (2, [.int 0, .int 0, .ref q6, .ref q7, .ref q8, .ref q9, .ref q2, .ref q3, .ref q4, .ref q10, .ref q11, .ref q12, .ref q13, .ref q14, .ref q15, .ref q16, .int 0])), (q2, .inl (G.2.1, 64, .inl (fun _ => 0))), (q3, .inl (G.2.1, 64, .inl (fun _ => 0))), (q4, .inl (G.2.1, 64, .inl (fun _ => 0)))]) := by
  refine Ki.of b0 (own := RX3) (nm := "readNet") [(0, .ref q0), (1, .ref q5), (2, .int x0), (3, .ref q1)] rfl rfl (by decide +kernel) (Nat.le_of_ble_eq_true rfl) rfl ?_
  intro p e s m below meth c A C hr H locs w ls hl
  have hx := C.hx
  have hb := C.hb
  refine lv_aload_n hx hb dX3_readNet_0 rfl (lv_at hl 0 rfl) ?_
  refine lv_aload_n hx hb dX3_readNet_1 rfl (lv_at hl 1 rfl) ?_
  refine r_put C w 0 rfl fl_X3_15 (Nat.le_of_ble_eq_true rfl) rfl rfl dX3_readNet_2 (ws2 := [(q0, .inr (3, [.int (-1), .int 0, .ref q5, .int 0, .int 0, .int 0, .int 0, .int 0, .int 0, .int 0, .null])), (q1, .inr (2, [.int 0, .int 0, .ref q6, .ref q7, .ref q8, .ref q9, .ref q2, .ref q3, .ref q4, .ref q10, .ref q11, .ref q12, .ref q13, .ref q14, .ref q15, .ref q16, .int 0])), (q2, .inl (G.2.1, 64, .inl (fun _ => 0))), (q3, .inl (G.2.1, 64, .inl (fun _ => 0))), (q4, .inl (G.2.1, 64, .inl (fun _ => 0)))]) rfl (fun H locs w => ?_)
  refine lv_aload_n hx hb dX3_readNet_5 rfl (lv_at hl 0 rfl) ?_
  refine lv_iload_n hx hb dX3_readNet_6 rfl (lv_at hl 2 rfl) ?_
  refine r_put C w 0 rfl fl_X3_19 (Nat.le_of_ble_eq_true rfl) rfl rfl dX3_readNet_7 (ws2 := [(q0, .inr (3, [.int (-1), .int 0, .ref q5, .int x0, .int 0, .int 0, .int 0, .int 0, .int 0, .int 0, .null])), (q1, .inr (2, [.int 0, .int 0, .ref q6, .ref q7, .ref q8, .ref q9, .ref q2, .ref q3, .ref q4, .ref q10, .ref q11, .ref q12, .ref q13, .ref q14, .ref q15, .ref q16, .int 0])), (q2, .inl (G.2.1, 64, .inl (fun _ => 0))), (q3, .inl (G.2.1, 64, .inl (fun _ => 0))), (q4, .inl (G.2.1, 64, .inl (fun _ => 0)))]) rfl (fun H locs w => ?_)
  refine lv_aload_n hx hb dX3_readNet_10 rfl (lv_at hl 0 rfl) ?_
  refine lv_aload_n hx hb dX3_readNet_11 rfl (lv_at hl 3 rfl) ?_
  refine r_put C w 0 rfl fl_X3_22 (Nat.le_of_ble_eq_true rfl) rfl rfl dX3_readNet_12 (ws2 := [(q0, .inr (3, [.int (-1), .int 0, .ref q5, .int x0, .int 0, .int 0, .int 0, .int 0, .int 0, .int 0, .ref q1])), (q1, .inr (2, [.int 0, .int 0, .ref q6, .ref q7, .ref q8, .ref q9, .ref q2, .ref q3, .ref q4, .ref q10, .ref q11, .ref q12, .ref q13, .ref q14, .ref q15, .ref q16, .int 0])), (q2, .inl (G.2.1, 64, .inl (fun _ => 0))), (q3, .inl (G.2.1, 64, .inl (fun _ => 0))), (q4, .inl (G.2.1, 64, .inl (fun _ => 0)))]) rfl (fun H locs w => ?_)
  refine lv_aload_n hx hb dX3_readNet_15 rfl (lv_at hl 0 rfl) ?_
  refine r_get C w 0 rfl fr_X3_22 rfl dX3_readNet_16 ?_
  refine fin_v C w (run_V C w mv_X3_26 (k26_wipe C.b0 q1 q2 q3 q4 q6 q7 q8 q9 q10 q11 q12 q13 q14 q15 q16 H.size) [1, 2, 3, 4] rfl rfl 1 rfl rfl (by decide) rfl hl.1 rfl (Nat.le_of_ble_eq_true rfl) dX3_readNet_19 (cells2 := 0) (slots2 := 0) (by decide)) [1, 2, 3, 4] [0] rfl rfl (by decide) (cells2 := 0) (slots2 := 0) (by decide) (fun u1 H locs w => ?_)
  have w : Wd s G A [(q0, .inr (3, [.int (-1), .int 0, .ref q5, .int x0, .int 0, .int 0, .int 0, .int 0, .int 0, .int 0, .ref q1])), (q1, .inr (2, [.int 0, .int 0, .ref q6, .ref q7, .ref q8, .ref q9, .ref q2, .ref q3, .ref q4, .ref q10, .ref q11, .ref q12, .ref q13, .ref q14, .ref q15, .ref q16, .int 0])), (q2, .inl (G.2.1, 64, .inl (fun _ => 0))), (q3, .inl (G.2.1, 64, .inl (fun _ => 0))), (q4, .inl (G.2.1, 64, .inl (fun _ => 0)))] H locs := w
  refine lv_aload_n hx hb dX3_readNet_22 rfl (lv_at hl 0 rfl) ?_
  refine lv_iconst (v := 0) hx hb dX3_readNet_23 (by decide) ?_
  refine r_put C w 0 rfl fl_X3_31 (Nat.le_of_ble_eq_true rfl) rfl rfl dX3_readNet_24 (ws2 := [(q0, .inr (3, [.int (-1), .int 0, .ref q5, .int x0, .int 0, .int 0, .int 0, .int 0, .int 0, .int 0, .ref q1])), (q1, .inr (2, [.int 0, .int 0, .ref q6, .ref q7, .ref q8, .ref q9, .ref q2, .ref q3, .ref q4, .ref q10, .ref q11, .ref q12, .ref q13, .ref q14, .ref q15, .ref q16, .int 0])), (q2, .inl (G.2.1, 64, .inl (fun _ => 0))), (q3, .inl (G.2.1, 64, .inl (fun _ => 0))), (q4, .inl (G.2.1, 64, .inl (fun _ => 0)))]) rfl (fun H locs w => ?_)
  refine lv_aload_n hx hb dX3_readNet_27 rfl (lv_at hl 0 rfl) ?_
  refine lv_iconst (v := 0) hx hb dX3_readNet_28 (by decide) ?_
  refine r_put C w 0 rfl fl_X3_34 (Nat.le_of_ble_eq_true rfl) rfl rfl dX3_readNet_29 (ws2 := [(q0, .inr (3, [.int (-1), .int 0, .ref q5, .int x0, .int 0, .int 0, .int 0, .int 0, .int 0, .int 0, .ref q1])), (q1, .inr (2, [.int 0, .int 0, .ref q6, .ref q7, .ref q8, .ref q9, .ref q2, .ref q3, .ref q4, .ref q10, .ref q11, .ref q12, .ref q13, .ref q14, .ref q15, .ref q16, .int 0])), (q2, .inl (G.2.1, 64, .inl (fun _ => 0))), (q3, .inl (G.2.1, 64, .inl (fun _ => 0))), (q4, .inl (G.2.1, 64, .inl (fun _ => 0)))]) rfl (fun H locs w => ?_)
  refine lv_aload_n hx hb dX3_readNet_32 rfl (lv_at hl 0 rfl) ?_
  refine lv_iconst (v := 0) hx hb dX3_readNet_33 (by decide) ?_
  refine r_put C w 0 rfl fl_X3_37 (Nat.le_of_ble_eq_true rfl) rfl rfl dX3_readNet_34 (ws2 := [(q0, .inr (3, [.int (-1), .int 0, .ref q5, .int x0, .int 0, .int 0, .int 0, .int 0, .int 0, .int 0, .ref q1])), (q1, .inr (2, [.int 0, .int 0, .ref q6, .ref q7, .ref q8, .ref q9, .ref q2, .ref q3, .ref q4, .ref q10, .ref q11, .ref q12, .ref q13, .ref q14, .ref q15, .ref q16, .int 0])), (q2, .inl (G.2.1, 64, .inl (fun _ => 0))), (q3, .inl (G.2.1, 64, .inl (fun _ => 0))), (q4, .inl (G.2.1, 64, .inl (fun _ => 0)))]) rfl (fun H locs w => ?_)
  refine lv_aload_n hx hb dX3_readNet_37 rfl (lv_at hl 0 rfl) ?_
  refine lv_iconst (v := (-1)) hx hb dX3_readNet_38 (by decide) ?_
  refine r_put C w 0 rfl fl_X3_9 (Nat.le_of_ble_eq_true rfl) rfl rfl dX3_readNet_39 (ws2 := [(q0, .inr (3, [.int (-1), .int 0, .ref q5, .int x0, .int 0, .int 0, .int 0, .int 0, .int 0, .int 0, .ref q1])), (q1, .inr (2, [.int 0, .int 0, .ref q6, .ref q7, .ref q8, .ref q9, .ref q2, .ref q3, .ref q4, .ref q10, .ref q11, .ref q12, .ref q13, .ref q14, .ref q15, .ref q16, .int 0])), (q2, .inl (G.2.1, 64, .inl (fun _ => 0))), (q3, .inl (G.2.1, 64, .inl (fun _ => 0))), (q4, .inl (G.2.1, 64, .inl (fun _ => 0)))]) rfl (fun H locs w => ?_)
  refine lv_aload_n hx hb dX3_readNet_42 rfl (lv_at hl 0 rfl) ?_
  refine fin_v C w (run_V C w mv_X3_40 (k27_advance C.b0 q0 q5 q1 x0 h0 H.size) [0] rfl rfl 0 rfl rfl (by decide) rfl hl.1 rfl (Nat.le_of_ble_eq_true rfl) dX3_readNet_43 (cells2 := 0) (slots2 := 0) (by decide)) [0] [1, 2, 3, 4] rfl rfl (by decide) (cells2 := 0) (slots2 := 0) (by decide) (fun u2 H locs w => ?_)
  have w : Wd s G A [(q1, .inr (2, [.int 0, .int 0, .ref q6, .ref q7, .ref q8, .ref q9, .ref q2, .ref q3, .ref q4, .ref q10, .ref q11, .ref q12, .ref q13, .ref q14, .ref q15, .ref q16, .int 0])), (q2, .inl (G.2.1, 64, .inl (fun _ => 0))), (q3, .inl (G.2.1, 64, .inl (fun _ => 0))), (q4, .inl (G.2.1, 64, .inl (fun _ => 0))), (q0, .inr (3, [.int (-1), .int 0, .ref q5, .int x0, .int 0, .int 0, .int 0, .int 0, .int 0, .int 0, .ref q1]))] H locs := w
  refine lv_iconst (v := 0) hx hb dX3_readNet_46 (by decide) ?_
  refine lv_istore (lv' := [(4, .int 0), (0, .ref q0), (1, .ref q5), (2, .int x0), (3, .ref q1)]) hx hb dX3_readNet_47 hl (by decide) rfl (fun ls hl => ?_)
  refine lv_iload hx hb dX3_readNet_49 (lv_at hl 0 rfl) ?_
  refine lv_bipush (v := 60) hx hb dX3_readNet_51 (by decide) ?_
  refine lv_icmp_gt (tgt := 83) hx hb dX3_readNet_53 (by decide) (fun h => absurd h (by decide)) (fun _ => ?_)
  refine lv_aload_n hx hb dX3_readNet_56 rfl (lv_at hl 1 rfl) ?_
  refine r_get C w 4 rfl fr_X3_43 rfl dX3_readNet_57 ?_
  refine lv_if_eq (tgt := 83) hx hb dX3_readNet_60 (by decide) (fun _ => ?_) (fun h => absurd (by decide) h)
  refine lv_aload_n hx hb dX3_readNet_83 rfl (lv_at hl 1 rfl) ?_
  refine r_get C w 4 rfl fr_X3_37 rfl dX3_readNet_84 ?_
  refine lv_if_ne (tgt := 120) hx hb dX3_readNet_87 (by decide) (fun h => absurd (by decide) h) (fun _ => ?_)
  refine lv_aload_n hx hb dX3_readNet_90 rfl (lv_at hl 1 rfl) ?_
  refine r_get C w 4 rfl fr_X3_22 rfl dX3_readNet_91 ?_
  refine r_get C w 0 rfl fr_X3_50 rfl dX3_readNet_94 ?_
  refine lv_if_eq (tgt := 110) hx hb dX3_readNet_97 (by decide) (fun _ => ?_) (fun h => absurd (by decide) h)
  refine lv_aload_n hx hb dX3_readNet_110 rfl (lv_at hl 1 rfl) ?_
  refine lv_iconst (v := 4) hx hb dX3_readNet_111 (by decide) ?_
  refine lv_aload_n hx hb dX3_readNet_112 rfl (lv_at hl 1 rfl) ?_
  refine r_get C w 4 rfl fr_X3_19 rfl dX3_readNet_113 ?_
  refine fin_i C w (run_V C w mv_X3_56 (k28_fails C.b0 q0 q5 q1 x0 H.size) [4] rfl rfl 4 rfl rfl (by decide) rfl hl.1 rfl (Nat.le_of_ble_eq_true rfl) dX3_readNet_116 (cells2 := 0) (slots2 := 0) (by decide)) [4] [0, 1, 2, 3] rfl rfl (by decide) (cells2 := 0) (slots2 := 0) (by decide) (fun u3 H locs w => ?_)
  have w : Wd s G A [(q1, .inr (2, [.int 0, .int 0, .ref q6, .ref q7, .ref q8, .ref q9, .ref q2, .ref q3, .ref q4, .ref q10, .ref q11, .ref q12, .ref q13, .ref q14, .ref q15, .ref q16, .int 0])), (q2, .inl (G.2.1, 64, .inl (fun _ => 0))), (q3, .inl (G.2.1, 64, .inl (fun _ => 0))), (q4, .inl (G.2.1, 64, .inl (fun _ => 0))), (q0, .inr (3, [.int x0, .int 4, .ref q5, .int x0, .int 0, .int 0, .int 0, .int 0, .int 0, .int 0, .ref q1]))] H locs := w
  refine lv_pop hx hb dX3_readNet_119 rfl ?_
  refine lv_aload_n hx hb dX3_readNet_120 rfl (lv_at hl 1 rfl) ?_
  refine r_get C w 4 rfl fr_X3_37 rfl dX3_readNet_121 ?_
  exact e_i C hr w (fun _ => 0) [4, 0, 1, 2, 3] rfl rfl rfl dX3_readNet_124 (by decide) (by decide)
set_option maxRecDepth 100000 in
set_option maxHeartbeats 4000000 in
theorem k30_net {l : Launch} {s0 : State} {a0 : Array Value} {G : GT} (b0 : B0 l s0 a0 G) (q0 q1 q2 q3 q4 q5 q6 q7 q8 q9 q10 q11 q12 q13 q14 q15 q16 q17 q18 q19 q20 q21 q22 q23 q24 : Nat) (x0 : Int32) (h0 : ¬ 0 < x0) (h1 : ¬ x0 < 0) (sz : Nat) : Ki l s0 G yX11_net cX11_net 4 (some .int) { frames := 3, cells := 0, slots := 0, locals := 67 } [.ref q0, .int x0] [(q0, .inr (11, [.ref q6, .ref q1, .ref q7, .ref q8, .ref q9, .ref q10, .ref q11, .ref q12, .ref q13, .ref q2, .int 0, .int (-1), .int 0, .int 0, .null, .null, .null, .null, .null])), (q1, .inr (3, [.int (-1), .int 0, .null, .int 0, .int 0, .int 0, .int 0, .int 0, .int 0, .int 0, .null])), (q2, .inr (2, [.int 0, .int 0, .ref q14, .ref q15, .ref q16, .ref q17, .ref q3, .ref q4, .ref q5, .ref q18, .ref q19, .ref q20, .ref q21, .ref q22, .ref q23, .ref q24, .int 0])), (q3, .inl (G.2.1, 64, .inl (fun _ => 0))), (q4, .inl (G.2.1, 64, .inl (fun _ => 0))), (q5, .inl (G.2.1, 64, .inl (fun _ => 0)))] sz (-6) (fun u => [(q0, .inr (11, [.ref q6, .ref q1, .ref q7, .ref q8, .ref q9, .ref q10, .ref q11, .ref q12, .ref q13, .ref q2, .int 0, .int x0, .int 0, .int 0, .null, .null, .null, .null, .null])), (q1, .inr (3, [.int x0, .int 4, .ref q6, .int x0, .int 0, .int 0, .int 0, .int 0, .int 0, .int 0, .ref q2])), (q2, .inr (2, [.int 0, .int 0, .ref q14, .ref q15, .ref q16, .ref q17, .ref q3, .ref q4, .ref q5, .ref q18, .ref q19, .ref q20, .ref q21, .ref q22, .ref q23, .ref q24, .int 0])), (q3, .inl (G.2.1, 64, .inl (fun _ => 0))), (q4, .inl (G.2.1, 64, .inl (fun _ => 0))), (q5, .inl (G.2.1, 64, .inl (fun _ => 0)))]) := by
  refine Ki.of b0 (own := RX11) (nm := "net") [(0, .ref q0), (1, .int x0)] rfl rfl (by decide +kernel) (Nat.le_of_ble_eq_true rfl) rfl ?_
  intro p e s m below meth c A C hr H locs w ls hl
  have hx := C.hx
  have hb := C.hb
  refine lv_iload_n hx hb dX11_net_0 rfl (lv_at hl 1 rfl) ?_
  refine lv_iconst (v := 0) hx hb dX11_net_1 (by decide) ?_
  refine lv_aload_n hx hb dX11_net_2 rfl (lv_at hl 0 rfl) ?_
  refine r_get C w 0 rfl fr_X11_65 rfl dX11_net_3 ?_
  refine fin_v C w (run_S C w ms_X11_72 (k25_needWithin C.b0 x0 h0 h1 H.size) [] rfl rfl (by decide) rfl hl.1 rfl (Nat.le_of_ble_eq_true rfl) dX11_net_6 (cells2 := 0) (slots2 := 0) (by decide)) [] [0, 1, 2, 3, 4, 5] rfl rfl (by decide) (cells2 := 0) (slots2 := 0) (by decide) (fun u1 H locs w => ?_)
  have w : Wd s G A [(q0, .inr (11, [.ref q6, .ref q1, .ref q7, .ref q8, .ref q9, .ref q10, .ref q11, .ref q12, .ref q13, .ref q2, .int 0, .int (-1), .int 0, .int 0, .null, .null, .null, .null, .null])), (q1, .inr (3, [.int (-1), .int 0, .null, .int 0, .int 0, .int 0, .int 0, .int 0, .int 0, .int 0, .null])), (q2, .inr (2, [.int 0, .int 0, .ref q14, .ref q15, .ref q16, .ref q17, .ref q3, .ref q4, .ref q5, .ref q18, .ref q19, .ref q20, .ref q21, .ref q22, .ref q23, .ref q24, .int 0])), (q3, .inl (G.2.1, 64, .inl (fun _ => 0))), (q4, .inl (G.2.1, 64, .inl (fun _ => 0))), (q5, .inl (G.2.1, 64, .inl (fun _ => 0)))] H locs := w
  refine lv_aload_n hx hb dX11_net_9 rfl (lv_at hl 0 rfl) ?_
  refine lv_iconst (v := 0) hx hb dX11_net_10 (by decide) ?_
  refine r_put C w 0 rfl fl_X11_65 (Nat.le_of_ble_eq_true rfl) rfl rfl dX11_net_11 (ws2 := [(q0, .inr (11, [.ref q6, .ref q1, .ref q7, .ref q8, .ref q9, .ref q10, .ref q11, .ref q12, .ref q13, .ref q2, .int 0, .int (-1), .int 0, .int 0, .null, .null, .null, .null, .null])), (q1, .inr (3, [.int (-1), .int 0, .null, .int 0, .int 0, .int 0, .int 0, .int 0, .int 0, .int 0, .null])), (q2, .inr (2, [.int 0, .int 0, .ref q14, .ref q15, .ref q16, .ref q17, .ref q3, .ref q4, .ref q5, .ref q18, .ref q19, .ref q20, .ref q21, .ref q22, .ref q23, .ref q24, .int 0])), (q3, .inl (G.2.1, 64, .inl (fun _ => 0))), (q4, .inl (G.2.1, 64, .inl (fun _ => 0))), (q5, .inl (G.2.1, 64, .inl (fun _ => 0)))]) rfl (fun H locs w => ?_)
  refine lv_aload_n hx hb dX11_net_14 rfl (lv_at hl 0 rfl) ?_
  refine r_get C w 0 rfl fr_X11_16 rfl dX11_net_15 ?_
  refine lv_aload_n hx hb dX11_net_18 rfl (lv_at hl 0 rfl) ?_
  refine r_get C w 0 rfl fr_X11_9 rfl dX11_net_19 ?_
  refine lv_iload_n hx hb dX11_net_22 rfl (lv_at hl 1 rfl) ?_
  refine lv_aload_n hx hb dX11_net_23 rfl (lv_at hl 0 rfl) ?_
  refine r_get C w 0 rfl fr_X11_58 rfl dX11_net_24 ?_
  refine fin_i C w (run_V C w mv_X11_76 (k29_readNet C.b0 q1 q2 q3 q4 q5 q6 q14 q15 q16 q17 q18 q19 q20 q21 q22 q23 q24 x0 h0 H.size) [1, 2, 3, 4, 5] rfl rfl 1 rfl rfl (by decide) rfl hl.1 rfl (Nat.le_of_ble_eq_true rfl) dX11_net_27 (cells2 := 0) (slots2 := 0) (by decide)) [1, 2, 3, 4, 5] [0] rfl rfl (by decide) (cells2 := 0) (slots2 := 0) (by decide) (fun u2 H locs w => ?_)
  have w : Wd s G A [(q0, .inr (11, [.ref q6, .ref q1, .ref q7, .ref q8, .ref q9, .ref q10, .ref q11, .ref q12, .ref q13, .ref q2, .int 0, .int (-1), .int 0, .int 0, .null, .null, .null, .null, .null])), (q1, .inr (3, [.int x0, .int 4, .ref q6, .int x0, .int 0, .int 0, .int 0, .int 0, .int 0, .int 0, .ref q2])), (q2, .inr (2, [.int 0, .int 0, .ref q14, .ref q15, .ref q16, .ref q17, .ref q3, .ref q4, .ref q5, .ref q18, .ref q19, .ref q20, .ref q21, .ref q22, .ref q23, .ref q24, .int 0])), (q3, .inl (G.2.1, 64, .inl (fun _ => 0))), (q4, .inl (G.2.1, 64, .inl (fun _ => 0))), (q5, .inl (G.2.1, 64, .inl (fun _ => 0)))] H locs := w
  refine lv_istore_n (lv' := [(2, .int 4), (0, .ref q0), (1, .int x0)]) hx hb dX11_net_30 rfl hl (by decide) rfl (fun ls hl => ?_)
  refine lv_aload_n hx hb dX11_net_31 rfl (lv_at hl 1 rfl) ?_
  refine lv_aload_n hx hb dX11_net_32 rfl (lv_at hl 1 rfl) ?_
  refine r_get C w 0 rfl fr_X11_16 rfl dX11_net_33 ?_
  refine r_get C w 1 rfl fr_X11_80 rfl dX11_net_36 ?_
  refine r_put C w 0 rfl fl_X11_61 (Nat.le_of_ble_eq_true rfl) rfl rfl dX11_net_39 (ws2 := [(q0, .inr (11, [.ref q6, .ref q1, .ref q7, .ref q8, .ref q9, .ref q10, .ref q11, .ref q12, .ref q13, .ref q2, .int 0, .int x0, .int 0, .int 0, .null, .null, .null, .null, .null])), (q1, .inr (3, [.int x0, .int 4, .ref q6, .int x0, .int 0, .int 0, .int 0, .int 0, .int 0, .int 0, .ref q2])), (q2, .inr (2, [.int 0, .int 0, .ref q14, .ref q15, .ref q16, .ref q17, .ref q3, .ref q4, .ref q5, .ref q18, .ref q19, .ref q20, .ref q21, .ref q22, .ref q23, .ref q24, .int 0])), (q3, .inl (G.2.1, 64, .inl (fun _ => 0))), (q4, .inl (G.2.1, 64, .inl (fun _ => 0))), (q5, .inl (G.2.1, 64, .inl (fun _ => 0)))]) rfl (fun H locs w => ?_)
  refine lv_iload_n hx hb dX11_net_42 rfl (lv_at hl 0 rfl) ?_
  refine lv_if_eq (tgt := 51) hx hb dX11_net_43 (by decide) (fun h => absurd h (by decide)) (fun _ => ?_)
  refine lv_iload_n hx hb dX11_net_46 rfl (lv_at hl 0 rfl) ?_
  refine lv_bipush (v := 10) hx hb dX11_net_47 (by decide) ?_
  refine lv_isub hx hb dX11_net_49 ?_
  refine z_i (v := (-6)) (by decide +kernel) ?_
  exact e_i C hr w (fun _ => 0) [0, 1, 2, 3, 4, 5] rfl rfl rfl dX11_net_50 (by decide) (by decide)
set_option maxRecDepth 100000 in
set_option maxHeartbeats 4000000 in
theorem k31_net {l : Launch} {s0 : State} {a0 : Array Value} {G : GT} (b0 : B0 l s0 a0 G) (q0 q1 q2 q3 q4 q5 q6 q7 q8 q9 q10 q11 q12 q13 q14 q15 q16 q17 q18 q19 q20 q21 q22 q23 q24 q25 : Nat) (x0 : Int32) (h0 : ¬ 0 < x0) (h1 : ¬ x0 < 0) (sz : Nat) : Kh l s0 G yL_net cL_net 4 (some .int) [(0, 9, 12, 13)] { frames := 4, cells := 0, slots := 0, locals := 90 } [.ref q0, .int x0, .ref q6] [(q0, .inr (11, [.ref q7, .ref q1, .ref q8, .ref q9, .ref q10, .ref q11, .ref q12, .ref q13, .ref q14, .ref q2, .int 0, .int (-1), .int 0, .int 0, .null, .null, .null, .null, .null])), (q1, .inr (3, [.int (-1), .int 0, .null, .int 0, .int 0, .int 0, .int 0, .int 0, .int 0, .int 0, .null])), (q2, .inr (2, [.int 0, .int 0, .ref q15, .ref q16, .ref q17, .ref q18, .ref q3, .ref q4, .ref q5, .ref q19, .ref q20, .ref q21, .ref q22, .ref q23, .ref q24, .ref q25, .int 0])), (q3, .inl (G.2.1, 64, .inl (fun _ => 0))), (q4, .inl (G.2.1, 64, .inl (fun _ => 0))), (q5, .inl (G.2.1, 64, .inl (fun _ => 0))), (q6, .inl (G.2.2.1, 1, .inr (.inl (fun _ => 0))))] sz 0 (fun u => [(q0, .inr (11, [.ref q7, .ref q1, .ref q8, .ref q9, .ref q10, .ref q11, .ref q12, .ref q13, .ref q14, .ref q2, .int 0, .int x0, .int 0, .int 0, .null, .null, .null, .null, .null])), (q1, .inr (3, [.int x0, .int 4, .ref q7, .int x0, .int 0, .int 0, .int 0, .int 0, .int 0, .int 0, .ref q2])), (q2, .inr (2, [.int 0, .int 0, .ref q15, .ref q16, .ref q17, .ref q18, .ref q3, .ref q4, .ref q5, .ref q19, .ref q20, .ref q21, .ref q22, .ref q23, .ref q24, .ref q25, .int 0])), (q3, .inl (G.2.1, 64, .inl (fun _ => 0))), (q4, .inl (G.2.1, 64, .inl (fun _ => 0))), (q5, .inl (G.2.1, 64, .inl (fun _ => 0))), (q6, .inl (G.2.2.1, 1, .inr (.inl (vp_updL (fun _ => 0) 0 (-6)))))]) := by
  refine Kh.of b0 (own := RL) (nm := "net") [(0, .ref q0), (1, .int x0), (2, .ref q6)] rfl rfl (by decide +kernel) (Nat.le_of_ble_eq_true rfl) rfl ?_
  intro p e s m below meth c A C hr ht H locs w ls hl
  have hx := C.hx
  have hb := C.hb
  refine lv_aload_n hx hb dL_net_0 rfl (lv_at hl 2 rfl) ?_
  refine lv_iconst (v := 0) hx hb dL_net_1 (by decide) ?_
  refine lv_aload_n hx hb dL_net_2 rfl (lv_at hl 0 rfl) ?_
  refine lv_iload_n hx hb dL_net_3 rfl (lv_at hl 1 rfl) ?_
  refine fin_i C w (run_V C w mv_L_7 (k30_net C.b0 q0 q1 q2 q3 q4 q5 q7 q8 q9 q10 q11 q12 q13 q14 q15 q16 q17 q18 q19 q20 q21 q22 q23 q24 q25 x0 h0 h1 H.size) [0, 1, 2, 3, 4, 5] rfl rfl 0 rfl rfl (by decide) rfl hl.1 rfl (Nat.le_of_ble_eq_true rfl) dL_net_4 (cells2 := 0) (slots2 := 0) (by decide)) [0, 1, 2, 3, 4, 5] [6] rfl rfl (by decide) (cells2 := 0) (slots2 := 0) (by decide) (fun u1 H locs w => ?_)
  have w : Wd s G A [(q6, .inl (G.2.2.1, 1, .inr (.inl (fun _ => 0)))), (q0, .inr (11, [.ref q7, .ref q1, .ref q8, .ref q9, .ref q10, .ref q11, .ref q12, .ref q13, .ref q14, .ref q2, .int 0, .int x0, .int 0, .int 0, .null, .null, .null, .null, .null])), (q1, .inr (3, [.int x0, .int 4, .ref q7, .int x0, .int 0, .int 0, .int 0, .int 0, .int 0, .int 0, .ref q2])), (q2, .inr (2, [.int 0, .int 0, .ref q15, .ref q16, .ref q17, .ref q18, .ref q3, .ref q4, .ref q5, .ref q19, .ref q20, .ref q21, .ref q22, .ref q23, .ref q24, .ref q25, .int 0])), (q3, .inl (G.2.1, 64, .inl (fun _ => 0))), (q4, .inl (G.2.1, 64, .inl (fun _ => 0))), (q5, .inl (G.2.1, 64, .inl (fun _ => 0)))] H locs := w
  refine lv_i2l (v := (-6)) hx hb dL_net_7 (by decide +kernel) ?_
  refine r_last C w 0 rfl (IX.of (k := 0) (by decide +kernel)) (g := (vp_updL (fun _ => 0) 0 (-6))) rfl dL_net_8 (ws2 := [(q6, .inl (G.2.2.1, 1, .inr (.inl (vp_updL (fun _ => 0) 0 (-6))))), (q0, .inr (11, [.ref q7, .ref q1, .ref q8, .ref q9, .ref q10, .ref q11, .ref q12, .ref q13, .ref q14, .ref q2, .int 0, .int x0, .int 0, .int 0, .null, .null, .null, .null, .null])), (q1, .inr (3, [.int x0, .int 4, .ref q7, .int x0, .int 0, .int 0, .int 0, .int 0, .int 0, .int 0, .ref q2])), (q2, .inr (2, [.int 0, .int 0, .ref q15, .ref q16, .ref q17, .ref q18, .ref q3, .ref q4, .ref q5, .ref q19, .ref q20, .ref q21, .ref q22, .ref q23, .ref q24, .ref q25, .int 0])), (q3, .inl (G.2.1, 64, .inl (fun _ => 0))), (q4, .inl (G.2.1, 64, .inl (fun _ => 0))), (q5, .inl (G.2.1, 64, .inl (fun _ => 0)))]) rfl (fun H locs w => ?_)
  refine lv_goto (tgt := 15) hx hb dL_net_9 (by decide) ?_
  refine lv_iconst (v := 0) hx hb dL_net_15 (by decide) ?_
  exact e_i C hr w (fun _ => 0) [1, 2, 3, 4, 5, 6, 0] rfl rfl rfl dL_net_16 (by decide) (by decide)
set_option maxRecDepth 100000 in
set_option maxHeartbeats 4000000 in
theorem k32_may {l : Launch} {s0 : State} {a0 : Array Value} {G : GT} (b0 : B0 l s0 a0 G) (q0 q1 q2 q3 q4 q5 q6 q7 q8 q9 q10 q11 q12 q13 q14 q15 q16 q17 q18 q19 q20 q21 q22 q23 q24 q25 q26 q27 q28 q29 q30 q31 q32 q33 q34 q35 q36 q37 q38 q39 q40 q41 q42 : Nat) (sz : Nat) : Ki l s0 G yX12_may cX12_may 3 (some .boolean) { frames := 0, cells := 0, slots := 0, locals := 0 } [.ref q0, .int 1, .int 1] [(q0, .inr (12, [.int 0, .int 0, .int 0, .int 0, .int 0, .int 0, .int 0, .int (-1), .ref q1, .ref q2, .ref q3, .int 0, .ref q4, .ref q5, .ref q6, .ref q7, .ref q8, .ref q9, .ref q10, .int 0, .ref q11, .ref q12, .ref q13, .ref q14, .ref q15, .ref q16, .ref q17, .int 0, .int (-1), .int 0, .ref q18, .ref q19, .ref q20, .ref q21, .ref q22, .ref q23, .ref q24, .ref q25, .int 0, .ref q26, .ref q27, .ref q28, .ref q29, .ref q30, .int 0, .ref q31, .ref q32, .ref q33, .ref q34, .int 0, .ref q35, .ref q36, .ref q37, .ref q38, .int 0, .int 0, .ref q39, .ref q40, .ref q41, .ref q42]))] sz 1 (fun u => [(q0, .inr (12, [.int 0, .int 0, .int 0, .int 0, .int 0, .int 0, .int 0, .int (-1), .ref q1, .ref q2, .ref q3, .int 0, .ref q4, .ref q5, .ref q6, .ref q7, .ref q8, .ref q9, .ref q10, .int 0, .ref q11, .ref q12, .ref q13, .ref q14, .ref q15, .ref q16, .ref q17, .int 0, .int (-1), .int 0, .ref q18, .ref q19, .ref q20, .ref q21, .ref q22, .ref q23, .ref q24, .ref q25, .int 0, .ref q26, .ref q27, .ref q28, .ref q29, .ref q30, .int 0, .ref q31, .ref q32, .ref q33, .ref q34, .int 0, .ref q35, .ref q36, .ref q37, .ref q38, .int 0, .int 0, .ref q39, .ref q40, .ref q41, .ref q42]))]) := by
  refine Ki.of b0 (own := RX12) (nm := "may") [(0, .ref q0), (1, .int 1), (2, .int 1)] rfl rfl (by decide +kernel) (Nat.le_of_ble_eq_true rfl) rfl ?_
  intro p e s m below meth c A C hr H locs w ls hl
  have hx := C.hx
  have hb := C.hb
  refine lv_iload_n hx hb dX12_may_0 rfl (lv_at hl 1 rfl) ?_
  refine lv_if_ne (tgt := 16) hx hb dX12_may_1 (by decide) (fun _ => ?_) (fun h => h.elim (by decide))
  refine lv_aload_n hx hb dX12_may_16 rfl (lv_at hl 0 rfl) ?_
  refine r_get C w 0 rfl fr_X12_1 rfl dX12_may_17 ?_
  refine lv_if_ne (tgt := 27) hx hb dX12_may_20 (by decide) (fun h => absurd (by decide) h) (fun _ => ?_)
  refine lv_iconst (v := 1) hx hb dX12_may_23 (by decide) ?_
  refine lv_goto (tgt := 28) hx hb dX12_may_24 (by decide) ?_
  exact e_i C hr w (fun _ => 0) [0] rfl rfl (by decide) dX12_may_28 (by decide) (by decide)
set_option maxRecDepth 100000 in
set_option maxHeartbeats 4000000 in
theorem k33_fine {l : Launch} {s0 : State} {a0 : Array Value} {G : GT} (b0 : B0 l s0 a0 G) (q0 q1 q2 q3 q4 q5 q6 q7 q8 q9 q10 q11 q12 q13 q14 q15 q16 q17 q18 q19 q20 q21 q22 q23 q24 q25 q26 q27 q28 q29 q30 q31 q32 q33 q34 q35 q36 q37 q38 q39 q40 q41 q42 : Nat) (x0 : Int32) (sz : Nat) : Ki l s0 G yX12_fine cX12_fine 1 (some .boolean) { frames := 0, cells := 0, slots := 0, locals := 0 } [.ref q0] [(q0, .inr (12, [.int 0, .int 0, .int x0, .int 0, .int (-1), .int 0, .int 0, .int (-1), .ref q1, .ref q2, .ref q3, .int 0, .ref q4, .ref q5, .ref q6, .ref q7, .ref q8, .ref q9, .ref q10, .int 0, .ref q11, .ref q12, .ref q13, .ref q14, .ref q15, .ref q16, .ref q17, .int 0, .int (-1), .int 0, .ref q18, .ref q19, .ref q20, .ref q21, .ref q22, .ref q23, .ref q24, .ref q25, .int 0, .ref q26, .ref q27, .ref q28, .ref q29, .ref q30, .int 0, .ref q31, .ref q32, .ref q33, .ref q34, .int 0, .ref q35, .ref q36, .ref q37, .ref q38, .int 0, .int 0, .ref q39, .ref q40, .ref q41, .ref q42]))] sz 1 (fun u => [(q0, .inr (12, [.int 0, .int 0, .int x0, .int 0, .int (-1), .int 0, .int 0, .int (-1), .ref q1, .ref q2, .ref q3, .int 0, .ref q4, .ref q5, .ref q6, .ref q7, .ref q8, .ref q9, .ref q10, .int 0, .ref q11, .ref q12, .ref q13, .ref q14, .ref q15, .ref q16, .ref q17, .int 0, .int (-1), .int 0, .ref q18, .ref q19, .ref q20, .ref q21, .ref q22, .ref q23, .ref q24, .ref q25, .int 0, .ref q26, .ref q27, .ref q28, .ref q29, .ref q30, .int 0, .ref q31, .ref q32, .ref q33, .ref q34, .int 0, .ref q35, .ref q36, .ref q37, .ref q38, .int 0, .int 0, .ref q39, .ref q40, .ref q41, .ref q42]))]) := by
  refine Ki.of b0 (own := RX12) (nm := "fine") [(0, .ref q0)] rfl rfl (by decide +kernel) (Nat.le_of_ble_eq_true rfl) rfl ?_
  intro p e s m below meth c A C hr H locs w ls hl
  have hx := C.hx
  have hb := C.hb
  refine lv_aload_n hx hb dX12_fine_0 rfl (lv_at hl 0 rfl) ?_
  refine r_get C w 0 rfl fr_X12_151 rfl dX12_fine_1 ?_
  refine lv_iconst (v := (-1)) hx hb dX12_fine_4 (by decide) ?_
  refine lv_icmp_ne (tgt := 12) hx hb dX12_fine_5 (by decide) (fun h => absurd (by decide) h) (fun _ => ?_)
  refine lv_iconst (v := 1) hx hb dX12_fine_8 (by decide) ?_
  refine lv_goto (tgt := 13) hx hb dX12_fine_9 (by decide) ?_
  exact e_i C hr w (fun _ => 0) [0] rfl rfl (by decide) dX12_fine_13 (by decide) (by decide)
set_option maxRecDepth 100000 in
set_option maxHeartbeats 4000000 in
theorem k34_here {l : Launch} {s0 : State} {a0 : Array Value} {G : GT} (b0 : B0 l s0 a0 G) (q0 q1 q2 q3 q4 q5 q6 q7 q8 q9 q10 q11 q12 q13 q14 q15 q16 q17 q18 q19 q20 q21 q22 q23 q24 q25 q26 q27 q28 q29 q30 q31 q32 q33 q34 q35 q36 q37 q38 q39 q40 q41 q42 : Nat) (x0 : Int32) (h0 : ¬ 0 < x0) (sz : Nat) : Ki l s0 G yX12_here cX12_here 1 (some .int) { frames := 0, cells := 0, slots := 0, locals := 0 } [.ref q0] [(q0, .inr (12, [.int 0, .int 0, .int x0, .int 0, .int (-1), .int 0, .int 0, .int (-1), .ref q1, .ref q2, .ref q3, .int 0, .ref q4, .ref q5, .ref q6, .ref q7, .ref q8, .ref q9, .ref q10, .int 0, .ref q11, .ref q12, .ref q13, .ref q14, .ref q15, .ref q16, .ref q17, .int 0, .int (-1), .int 0, .ref q18, .ref q19, .ref q20, .ref q21, .ref q22, .ref q23, .ref q24, .ref q25, .int 0, .ref q26, .ref q27, .ref q28, .ref q29, .ref q30, .int 0, .ref q31, .ref q32, .ref q33, .ref q34, .int 0, .ref q35, .ref q36, .ref q37, .ref q38, .int 0, .int 0, .ref q39, .ref q40, .ref q41, .ref q42]))] sz 0 (fun u => [(q0, .inr (12, [.int 0, .int 0, .int x0, .int 0, .int (-1), .int 0, .int 0, .int (-1), .ref q1, .ref q2, .ref q3, .int 0, .ref q4, .ref q5, .ref q6, .ref q7, .ref q8, .ref q9, .ref q10, .int 0, .ref q11, .ref q12, .ref q13, .ref q14, .ref q15, .ref q16, .ref q17, .int 0, .int (-1), .int 0, .ref q18, .ref q19, .ref q20, .ref q21, .ref q22, .ref q23, .ref q24, .ref q25, .int 0, .ref q26, .ref q27, .ref q28, .ref q29, .ref q30, .int 0, .ref q31, .ref q32, .ref q33, .ref q34, .int 0, .ref q35, .ref q36, .ref q37, .ref q38, .int 0, .int 0, .ref q39, .ref q40, .ref q41, .ref q42]))]) := by
  refine Ki.of b0 (own := RX12) (nm := "here") [(0, .ref q0)] rfl rfl (by decide +kernel) (Nat.le_of_ble_eq_true rfl) rfl ?_
  intro p e s m below meth c A C hr H locs w ls hl
  have hx := C.hx
  have hb := C.hb
  refine lv_aload_n hx hb dX12_here_0 rfl (lv_at hl 0 rfl) ?_
  refine r_get C w 0 rfl fr_X12_157 rfl dX12_here_1 ?_
  refine lv_aload_n hx hb dX12_here_4 rfl (lv_at hl 0 rfl) ?_
  refine r_get C w 0 rfl fr_X12_160 rfl dX12_here_5 ?_
  refine lv_icmp_ge (tgt := 38) hx hb dX12_here_8 (by decide) (fun _ => ?_) (fun h => absurd (Int32.not_lt.mp h0) h)
  refine lv_aload_n hx hb dX12_here_38 rfl (lv_at hl 0 rfl) ?_
  refine r_get C w 0 rfl fr_X12_157 rfl dX12_here_39 ?_
  refine lv_aload_n hx hb dX12_here_42 rfl (lv_at hl 0 rfl) ?_
  refine r_get C w 0 rfl fr_X12_160 rfl dX12_here_43 ?_
  refine lv_icmp_ge (tgt := 61) hx hb dX12_here_46 (by decide) (fun _ => ?_) (fun h => absurd (Int32.not_lt.mp h0) h)
  refine lv_iconst (v := 0) hx hb dX12_here_61 (by decide) ?_
  exact e_i C hr w (fun _ => 0) [0] rfl rfl rfl dX12_here_62 (by decide) (by decide)
set_option maxRecDepth 100000 in
set_option maxHeartbeats 4000000 in
theorem k35_isMore {l : Launch} {s0 : State} {a0 : Array Value} {G : GT} (b0 : B0 l s0 a0 G) (q0 q1 q2 q3 q4 q5 q6 q7 q8 q9 q10 q11 q12 q13 q14 q15 q16 q17 q18 q19 q20 q21 q22 q23 q24 q25 q26 q27 q28 q29 q30 q31 q32 q33 q34 q35 q36 q37 q38 q39 q40 q41 q42 : Nat) (x0 : Int32) (h0 : ¬ 0 < x0) (sz : Nat) : Ki l s0 G yX12_isMore cX12_isMore 1 (some .boolean) { frames := 1, cells := 0, slots := 0, locals := 20 } [.ref q0] [(q0, .inr (12, [.int 0, .int 0, .int x0, .int 0, .int (-1), .int 0, .int 0, .int (-1), .ref q1, .ref q2, .ref q3, .int 0, .ref q4, .ref q5, .ref q6, .ref q7, .ref q8, .ref q9, .ref q10, .int 0, .ref q11, .ref q12, .ref q13, .ref q14, .ref q15, .ref q16, .ref q17, .int 0, .int (-1), .int 0, .ref q18, .ref q19, .ref q20, .ref q21, .ref q22, .ref q23, .ref q24, .ref q25, .int 0, .ref q26, .ref q27, .ref q28, .ref q29, .ref q30, .int 0, .ref q31, .ref q32, .ref q33, .ref q34, .int 0, .ref q35, .ref q36, .ref q37, .ref q38, .int 0, .int 0, .ref q39, .ref q40, .ref q41, .ref q42]))] sz 0 (fun u => [(q0, .inr (12, [.int 0, .int 0, .int x0, .int 0, .int (-1), .int 0, .int 0, .int (-1), .ref q1, .ref q2, .ref q3, .int 0, .ref q4, .ref q5, .ref q6, .ref q7, .ref q8, .ref q9, .ref q10, .int 0, .ref q11, .ref q12, .ref q13, .ref q14, .ref q15, .ref q16, .ref q17, .int 0, .int (-1), .int 0, .ref q18, .ref q19, .ref q20, .ref q21, .ref q22, .ref q23, .ref q24, .ref q25, .int 0, .ref q26, .ref q27, .ref q28, .ref q29, .ref q30, .int 0, .ref q31, .ref q32, .ref q33, .ref q34, .int 0, .ref q35, .ref q36, .ref q37, .ref q38, .int 0, .int 0, .ref q39, .ref q40, .ref q41, .ref q42]))]) := by
  refine Ki.of b0 (own := RX12) (nm := "isMore") [(0, .ref q0)] rfl rfl (by decide +kernel) (Nat.le_of_ble_eq_true rfl) rfl ?_
  intro p e s m below meth c A C hr H locs w ls hl
  have hx := C.hx
  have hb := C.hb
  refine lv_aload_n hx hb dX12_isMore_0 rfl (lv_at hl 0 rfl) ?_
  refine fin_i C w (run_V C w mv_X12_163 (k34_here C.b0 q0 q1 q2 q3 q4 q5 q6 q7 q8 q9 q10 q11 q12 q13 q14 q15 q16 q17 q18 q19 q20 q21 q22 q23 q24 q25 q26 q27 q28 q29 q30 q31 q32 q33 q34 q35 q36 q37 q38 q39 q40 q41 q42 x0 h0 H.size) [0] rfl rfl 0 rfl rfl (by decide) rfl hl.1 rfl (Nat.le_of_ble_eq_true rfl) dX12_isMore_1 (cells2 := 0) (slots2 := 0) (by decide)) [0] [] rfl rfl (by decide) (cells2 := 0) (slots2 := 0) (by decide) (fun u1 H locs w => ?_)
  have w : Wd s G A [(q0, .inr (12, [.int 0, .int 0, .int x0, .int 0, .int (-1), .int 0, .int 0, .int (-1), .ref q1, .ref q2, .ref q3, .int 0, .ref q4, .ref q5, .ref q6, .ref q7, .ref q8, .ref q9, .ref q10, .int 0, .ref q11, .ref q12, .ref q13, .ref q14, .ref q15, .ref q16, .ref q17, .int 0, .int (-1), .int 0, .ref q18, .ref q19, .ref q20, .ref q21, .ref q22, .ref q23, .ref q24, .ref q25, .int 0, .ref q26, .ref q27, .ref q28, .ref q29, .ref q30, .int 0, .ref q31, .ref q32, .ref q33, .ref q34, .int 0, .ref q35, .ref q36, .ref q37, .ref q38, .int 0, .int 0, .ref q39, .ref q40, .ref q41, .ref q42]))] H locs := w
  refine lv_pop hx hb dX12_isMore_4 rfl ?_
  refine lv_aload_n hx hb dX12_isMore_5 rfl (lv_at hl 0 rfl) ?_
  refine r_get C w 0 rfl fr_X12_157 rfl dX12_isMore_6 ?_
  refine lv_aload_n hx hb dX12_isMore_9 rfl (lv_at hl 0 rfl) ?_
  refine r_get C w 0 rfl fr_X12_160 rfl dX12_isMore_10 ?_
  refine lv_icmp_ge (tgt := 20) hx hb dX12_isMore_13 (by decide) (fun _ => ?_) (fun h => absurd (Int32.not_lt.mp h0) h)
  refine lv_iconst (v := 0) hx hb dX12_isMore_20 (by decide) ?_
  exact e_i C hr w (fun _ => 0) [0] rfl rfl (by decide) dX12_isMore_21 (by decide) (by decide)
set_option maxRecDepth 100000 in
set_option maxHeartbeats 4000000 in
theorem k36_wrong {l : Launch} {s0 : State} {a0 : Array Value} {G : GT} (b0 : B0 l s0 a0 G) (q0 q1 q2 q3 q4 q5 q6 q7 q8 q9 q10 q11 q12 q13 q14 q15 q16 q17 q18 q19 q20 q21 q22 q23 q24 q25 q26 q27 q28 q29 q30 q31 q32 q33 q34 q35 q36 q37 q38 q39 q40 q41 q42 : Nat) (x0 : Int32) (sz : Nat) : Kv l s0 G yX12_wrong cX12_wrong 3 none { frames := 0, cells := 0, slots := 0, locals := 0 } [.ref q0, .int 4, .int x0] [(q0, .inr (12, [.int 0, .int 0, .int x0, .int 0, .int (-1), .int 0, .int 0, .int (-1), .ref q1, .ref q2, .ref q3, .int 0, .ref q4, .ref q5, .ref q6, .ref q7, .ref q8, .ref q9, .ref q10, .int 0, .ref q11, .ref q12, .ref q13, .ref q14, .ref q15, .ref q16, .ref q17, .int 0, .int (-1), .int 0, .ref q18, .ref q19, .ref q20, .ref q21, .ref q22, .ref q23, .ref q24, .ref q25, .int 0, .ref q26, .ref q27, .ref q28, .ref q29, .ref q30, .int 0, .ref q31, .ref q32, .ref q33, .ref q34, .int 0, .ref q35, .ref q36, .ref q37, .ref q38, .int 0, .int 0, .ref q39, .ref q40, .ref q41, .ref q42]))] sz (fun u => [(q0, .inr (12, [.int 0, .int 0, .int x0, .int 0, .int x0, .int 4, .int 0, .int (-1), .ref q1, .ref q2, .ref q3, .int 0, .ref q4, .ref q5, .ref q6, .ref q7, .ref q8, .ref q9, .ref q10, .int 0, .ref q11, .ref q12, .ref q13, .ref q14, .ref q15, .ref q16, .ref q17, .int 0, .int (-1), .int 0, .ref q18, .ref q19, .ref q20, .ref q21, .ref q22, .ref q23, .ref q24, .ref q25, .int 0, .ref q26, .ref q27, .ref q28, .ref q29, .ref q30, .int 0, .ref q31, .ref q32, .ref q33, .ref q34, .int 0, .ref q35, .ref q36, .ref q37, .ref q38, .int 0, .int 0, .ref q39, .ref q40, .ref q41, .ref q42]))]) := by
  refine Kv.of b0 (own := RX12) (nm := "wrong") [(0, .ref q0), (1, .int 4), (2, .int x0)] rfl rfl (by decide +kernel) (Nat.le_of_ble_eq_true rfl) rfl ?_
  intro p e s m below meth c A C hr H locs w ls hl
  have hx := C.hx
  have hb := C.hb
  refine lv_aload_n hx hb dX12_wrong_0 rfl (lv_at hl 0 rfl) ?_
  refine r_get C w 0 rfl fr_X12_151 rfl dX12_wrong_1 ?_
  refine lv_iconst (v := (-1)) hx hb dX12_wrong_4 (by decide) ?_
  refine lv_icmp_eq (tgt := 9) hx hb dX12_wrong_5 (by decide) (fun _ => ?_) (fun h => absurd (by decide) h)
  refine lv_aload_n hx hb dX12_wrong_9 rfl (lv_at hl 0 rfl) ?_
  refine lv_iload_n hx hb dX12_wrong_10 rfl (lv_at hl 2 rfl) ?_
  refine r_put C w 0 rfl fl_X12_151 (Nat.le_of_ble_eq_true rfl) rfl rfl dX12_wrong_11 (ws2 := [(q0, .inr (12, [.int 0, .int 0, .int x0, .int 0, .int x0, .int 0, .int 0, .int (-1), .ref q1, .ref q2, .ref q3, .int 0, .ref q4, .ref q5, .ref q6, .ref q7, .ref q8, .ref q9, .ref q10, .int 0, .ref q11, .ref q12, .ref q13, .ref q14, .ref q15, .ref q16, .ref q17, .int 0, .int (-1), .int 0, .ref q18, .ref q19, .ref q20, .ref q21, .ref q22, .ref q23, .ref q24, .ref q25, .int 0, .ref q26, .ref q27, .ref q28, .ref q29, .ref q30, .int 0, .ref q31, .ref q32, .ref q33, .ref q34, .int 0, .ref q35, .ref q36, .ref q37, .ref q38, .int 0, .int 0, .ref q39, .ref q40, .ref q41, .ref q42]))]) rfl (fun H locs w => ?_)
  refine lv_aload_n hx hb dX12_wrong_14 rfl (lv_at hl 0 rfl) ?_
  refine lv_iload_n hx hb dX12_wrong_15 rfl (lv_at hl 1 rfl) ?_
  refine r_put C w 0 rfl fl_X12_154 (Nat.le_of_ble_eq_true rfl) rfl rfl dX12_wrong_16 (ws2 := [(q0, .inr (12, [.int 0, .int 0, .int x0, .int 0, .int x0, .int 4, .int 0, .int (-1), .ref q1, .ref q2, .ref q3, .int 0, .ref q4, .ref q5, .ref q6, .ref q7, .ref q8, .ref q9, .ref q10, .int 0, .ref q11, .ref q12, .ref q13, .ref q14, .ref q15, .ref q16, .ref q17, .int 0, .int (-1), .int 0, .ref q18, .ref q19, .ref q20, .ref q21, .ref q22, .ref q23, .ref q24, .ref q25, .int 0, .ref q26, .ref q27, .ref q28, .ref q29, .ref q30, .int 0, .ref q31, .ref q32, .ref q33, .ref q34, .int 0, .ref q35, .ref q36, .ref q37, .ref q38, .int 0, .int 0, .ref q39, .ref q40, .ref q41, .ref q42]))]) rfl (fun H locs w => ?_)
  exact e_v C hr w (fun _ => 0) [0] rfl rfl dX12_wrong_19 (by decide) (by decide)
set_option maxRecDepth 100000 in
set_option maxHeartbeats 4000000 in
theorem k37_fine {l : Launch} {s0 : State} {a0 : Array Value} {G : GT} (b0 : B0 l s0 a0 G) (q0 q1 q2 q3 q4 q5 q6 q7 q8 q9 q10 q11 q12 q13 q14 q15 q16 q17 q18 q19 q20 q21 q22 q23 q24 q25 q26 q27 q28 q29 q30 q31 q32 q33 q34 q35 q36 q37 q38 q39 q40 q41 q42 : Nat) (x0 : Int32) (h0 : ¬ x0 < 0) (sz : Nat) : Ki l s0 G yX12_fine cX12_fine 1 (some .boolean) { frames := 0, cells := 0, slots := 0, locals := 0 } [.ref q0] [(q0, .inr (12, [.int 0, .int 0, .int x0, .int 0, .int x0, .int 4, .int 0, .int x0, .ref q1, .ref q2, .ref q3, .int 0, .ref q4, .ref q5, .ref q6, .ref q7, .ref q8, .ref q9, .ref q10, .int 0, .ref q11, .ref q12, .ref q13, .ref q14, .ref q15, .ref q16, .ref q17, .int 0, .int (-1), .int 0, .ref q18, .ref q19, .ref q20, .ref q21, .ref q22, .ref q23, .ref q24, .ref q25, .int 0, .ref q26, .ref q27, .ref q28, .ref q29, .ref q30, .int 0, .ref q31, .ref q32, .ref q33, .ref q34, .int 0, .ref q35, .ref q36, .ref q37, .ref q38, .int 0, .int 0, .ref q39, .ref q40, .ref q41, .ref q42]))] sz 0 (fun u => [(q0, .inr (12, [.int 0, .int 0, .int x0, .int 0, .int x0, .int 4, .int 0, .int x0, .ref q1, .ref q2, .ref q3, .int 0, .ref q4, .ref q5, .ref q6, .ref q7, .ref q8, .ref q9, .ref q10, .int 0, .ref q11, .ref q12, .ref q13, .ref q14, .ref q15, .ref q16, .ref q17, .int 0, .int (-1), .int 0, .ref q18, .ref q19, .ref q20, .ref q21, .ref q22, .ref q23, .ref q24, .ref q25, .int 0, .ref q26, .ref q27, .ref q28, .ref q29, .ref q30, .int 0, .ref q31, .ref q32, .ref q33, .ref q34, .int 0, .ref q35, .ref q36, .ref q37, .ref q38, .int 0, .int 0, .ref q39, .ref q40, .ref q41, .ref q42]))]) := by
  refine Ki.of b0 (own := RX12) (nm := "fine") [(0, .ref q0)] rfl rfl (by decide +kernel) (Nat.le_of_ble_eq_true rfl) rfl ?_
  intro p e s m below meth c A C hr H locs w ls hl
  have hx := C.hx
  have hb := C.hb
  refine lv_aload_n hx hb dX12_fine_0 rfl (lv_at hl 0 rfl) ?_
  refine r_get C w 0 rfl fr_X12_151 rfl dX12_fine_1 ?_
  refine lv_iconst (v := (-1)) hx hb dX12_fine_4 (by decide) ?_
  refine lv_icmp_ne (tgt := 12) hx hb dX12_fine_5 (by decide) (fun _ => ?_) (fun h => h.elim (kne1 (kl2 (L := 0) (a := (-1)) h0 (by decide))))
  refine lv_iconst (v := 0) hx hb dX12_fine_12 (by decide) ?_
  exact e_i C hr w (fun _ => 0) [0] rfl rfl (by decide) dX12_fine_13 (by decide) (by decide)
set_option maxRecDepth 100000 in
set_option maxHeartbeats 4000000 in
theorem k38_net {l : Launch} {s0 : State} {a0 : Array Value} {G : GT} (b0 : B0 l s0 a0 G) (q0 q1 q2 q3 q4 q5 q6 q7 q8 q9 q10 q11 q12 q13 q14 q15 q16 q17 q18 q19 q20 q21 q22 q23 q24 q25 q26 q27 q28 q29 q30 q31 q32 q33 q34 q35 q36 q37 q38 q39 q40 q41 q42 : Nat) (x0 : Int32) (h0 : ¬ 0 < x0) (h1 : ¬ x0 < 0) (sz : Nat) : Ki l s0 G yX12_net cX12_net 4 (some .int) { frames := 2, cells := 0, slots := 0, locals := 40 } [.ref q0, .int x0] [(q0, .inr (12, [.int 0, .int 0, .int 0, .int 0, .int 0, .int 0, .int 0, .int (-1), .ref q2, .ref q3, .ref q1, .int 0, .ref q4, .ref q5, .ref q6, .ref q7, .ref q8, .ref q9, .ref q10, .int 0, .ref q11, .ref q12, .ref q13, .ref q14, .ref q15, .ref q16, .ref q17, .int 0, .int (-1), .int 0, .ref q18, .ref q19, .ref q20, .ref q21, .ref q22, .ref q23, .ref q24, .ref q25, .int 0, .ref q26, .ref q27, .ref q28, .ref q29, .ref q30, .int 0, .ref q31, .ref q32, .ref q33, .ref q34, .int 0, .ref q35, .ref q36, .ref q37, .ref q38, .int 0, .int 0, .ref q39, .ref q40, .ref q41, .ref q42])), (q1, .inl (G.2.1, 242, .inl (fun _ => 0)))] sz (-6) (fun u => [(q0, .inr (12, [.int 0, .int 0, .int x0, .int 0, .int x0, .int 4, .int 0, .int x0, .ref q2, .ref q3, .ref q1, .int 0, .ref q4, .ref q5, .ref q6, .ref q7, .ref q8, .ref q9, .ref q10, .int 0, .ref q11, .ref q12, .ref q13, .ref q14, .ref q15, .ref q16, .ref q17, .int 0, .int (-1), .int 0, .ref q18, .ref q19, .ref q20, .ref q21, .ref q22, .ref q23, .ref q24, .ref q25, .int 0, .ref q26, .ref q27, .ref q28, .ref q29, .ref q30, .int 0, .ref q31, .ref q32, .ref q33, .ref q34, .int 0, .ref q35, .ref q36, .ref q37, .ref q38, .int 0, .int 0, .ref q39, .ref q40, .ref q41, .ref q42])), (q1, .inl (G.2.1, 242, .inl (fun _ => 0)))]) := by
  refine Ki.of b0 (own := RX12) (nm := "net") [(0, .ref q0), (1, .int x0)] rfl rfl (by decide +kernel) (Nat.le_of_ble_eq_true rfl) rfl ?_
  intro p e s m below meth c A C hr H locs w ls hl
  have hx := C.hx
  have hb := C.hb
  refine lv_aload_n hx hb dX12_net_0 rfl (lv_at hl 0 rfl) ?_
  refine lv_iconst (v := 0) hx hb dX12_net_1 (by decide) ?_
  refine r_put C w 0 rfl fl_X12_1 (Nat.le_of_ble_eq_true rfl) rfl rfl dX12_net_2 (ws2 := [(q0, .inr (12, [.int 0, .int 0, .int 0, .int 0, .int 0, .int 0, .int 0, .int (-1), .ref q2, .ref q3, .ref q1, .int 0, .ref q4, .ref q5, .ref q6, .ref q7, .ref q8, .ref q9, .ref q10, .int 0, .ref q11, .ref q12, .ref q13, .ref q14, .ref q15, .ref q16, .ref q17, .int 0, .int (-1), .int 0, .ref q18, .ref q19, .ref q20, .ref q21, .ref q22, .ref q23, .ref q24, .ref q25, .int 0, .ref q26, .ref q27, .ref q28, .ref q29, .ref q30, .int 0, .ref q31, .ref q32, .ref q33, .ref q34, .int 0, .ref q35, .ref q36, .ref q37, .ref q38, .int 0, .int 0, .ref q39, .ref q40, .ref q41, .ref q42])), (q1, .inl (G.2.1, 242, .inl (fun _ => 0)))]) rfl (fun H locs w => ?_)
  refine lv_aload_n hx hb dX12_net_5 rfl (lv_at hl 0 rfl) ?_
  refine lv_iload_n hx hb dX12_net_6 rfl (lv_at hl 1 rfl) ?_
  refine lv_if_lt (tgt := 22) hx hb dX12_net_7 (by decide) (fun h => absurd h h1) (fun _ => ?_)
  refine lv_iload_n hx hb dX12_net_10 rfl (lv_at hl 1 rfl) ?_
  refine lv_aload_n hx hb dX12_net_11 rfl (lv_at hl 0 rfl) ?_
  refine r_get C w 0 rfl fr_X12_148 rfl dX12_net_12 ?_
  refine lv_icmp_gt (tgt := 22) hx hb dX12_net_15 (by decide) (fun h => absurd h h0) (fun _ => ?_)
  refine lv_iconst (v := 1) hx hb dX12_net_18 (by decide) ?_
  refine lv_goto (tgt := 23) hx hb dX12_net_19 (by decide) ?_
  refine lv_iconst (v := 1) hx hb dX12_net_23 (by decide) ?_
  refine fin_i C w (run_V C w mv_X12_267 (k32_may C.b0 q0 q2 q3 q1 q4 q5 q6 q7 q8 q9 q10 q11 q12 q13 q14 q15 q16 q17 q18 q19 q20 q21 q22 q23 q24 q25 q26 q27 q28 q29 q30 q31 q32 q33 q34 q35 q36 q37 q38 q39 q40 q41 q42 H.size) [0] rfl rfl 0 rfl rfl (by decide) rfl hl.1 rfl (Nat.le_of_ble_eq_true rfl) dX12_net_24 (cells2 := 0) (slots2 := 0) (by decide)) [0] [1] rfl rfl (by decide) (cells2 := 0) (slots2 := 0) (by decide) (fun u1 H locs w => ?_)
  have w : Wd s G A [(q1, .inl (G.2.1, 242, .inl (fun _ => 0))), (q0, .inr (12, [.int 0, .int 0, .int 0, .int 0, .int 0, .int 0, .int 0, .int (-1), .ref q2, .ref q3, .ref q1, .int 0, .ref q4, .ref q5, .ref q6, .ref q7, .ref q8, .ref q9, .ref q10, .int 0, .ref q11, .ref q12, .ref q13, .ref q14, .ref q15, .ref q16, .ref q17, .int 0, .int (-1), .int 0, .ref q18, .ref q19, .ref q20, .ref q21, .ref q22, .ref q23, .ref q24, .ref q25, .int 0, .ref q26, .ref q27, .ref q28, .ref q29, .ref q30, .int 0, .ref q31, .ref q32, .ref q33, .ref q34, .int 0, .ref q35, .ref q36, .ref q37, .ref q38, .int 0, .int 0, .ref q39, .ref q40, .ref q41, .ref q42]))] H locs := w
  refine lv_if_ne (tgt := 32) hx hb dX12_net_27 (by decide) (fun _ => ?_) (fun h => h.elim (by decide))
  refine lv_aload_n hx hb dX12_net_32 rfl (lv_at hl 0 rfl) ?_
  refine lv_iconst (v := 0) hx hb dX12_net_33 (by decide) ?_
  refine r_put C w 1 rfl fl_X12_148 (Nat.le_of_ble_eq_true rfl) rfl rfl dX12_net_34 (ws2 := [(q1, .inl (G.2.1, 242, .inl (fun _ => 0))), (q0, .inr (12, [.int 0, .int 0, .int 0, .int 0, .int 0, .int 0, .int 0, .int (-1), .ref q2, .ref q3, .ref q1, .int 0, .ref q4, .ref q5, .ref q6, .ref q7, .ref q8, .ref q9, .ref q10, .int 0, .ref q11, .ref q12, .ref q13, .ref q14, .ref q15, .ref q16, .ref q17, .int 0, .int (-1), .int 0, .ref q18, .ref q19, .ref q20, .ref q21, .ref q22, .ref q23, .ref q24, .ref q25, .int 0, .ref q26, .ref q27, .ref q28, .ref q29, .ref q30, .int 0, .ref q31, .ref q32, .ref q33, .ref q34, .int 0, .ref q35, .ref q36, .ref q37, .ref q38, .int 0, .int 0, .ref q39, .ref q40, .ref q41, .ref q42]))]) rfl (fun H locs w => ?_)
  refine lv_aload_n hx hb dX12_net_37 rfl (lv_at hl 0 rfl) ?_
  refine lv_iload_n hx hb dX12_net_38 rfl (lv_at hl 1 rfl) ?_
  refine r_put C w 1 rfl fl_X12_160 (Nat.le_of_ble_eq_true rfl) rfl rfl dX12_net_39 (ws2 := [(q1, .inl (G.2.1, 242, .inl (fun _ => 0))), (q0, .inr (12, [.int 0, .int 0, .int x0, .int 0, .int 0, .int 0, .int 0, .int (-1), .ref q2, .ref q3, .ref q1, .int 0, .ref q4, .ref q5, .ref q6, .ref q7, .ref q8, .ref q9, .ref q10, .int 0, .ref q11, .ref q12, .ref q13, .ref q14, .ref q15, .ref q16, .ref q17, .int 0, .int (-1), .int 0, .ref q18, .ref q19, .ref q20, .ref q21, .ref q22, .ref q23, .ref q24, .ref q25, .int 0, .ref q26, .ref q27, .ref q28, .ref q29, .ref q30, .int 0, .ref q31, .ref q32, .ref q33, .ref q34, .int 0, .ref q35, .ref q36, .ref q37, .ref q38, .int 0, .int 0, .ref q39, .ref q40, .ref q41, .ref q42]))]) rfl (fun H locs w => ?_)
  refine lv_aload_n hx hb dX12_net_42 rfl (lv_at hl 0 rfl) ?_
  refine lv_iconst (v := 0) hx hb dX12_net_43 (by decide) ?_
  refine r_put C w 1 rfl fl_X12_157 (Nat.le_of_ble_eq_true rfl) rfl rfl dX12_net_44 (ws2 := [(q1, .inl (G.2.1, 242, .inl (fun _ => 0))), (q0, .inr (12, [.int 0, .int 0, .int x0, .int 0, .int 0, .int 0, .int 0, .int (-1), .ref q2, .ref q3, .ref q1, .int 0, .ref q4, .ref q5, .ref q6, .ref q7, .ref q8, .ref q9, .ref q10, .int 0, .ref q11, .ref q12, .ref q13, .ref q14, .ref q15, .ref q16, .ref q17, .int 0, .int (-1), .int 0, .ref q18, .ref q19, .ref q20, .ref q21, .ref q22, .ref q23, .ref q24, .ref q25, .int 0, .ref q26, .ref q27, .ref q28, .ref q29, .ref q30, .int 0, .ref q31, .ref q32, .ref q33, .ref q34, .int 0, .ref q35, .ref q36, .ref q37, .ref q38, .int 0, .int 0, .ref q39, .ref q40, .ref q41, .ref q42]))]) rfl (fun H locs w => ?_)
  refine lv_aload_n hx hb dX12_net_47 rfl (lv_at hl 0 rfl) ?_
  refine lv_iconst (v := (-1)) hx hb dX12_net_48 (by decide) ?_
  refine r_put C w 1 rfl fl_X12_151 (Nat.le_of_ble_eq_true rfl) rfl rfl dX12_net_49 (ws2 := [(q1, .inl (G.2.1, 242, .inl (fun _ => 0))), (q0, .inr (12, [.int 0, .int 0, .int x0, .int 0, .int (-1), .int 0, .int 0, .int (-1), .ref q2, .ref q3, .ref q1, .int 0, .ref q4, .ref q5, .ref q6, .ref q7, .ref q8, .ref q9, .ref q10, .int 0, .ref q11, .ref q12, .ref q13, .ref q14, .ref q15, .ref q16, .ref q17, .int 0, .int (-1), .int 0, .ref q18, .ref q19, .ref q20, .ref q21, .ref q22, .ref q23, .ref q24, .ref q25, .int 0, .ref q26, .ref q27, .ref q28, .ref q29, .ref q30, .int 0, .ref q31, .ref q32, .ref q33, .ref q34, .int 0, .ref q35, .ref q36, .ref q37, .ref q38, .int 0, .int 0, .ref q39, .ref q40, .ref q41, .ref q42]))]) rfl (fun H locs w => ?_)
  refine lv_aload_n hx hb dX12_net_52 rfl (lv_at hl 0 rfl) ?_
  refine lv_iconst (v := 0) hx hb dX12_net_53 (by decide) ?_
  refine r_put C w 1 rfl fl_X12_194 (Nat.le_of_ble_eq_true rfl) rfl rfl dX12_net_54 (ws2 := [(q1, .inl (G.2.1, 242, .inl (fun _ => 0))), (q0, .inr (12, [.int 0, .int 0, .int x0, .int 0, .int (-1), .int 0, .int 0, .int (-1), .ref q2, .ref q3, .ref q1, .int 0, .ref q4, .ref q5, .ref q6, .ref q7, .ref q8, .ref q9, .ref q10, .int 0, .ref q11, .ref q12, .ref q13, .ref q14, .ref q15, .ref q16, .ref q17, .int 0, .int (-1), .int 0, .ref q18, .ref q19, .ref q20, .ref q21, .ref q22, .ref q23, .ref q24, .ref q25, .int 0, .ref q26, .ref q27, .ref q28, .ref q29, .ref q30, .int 0, .ref q31, .ref q32, .ref q33, .ref q34, .int 0, .ref q35, .ref q36, .ref q37, .ref q38, .int 0, .int 0, .ref q39, .ref q40, .ref q41, .ref q42]))]) rfl (fun H locs w => ?_)
  refine lv_aload_n hx hb dX12_net_57 rfl (lv_at hl 0 rfl) ?_
  refine lv_iconst (v := 0) hx hb dX12_net_58 (by decide) ?_
  refine r_put C w 1 rfl fl_X12_191 (Nat.le_of_ble_eq_true rfl) rfl rfl dX12_net_59 (ws2 := [(q1, .inl (G.2.1, 242, .inl (fun _ => 0))), (q0, .inr (12, [.int 0, .int 0, .int x0, .int 0, .int (-1), .int 0, .int 0, .int (-1), .ref q2, .ref q3, .ref q1, .int 0, .ref q4, .ref q5, .ref q6, .ref q7, .ref q8, .ref q9, .ref q10, .int 0, .ref q11, .ref q12, .ref q13, .ref q14, .ref q15, .ref q16, .ref q17, .int 0, .int (-1), .int 0, .ref q18, .ref q19, .ref q20, .ref q21, .ref q22, .ref q23, .ref q24, .ref q25, .int 0, .ref q26, .ref q27, .ref q28, .ref q29, .ref q30, .int 0, .ref q31, .ref q32, .ref q33, .ref q34, .int 0, .ref q35, .ref q36, .ref q37, .ref q38, .int 0, .int 0, .ref q39, .ref q40, .ref q41, .ref q42]))]) rfl (fun H locs w => ?_)
  refine lv_iconst (v := 0) hx hb dX12_net_62 (by decide) ?_
  refine lv_istore_n (lv' := [(2, .int 0), (0, .ref q0), (1, .int x0)]) hx hb dX12_net_63 rfl hl (by decide) rfl (fun ls hl => ?_)
  refine lp_fill (h := 64) (N := 242) (Nv := 242) (cv := 0) (lvr := [(0, .ref q0), (1, .int x0)]) (qo := 1) (qa := 0) C w (lv_sub hl [0, 1, 2] rfl) (by decide) (by decide +kernel) (by decide +kernel) (by decide +kernel) dX12_net_64 dX12_net_65 dX12_net_68 dX12_net_71 dX12_net_72 dX12_net_75 dX12_net_76 dX12_net_77 dX12_net_78 dX12_net_81 fr_X12_23 rfl rfl rfl (by decide) rfl rfl (by decide) (fun H locs ls w hl => ?_)
  have w : Wd s G A [(q1, .inl (G.2.1, 242, .inl (fun _ => 0))), (q0, .inr (12, [.int 0, .int 0, .int x0, .int 0, .int (-1), .int 0, .int 0, .int (-1), .ref q2, .ref q3, .ref q1, .int 0, .ref q4, .ref q5, .ref q6, .ref q7, .ref q8, .ref q9, .ref q10, .int 0, .ref q11, .ref q12, .ref q13, .ref q14, .ref q15, .ref q16, .ref q17, .int 0, .int (-1), .int 0, .ref q18, .ref q19, .ref q20, .ref q21, .ref q22, .ref q23, .ref q24, .ref q25, .int 0, .ref q26, .ref q27, .ref q28, .ref q29, .ref q30, .int 0, .ref q31, .ref q32, .ref q33, .ref q34, .int 0, .ref q35, .ref q36, .ref q37, .ref q38, .int 0, .int 0, .ref q39, .ref q40, .ref q41, .ref q42]))] H locs := w
  refine lv_iconst (v := 0) hx hb dX12_net_84 (by decide) ?_
  refine lv_istore_n (lv' := [(2, .int 0), (0, .ref q0), (1, .int x0)]) hx hb dX12_net_85 rfl hl (by decide) rfl (fun ls hl => ?_)
  refine lv_aload_n hx hb dX12_net_86 rfl (lv_at hl 1 rfl) ?_
  refine fin_i C w (run_V C w mv_X12_180 (k33_fine C.b0 q0 q2 q3 q1 q4 q5 q6 q7 q8 q9 q10 q11 q12 q13 q14 q15 q16 q17 q18 q19 q20 q21 q22 q23 q24 q25 q26 q27 q28 q29 q30 q31 q32 q33 q34 q35 q36 q37 q38 q39 q40 q41 q42 x0 H.size) [1] rfl rfl 1 rfl rfl (by decide) rfl hl.1 rfl (Nat.le_of_ble_eq_true rfl) dX12_net_87 (cells2 := 0) (slots2 := 0) (by decide)) [1] [0] rfl rfl (by decide) (cells2 := 0) (slots2 := 0) (by decide) (fun u2 H locs w => ?_)
  have w : Wd s G A [(q1, .inl (G.2.1, 242, .inl (fun _ => 0))), (q0, .inr (12, [.int 0, .int 0, .int x0, .int 0, .int (-1), .int 0, .int 0, .int (-1), .ref q2, .ref q3, .ref q1, .int 0, .ref q4, .ref q5, .ref q6, .ref q7, .ref q8, .ref q9, .ref q10, .int 0, .ref q11, .ref q12, .ref q13, .ref q14, .ref q15, .ref q16, .ref q17, .int 0, .int (-1), .int 0, .ref q18, .ref q19, .ref q20, .ref q21, .ref q22, .ref q23, .ref q24, .ref q25, .int 0, .ref q26, .ref q27, .ref q28, .ref q29, .ref q30, .int 0, .ref q31, .ref q32, .ref q33, .ref q34, .int 0, .ref q35, .ref q36, .ref q37, .ref q38, .int 0, .int 0, .ref q39, .ref q40, .ref q41, .ref q42]))] H locs := w
  refine lv_if_eq (tgt := 210) hx hb dX12_net_90 (by decide) (fun h => absurd h (by decide)) (fun _ => ?_)
  refine lv_aload_n hx hb dX12_net_93 rfl (lv_at hl 1 rfl) ?_
  refine fin_i C w (run_V C w mv_X12_271 (k35_isMore C.b0 q0 q2 q3 q1 q4 q5 q6 q7 q8 q9 q10 q11 q12 q13 q14 q15 q16 q17 q18 q19 q20 q21 q22 q23 q24 q25 q26 q27 q28 q29 q30 q31 q32 q33 q34 q35 q36 q37 q38 q39 q40 q41 q42 x0 h0 H.size) [1] rfl rfl 1 rfl rfl (by decide) rfl hl.1 rfl (Nat.le_of_ble_eq_true rfl) dX12_net_94 (cells2 := 0) (slots2 := 0) (by decide)) [1] [0] rfl rfl (by decide) (cells2 := 0) (slots2 := 0) (by decide) (fun u3 H locs w => ?_)
  have w : Wd s G A [(q1, .inl (G.2.1, 242, .inl (fun _ => 0))), (q0, .inr (12, [.int 0, .int 0, .int x0, .int 0, .int (-1), .int 0, .int 0, .int (-1), .ref q2, .ref q3, .ref q1, .int 0, .ref q4, .ref q5, .ref q6, .ref q7, .ref q8, .ref q9, .ref q10, .int 0, .ref q11, .ref q12, .ref q13, .ref q14, .ref q15, .ref q16, .ref q17, .int 0, .int (-1), .int 0, .ref q18, .ref q19, .ref q20, .ref q21, .ref q22, .ref q23, .ref q24, .ref q25, .int 0, .ref q26, .ref q27, .ref q28, .ref q29, .ref q30, .int 0, .ref q31, .ref q32, .ref q33, .ref q34, .int 0, .ref q35, .ref q36, .ref q37, .ref q38, .int 0, .int 0, .ref q39, .ref q40, .ref q41, .ref q42]))] H locs := w
  refine lv_if_eq (tgt := 210) hx hb dX12_net_97 (by decide) (fun _ => ?_) (fun h => absurd (by decide) h)
  refine lv_aload_n hx hb dX12_net_210 rfl (lv_at hl 1 rfl) ?_
  refine fin_i C w (run_V C w mv_X12_180 (k33_fine C.b0 q0 q2 q3 q1 q4 q5 q6 q7 q8 q9 q10 q11 q12 q13 q14 q15 q16 q17 q18 q19 q20 q21 q22 q23 q24 q25 q26 q27 q28 q29 q30 q31 q32 q33 q34 q35 q36 q37 q38 q39 q40 q41 q42 x0 H.size) [1] rfl rfl 1 rfl rfl (by decide) rfl hl.1 rfl (Nat.le_of_ble_eq_true rfl) dX12_net_211 (cells2 := 0) (slots2 := 0) (by decide)) [1] [0] rfl rfl (by decide) (cells2 := 0) (slots2 := 0) (by decide) (fun u4 H locs w => ?_)
  have w : Wd s G A [(q1, .inl (G.2.1, 242, .inl (fun _ => 0))), (q0, .inr (12, [.int 0, .int 0, .int x0, .int 0, .int (-1), .int 0, .int 0, .int (-1), .ref q2, .ref q3, .ref q1, .int 0, .ref q4, .ref q5, .ref q6, .ref q7, .ref q8, .ref q9, .ref q10, .int 0, .ref q11, .ref q12, .ref q13, .ref q14, .ref q15, .ref q16, .ref q17, .int 0, .int (-1), .int 0, .ref q18, .ref q19, .ref q20, .ref q21, .ref q22, .ref q23, .ref q24, .ref q25, .int 0, .ref q26, .ref q27, .ref q28, .ref q29, .ref q30, .int 0, .ref q31, .ref q32, .ref q33, .ref q34, .int 0, .ref q35, .ref q36, .ref q37, .ref q38, .int 0, .int 0, .ref q39, .ref q40, .ref q41, .ref q42]))] H locs := w
  refine lv_if_eq (tgt := 244) hx hb dX12_net_214 (by decide) (fun h => absurd h (by decide)) (fun _ => ?_)
  refine lv_aload_n hx hb dX12_net_217 rfl (lv_at hl 1 rfl) ?_
  refine r_get C w 1 rfl fr_X12_23 rfl dX12_net_218 ?_
  refine lv_iconst (v := 0) hx hb dX12_net_221 (by decide) ?_
  refine r_iald C w 0 rfl (IX.of (k := 0) (by decide +kernel)) (v := 0) rfl dX12_net_222 ?_
  refine lv_if_eq (tgt := 235) hx hb dX12_net_223 (by decide) (fun _ => ?_) (fun h => absurd (by decide) h)
  refine lv_aload_n hx hb dX12_net_235 rfl (lv_at hl 1 rfl) ?_
  refine lv_iconst (v := 4) hx hb dX12_net_236 (by decide) ?_
  refine lv_aload_n hx hb dX12_net_237 rfl (lv_at hl 1 rfl) ?_
  refine r_get C w 1 rfl fr_X12_160 rfl dX12_net_238 ?_
  refine fin_v C w (run_V C w mv_X12_187 (k36_wrong C.b0 q0 q2 q3 q1 q4 q5 q6 q7 q8 q9 q10 q11 q12 q13 q14 q15 q16 q17 q18 q19 q20 q21 q22 q23 q24 q25 q26 q27 q28 q29 q30 q31 q32 q33 q34 q35 q36 q37 q38 q39 q40 q41 q42 x0 H.size) [1] rfl rfl 1 rfl rfl (by decide) rfl hl.1 rfl (Nat.le_of_ble_eq_true rfl) dX12_net_241 (cells2 := 0) (slots2 := 0) (by decide)) [1] [0] rfl rfl (by decide) (cells2 := 0) (slots2 := 0) (by decide) (fun u5 H locs w => ?_)
  have w : Wd s G A [(q1, .inl (G.2.1, 242, .inl (fun _ => 0))), (q0, .inr (12, [.int 0, .int 0, .int x0, .int 0, .int x0, .int 4, .int 0, .int (-1), .ref q2, .ref q3, .ref q1, .int 0, .ref q4, .ref q5, .ref q6, .ref q7, .ref q8, .ref q9, .ref q10, .int 0, .ref q11, .ref q12, .ref q13, .ref q14, .ref q15, .ref q16, .ref q17, .int 0, .int (-1), .int 0, .ref q18, .ref q19, .ref q20, .ref q21, .ref q22, .ref q23, .ref q24, .ref q25, .int 0, .ref q26, .ref q27, .ref q28, .ref q29, .ref q30, .int 0, .ref q31, .ref q32, .ref q33, .ref q34, .int 0, .ref q35, .ref q36, .ref q37, .ref q38, .int 0, .int 0, .ref q39, .ref q40, .ref q41, .ref q42]))] H locs := w
  refine lv_aload_n hx hb dX12_net_244 rfl (lv_at hl 1 rfl) ?_
  refine lv_aload_n hx hb dX12_net_245 rfl (lv_at hl 1 rfl) ?_
  refine r_get C w 1 rfl fr_X12_151 rfl dX12_net_246 ?_
  refine r_put C w 1 rfl fl_X12_13 (Nat.le_of_ble_eq_true rfl) rfl rfl dX12_net_249 (ws2 := [(q1, .inl (G.2.1, 242, .inl (fun _ => 0))), (q0, .inr (12, [.int 0, .int 0, .int x0, .int 0, .int x0, .int 4, .int 0, .int x0, .ref q2, .ref q3, .ref q1, .int 0, .ref q4, .ref q5, .ref q6, .ref q7, .ref q8, .ref q9, .ref q10, .int 0, .ref q11, .ref q12, .ref q13, .ref q14, .ref q15, .ref q16, .ref q17, .int 0, .int (-1), .int 0, .ref q18, .ref q19, .ref q20, .ref q21, .ref q22, .ref q23, .ref q24, .ref q25, .int 0, .ref q26, .ref q27, .ref q28, .ref q29, .ref q30, .int 0, .ref q31, .ref q32, .ref q33, .ref q34, .int 0, .ref q35, .ref q36, .ref q37, .ref q38, .int 0, .int 0, .ref q39, .ref q40, .ref q41, .ref q42]))]) rfl (fun H locs w => ?_)
  refine lv_aload_n hx hb dX12_net_252 rfl (lv_at hl 1 rfl) ?_
  refine fin_i C w (run_V C w mv_X12_180 (k37_fine C.b0 q0 q2 q3 q1 q4 q5 q6 q7 q8 q9 q10 q11 q12 q13 q14 q15 q16 q17 q18 q19 q20 q21 q22 q23 q24 q25 q26 q27 q28 q29 q30 q31 q32 q33 q34 q35 q36 q37 q38 q39 q40 q41 q42 x0 h1 H.size) [1] rfl rfl 1 rfl rfl (by decide) rfl hl.1 rfl (Nat.le_of_ble_eq_true rfl) dX12_net_253 (cells2 := 0) (slots2 := 0) (by decide)) [1] [0] rfl rfl (by decide) (cells2 := 0) (slots2 := 0) (by decide) (fun u6 H locs w => ?_)
  have w : Wd s G A [(q1, .inl (G.2.1, 242, .inl (fun _ => 0))), (q0, .inr (12, [.int 0, .int 0, .int x0, .int 0, .int x0, .int 4, .int 0, .int x0, .ref q2, .ref q3, .ref q1, .int 0, .ref q4, .ref q5, .ref q6, .ref q7, .ref q8, .ref q9, .ref q10, .int 0, .ref q11, .ref q12, .ref q13, .ref q14, .ref q15, .ref q16, .ref q17, .int 0, .int (-1), .int 0, .ref q18, .ref q19, .ref q20, .ref q21, .ref q22, .ref q23, .ref q24, .ref q25, .int 0, .ref q26, .ref q27, .ref q28, .ref q29, .ref q30, .int 0, .ref q31, .ref q32, .ref q33, .ref q34, .int 0, .ref q35, .ref q36, .ref q37, .ref q38, .int 0, .int 0, .ref q39, .ref q40, .ref q41, .ref q42]))] H locs := w
  refine lv_if_ne (tgt := 267) hx hb dX12_net_256 (by decide) (fun h => absurd (by decide) h) (fun _ => ?_)
  refine lv_aload_n hx hb dX12_net_259 rfl (lv_at hl 1 rfl) ?_
  refine r_get C w 1 rfl fr_X12_154 rfl dX12_net_260 ?_
  refine lv_bipush (v := 10) hx hb dX12_net_263 (by decide) ?_
  refine lv_isub hx hb dX12_net_265 ?_
  refine z_i (v := (-6)) (by decide +kernel) ?_
  exact e_i C hr w (fun _ => 0) [1, 0] rfl rfl rfl dX12_net_266 (by decide) (by decide)
set_option maxRecDepth 100000 in
set_option maxHeartbeats 4000000 in
theorem k39_thrown {l : Launch} {s0 : State} {a0 : Array Value} {G : GT} (b0 : B0 l s0 a0 G) (q0 q1 q2 q3 q4 q5 q6 q7 q8 q9 q10 q11 q12 q13 q14 q15 q16 q17 q18 q19 q20 q21 q22 q23 q24 q25 q26 q27 q28 q29 q30 q31 q32 q33 q34 q35 q36 q37 q38 q39 q40 q41 q42 : Nat) (x0 : Int32) (sz : Nat) : Ki l s0 G yX12_thrown cX12_thrown 1 (some .int) { frames := 0, cells := 0, slots := 0, locals := 0 } [.ref q0] [(q0, .inr (12, [.int 0, .int 0, .int x0, .int 0, .int x0, .int 4, .int 0, .int x0, .ref q1, .ref q2, .ref q3, .int 0, .ref q4, .ref q5, .ref q6, .ref q7, .ref q8, .ref q9, .ref q10, .int 0, .ref q11, .ref q12, .ref q13, .ref q14, .ref q15, .ref q16, .ref q17, .int 0, .int (-1), .int 0, .ref q18, .ref q19, .ref q20, .ref q21, .ref q22, .ref q23, .ref q24, .ref q25, .int 0, .ref q26, .ref q27, .ref q28, .ref q29, .ref q30, .int 0, .ref q31, .ref q32, .ref q33, .ref q34, .int 0, .ref q35, .ref q36, .ref q37, .ref q38, .int 0, .int 0, .ref q39, .ref q40, .ref q41, .ref q42]))] sz 0 (fun u => [(q0, .inr (12, [.int 0, .int 0, .int x0, .int 0, .int x0, .int 4, .int 0, .int x0, .ref q1, .ref q2, .ref q3, .int 0, .ref q4, .ref q5, .ref q6, .ref q7, .ref q8, .ref q9, .ref q10, .int 0, .ref q11, .ref q12, .ref q13, .ref q14, .ref q15, .ref q16, .ref q17, .int 0, .int (-1), .int 0, .ref q18, .ref q19, .ref q20, .ref q21, .ref q22, .ref q23, .ref q24, .ref q25, .int 0, .ref q26, .ref q27, .ref q28, .ref q29, .ref q30, .int 0, .ref q31, .ref q32, .ref q33, .ref q34, .int 0, .ref q35, .ref q36, .ref q37, .ref q38, .int 0, .int 0, .ref q39, .ref q40, .ref q41, .ref q42]))]) := by
  refine Ki.of b0 (own := RX12) (nm := "thrown") [(0, .ref q0)] rfl rfl (by decide +kernel) (Nat.le_of_ble_eq_true rfl) rfl ?_
  intro p e s m below meth c A C hr H locs w ls hl
  have hx := C.hx
  have hb := C.hb
  refine lv_aload_n hx hb dX12_thrown_0 rfl (lv_at hl 0 rfl) ?_
  refine r_get C w 0 rfl fr_X12_1 rfl dX12_thrown_1 ?_
  exact e_i C hr w (fun _ => 0) [0] rfl rfl rfl dX12_thrown_4 (by decide) (by decide)
set_option maxRecDepth 100000 in
set_option maxHeartbeats 4000000 in
theorem k40_fault {l : Launch} {s0 : State} {a0 : Array Value} {G : GT} (b0 : B0 l s0 a0 G) (q0 q1 q2 q3 q4 q5 q6 q7 q8 q9 q10 : Nat) (sz : Nat) : Ki l s0 G yX11_fault cX11_fault 1 (some .int) { frames := 0, cells := 0, slots := 0, locals := 0 } [.ref q0] [(q0, .inr (11, [.ref q1, .ref q2, .ref q3, .ref q4, .ref q5, .ref q6, .ref q7, .ref q8, .ref q9, .ref q10, .int 0, .int (-1), .int 0, .int 0, .null, .null, .null, .null, .null]))] sz (-1) (fun u => [(q0, .inr (11, [.ref q1, .ref q2, .ref q3, .ref q4, .ref q5, .ref q6, .ref q7, .ref q8, .ref q9, .ref q10, .int 0, .int (-1), .int 0, .int 0, .null, .null, .null, .null, .null]))]) := by
  refine Ki.of b0 (own := RX11) (nm := "fault") [(0, .ref q0)] rfl rfl (by decide +kernel) (Nat.le_of_ble_eq_true rfl) rfl ?_
  intro p e s m below meth c A C hr H locs w ls hl
  have hx := C.hx
  have hb := C.hb
  refine lv_aload_n hx hb dX11_fault_0 rfl (lv_at hl 0 rfl) ?_
  refine r_get C w 0 rfl fr_X11_61 rfl dX11_fault_1 ?_
  exact e_i C hr w (fun _ => 0) [0] rfl rfl rfl dX11_fault_4 (by decide) (by decide)
set_option maxRecDepth 100000 in
set_option maxHeartbeats 4000000 in
theorem k41_fault {l : Launch} {s0 : State} {a0 : Array Value} {G : GT} (b0 : B0 l s0 a0 G) (q0 q1 q2 q3 q4 q5 q6 q7 q8 q9 q10 q11 q12 q13 q14 q15 q16 q17 q18 q19 q20 q21 q22 q23 q24 q25 q26 q27 q28 q29 q30 q31 q32 q33 q34 q35 q36 q37 q38 q39 q40 q41 q42 : Nat) (sz : Nat) : Ki l s0 G yX12_fault cX12_fault 1 (some .int) { frames := 0, cells := 0, slots := 0, locals := 0 } [.ref q0] [(q0, .inr (12, [.int 0, .int 0, .int 0, .int 0, .int 0, .int 0, .int 0, .int (-1), .ref q1, .ref q2, .ref q3, .int 0, .ref q4, .ref q5, .ref q6, .ref q7, .ref q8, .ref q9, .ref q10, .int 0, .ref q11, .ref q12, .ref q13, .ref q14, .ref q15, .ref q16, .ref q17, .int 0, .int (-1), .int 0, .ref q18, .ref q19, .ref q20, .ref q21, .ref q22, .ref q23, .ref q24, .ref q25, .int 0, .ref q26, .ref q27, .ref q28, .ref q29, .ref q30, .int 0, .ref q31, .ref q32, .ref q33, .ref q34, .int 0, .ref q35, .ref q36, .ref q37, .ref q38, .int 0, .int 0, .ref q39, .ref q40, .ref q41, .ref q42]))] sz (-1) (fun u => [(q0, .inr (12, [.int 0, .int 0, .int 0, .int 0, .int 0, .int 0, .int 0, .int (-1), .ref q1, .ref q2, .ref q3, .int 0, .ref q4, .ref q5, .ref q6, .ref q7, .ref q8, .ref q9, .ref q10, .int 0, .ref q11, .ref q12, .ref q13, .ref q14, .ref q15, .ref q16, .ref q17, .int 0, .int (-1), .int 0, .ref q18, .ref q19, .ref q20, .ref q21, .ref q22, .ref q23, .ref q24, .ref q25, .int 0, .ref q26, .ref q27, .ref q28, .ref q29, .ref q30, .int 0, .ref q31, .ref q32, .ref q33, .ref q34, .int 0, .ref q35, .ref q36, .ref q37, .ref q38, .int 0, .int 0, .ref q39, .ref q40, .ref q41, .ref q42]))]) := by
  refine Ki.of b0 (own := RX12) (nm := "fault") [(0, .ref q0)] rfl rfl (by decide +kernel) (Nat.le_of_ble_eq_true rfl) rfl ?_
  intro p e s m below meth c A C hr H locs w ls hl
  have hx := C.hx
  have hb := C.hb
  refine lv_aload_n hx hb dX12_fault_0 rfl (lv_at hl 0 rfl) ?_
  refine lv_iconst (v := 0) hx hb dX12_fault_1 (by decide) ?_
  refine r_put C w 0 rfl fl_X12_1 (Nat.le_of_ble_eq_true rfl) rfl rfl dX12_fault_2 (ws2 := [(q0, .inr (12, [.int 0, .int 0, .int 0, .int 0, .int 0, .int 0, .int 0, .int (-1), .ref q1, .ref q2, .ref q3, .int 0, .ref q4, .ref q5, .ref q6, .ref q7, .ref q8, .ref q9, .ref q10, .int 0, .ref q11, .ref q12, .ref q13, .ref q14, .ref q15, .ref q16, .ref q17, .int 0, .int (-1), .int 0, .ref q18, .ref q19, .ref q20, .ref q21, .ref q22, .ref q23, .ref q24, .ref q25, .int 0, .ref q26, .ref q27, .ref q28, .ref q29, .ref q30, .int 0, .ref q31, .ref q32, .ref q33, .ref q34, .int 0, .ref q35, .ref q36, .ref q37, .ref q38, .int 0, .int 0, .ref q39, .ref q40, .ref q41, .ref q42]))]) rfl (fun H locs w => ?_)
  refine lv_aload_n hx hb dX12_fault_5 rfl (lv_at hl 0 rfl) ?_
  refine r_get C w 0 rfl fr_X12_13 rfl dX12_fault_6 ?_
  exact e_i C hr w (fun _ => 0) [0] rfl rfl rfl dX12_fault_9 (by decide) (by decide)
set_option maxRecDepth 100000 in
set_option maxHeartbeats 4000000 in
theorem k42_needWithin {l : Launch} {s0 : State} {a0 : Array Value} {G : GT} (b0 : B0 l s0 a0 G) (x0 : Int32) (h0 : x0 < 0) (sz : Nat) : Kx l s0 G yX11_needWithin cX11_needWithin 3 none { frames := 6, cells := 1, slots := 6, locals := 90 } [.int x0, .int 0, .int 1] [] sz "java/lang/IllegalArgumentException" := by
  refine Kx.of b0 (own := RX11) (nm := "needWithin") [(0, .int x0), (1, .int 0), (2, .int 1)] rfl rfl (by decide +kernel) (Nat.le_of_ble_eq_true rfl) rfl ?_
  intro p e s m below meth c A C ht H locs w ls hl
  have hx := C.hx
  have hb := C.hb
  refine lv_iload_n hx hb dX11_needWithin_0 rfl (lv_at hl 0 rfl) ?_
  refine lv_iload_n hx hb dX11_needWithin_1 rfl (lv_at hl 1 rfl) ?_
  refine lv_icmp_lt (tgt := 10) hx hb dX11_needWithin_2 (by decide) (fun _ => ?_) (fun h => absurd h0 h)
  exact r_throwS C ht w hl.1 th_X11_247 C.b0.2.2.2.2.2.1 dX11_needWithin_10 dX11_needWithin_13 dX11_needWithin_14 dX11_needWithin_16 dX11_needWithin_19 (by decide) (Nat.le_of_ble_eq_true rfl) (by decide) (by decide) (by decide) (by decide) [] rfl rfl
set_option maxRecDepth 100000 in
set_option maxHeartbeats 4000000 in
theorem k43_told {l : Launch} {s0 : State} {a0 : Array Value} {G : GT} (b0 : B0 l s0 a0 G) (q0 : Nat) (x0 : Int32) (h0 : x0 < 0) (sz : Nat) : Kx l s0 G yX11_told cX11_told 2 (some .int) { frames := 7, cells := 1, slots := 6, locals := 112 } [.ref q0, .int x0] [] sz "java/lang/IllegalArgumentException" := by
  refine Kx.of b0 (own := RX11) (nm := "told") [(0, .ref q0), (1, .int x0)] rfl rfl (by decide +kernel) (Nat.le_of_ble_eq_true rfl) rfl ?_
  intro p e s m below meth c A C ht H locs w ls hl
  have hx := C.hx
  have hb := C.hb
  refine lv_iload_n hx hb dX11_told_0 rfl (lv_at hl 1 rfl) ?_
  refine lv_iconst (v := 0) hx hb dX11_told_1 (by decide) ?_
  refine lv_iconst (v := 1) hx hb dX11_told_2 (by decide) ?_
  refine fin_x C w (run_Sx C w ms_X11_72 (k42_needWithin C.b0 x0 h0 H.size) [] rfl rfl (by decide) rfl hl.1 rfl (Nat.le_of_ble_eq_true rfl) dX11_told_3 (cells2 := 1) (slots2 := 6) (by decide)) [] [] rfl rfl (by decide) (cells2 := 1) (slots2 := 6) (by decide) (fun qx2 ce H locs w hce hcv hcl => ?_)
  have w : Wd s G A [] H locs := w
  exact r_out C ht w [] rfl rfl hce hcv hcl (by decide) (by decide)
set_option maxRecDepth 100000 in
set_option maxHeartbeats 4000000 in
theorem k44_told {l : Launch} {s0 : State} {a0 : Array Value} {G : GT} (b0 : B0 l s0 a0 G) (q0 q1 q2 q3 q4 q5 q6 q7 q8 q9 q10 q11 : Nat) (x0 : Int32) (h0 : x0 < 0) (sz : Nat) : Kh l s0 G yL_told cL_told 4 (some .int) [(0, 9, 12, 13)] { frames := 8, cells := 1, slots := 6, locals := 133 } [.ref q0, .int x0, .ref q1] [(q0, .inr (11, [.ref q2, .ref q3, .ref q4, .ref q5, .ref q6, .ref q7, .ref q8, .ref q9, .ref q10, .ref q11, .int 0, .int (-1), .int 0, .int 0, .null, .null, .null, .null, .null]))] sz 1 (fun u => [(q0, .inr (11, [.ref q2, .ref q3, .ref q4, .ref q5, .ref q6, .ref q7, .ref q8, .ref q9, .ref q10, .ref q11, .int 0, .int (-1), .int 0, .int 0, .null, .null, .null, .null, .null]))]) := by
  refine Kh.of b0 (own := RL) (nm := "told") [(0, .ref q0), (1, .int x0), (2, .ref q1)] rfl rfl (by decide +kernel) (Nat.le_of_ble_eq_true rfl) rfl ?_
  intro p e s m below meth c A C hr ht H locs w ls hl
  have hx := C.hx
  have hb := C.hb
  refine lv_aload_n hx hb dL_told_0 rfl (lv_at hl 2 rfl) ?_
  refine lv_iconst (v := 0) hx hb dL_told_1 (by decide) ?_
  refine lv_aload_n hx hb dL_told_2 rfl (lv_at hl 0 rfl) ?_
  refine lv_iload_n hx hb dL_told_3 rfl (lv_at hl 1 rfl) ?_
  refine fin_x C w (run_Vx C w mv_L_15 (k43_told C.b0 q0 x0 h0 H.size) [] rfl rfl 0 rfl rfl (by decide) rfl hl.1 rfl (Nat.le_of_ble_eq_true rfl) dL_told_4 (cells2 := 1) (slots2 := 6) (by decide)) [] [0] rfl rfl (by decide) (cells2 := 1) (slots2 := 6) (by decide) (fun qx2 ce H locs w hce hcv hcl => ?_)
  have w : Wd s G A [(q0, .inr (11, [.ref q2, .ref q3, .ref q4, .ref q5, .ref q6, .ref q7, .ref q8, .ref q9, .ref q10, .ref q11, .int 0, .int (-1), .int 0, .int 0, .null, .null, .null, .null, .null]))] H locs := w
  refine r_catch C ht (by decide) (by decide) tl_L_13 tk_java_lang_IllegalArgumentException hce hcv hcl ?_
  refine lv_astore_n (lv' := [(3, .ref qx2), (0, .ref q0), (1, .int x0), (2, .ref q1)]) hx hb dL_told_12 rfl hl (by decide) rfl (fun ls hl => ?_)
  refine lv_iconst (v := 1) hx hb dL_told_13 (by decide) ?_
  exact e_i C hr w (fun _ => 0) [0] rfl rfl rfl dL_told_14 (by decide) (by decide)
set_option maxRecDepth 100000 in
set_option maxHeartbeats 4000000 in
theorem k45_within {l : Launch} {s0 : State} {a0 : Array Value} {G : GT} (b0 : B0 l s0 a0 G) (x0 : Int32) (h0 : x0 < 0) (sz : Nat) : Ki l s0 G yX12_within cX12_within 3 (some .boolean) { frames := 0, cells := 0, slots := 0, locals := 0 } [.int x0, .int 0, .int 1] [] sz 0 (fun u => []) := by
  refine Ki.of b0 (own := RX12) (nm := "within") [(0, .int x0), (1, .int 0), (2, .int 1)] rfl rfl (by decide +kernel) (Nat.le_of_ble_eq_true rfl) rfl ?_
  intro p e s m below meth c A C hr H locs w ls hl
  have hx := C.hx
  have hb := C.hb
  refine lv_iload_n hx hb dX12_within_0 rfl (lv_at hl 0 rfl) ?_
  refine lv_iload_n hx hb dX12_within_1 rfl (lv_at hl 1 rfl) ?_
  refine lv_icmp_lt (tgt := 14) hx hb dX12_within_2 (by decide) (fun _ => ?_) (fun h => absurd h0 h)
  refine lv_iconst (v := 0) hx hb dX12_within_14 (by decide) ?_
  exact e_i C hr w (fun _ => 0) [] rfl rfl (by decide) dX12_within_15 (by decide) (by decide)
set_option maxRecDepth 100000 in
set_option maxHeartbeats 4000000 in
theorem k46_told {l : Launch} {s0 : State} {a0 : Array Value} {G : GT} (b0 : B0 l s0 a0 G) (q0 q1 q2 q3 q4 q5 q6 q7 q8 q9 q10 q11 q12 q13 q14 q15 q16 q17 q18 q19 q20 q21 q22 q23 q24 q25 q26 q27 q28 q29 q30 q31 q32 q33 q34 q35 q36 q37 q38 q39 q40 q41 q42 : Nat) (x0 : Int32) (h0 : x0 < 0) (sz : Nat) : Ki l s0 G yX12_told cX12_told 2 (some .int) { frames := 1, cells := 0, slots := 0, locals := 22 } [.ref q0, .int x0] [(q0, .inr (12, [.int 0, .int 0, .int 0, .int 0, .int 0, .int 0, .int 0, .int (-1), .ref q1, .ref q2, .ref q3, .int 0, .ref q4, .ref q5, .ref q6, .ref q7, .ref q8, .ref q9, .ref q10, .int 0, .ref q11, .ref q12, .ref q13, .ref q14, .ref q15, .ref q16, .ref q17, .int 0, .int (-1), .int 0, .ref q18, .ref q19, .ref q20, .ref q21, .ref q22, .ref q23, .ref q24, .ref q25, .int 0, .ref q26, .ref q27, .ref q28, .ref q29, .ref q30, .int 0, .ref q31, .ref q32, .ref q33, .ref q34, .int 0, .ref q35, .ref q36, .ref q37, .ref q38, .int 0, .int 0, .ref q39, .ref q40, .ref q41, .ref q42]))] sz 0 (fun u => [(q0, .inr (12, [.int 1, .int 0, .int 0, .int 0, .int 0, .int 0, .int 0, .int (-1), .ref q1, .ref q2, .ref q3, .int 0, .ref q4, .ref q5, .ref q6, .ref q7, .ref q8, .ref q9, .ref q10, .int 0, .ref q11, .ref q12, .ref q13, .ref q14, .ref q15, .ref q16, .ref q17, .int 0, .int (-1), .int 0, .ref q18, .ref q19, .ref q20, .ref q21, .ref q22, .ref q23, .ref q24, .ref q25, .int 0, .ref q26, .ref q27, .ref q28, .ref q29, .ref q30, .int 0, .ref q31, .ref q32, .ref q33, .ref q34, .int 0, .ref q35, .ref q36, .ref q37, .ref q38, .int 0, .int 0, .ref q39, .ref q40, .ref q41, .ref q42]))]) := by
  refine Ki.of b0 (own := RX12) (nm := "told") [(0, .ref q0), (1, .int x0)] rfl rfl (by decide +kernel) (Nat.le_of_ble_eq_true rfl) rfl ?_
  intro p e s m below meth c A C hr H locs w ls hl
  have hx := C.hx
  have hb := C.hb
  refine lv_aload_n hx hb dX12_told_0 rfl (lv_at hl 0 rfl) ?_
  refine lv_iconst (v := 0) hx hb dX12_told_1 (by decide) ?_
  refine r_put C w 0 rfl fl_X12_1 (Nat.le_of_ble_eq_true rfl) rfl rfl dX12_told_2 (ws2 := [(q0, .inr (12, [.int 0, .int 0, .int 0, .int 0, .int 0, .int 0, .int 0, .int (-1), .ref q1, .ref q2, .ref q3, .int 0, .ref q4, .ref q5, .ref q6, .ref q7, .ref q8, .ref q9, .ref q10, .int 0, .ref q11, .ref q12, .ref q13, .ref q14, .ref q15, .ref q16, .ref q17, .int 0, .int (-1), .int 0, .ref q18, .ref q19, .ref q20, .ref q21, .ref q22, .ref q23, .ref q24, .ref q25, .int 0, .ref q26, .ref q27, .ref q28, .ref q29, .ref q30, .int 0, .ref q31, .ref q32, .ref q33, .ref q34, .int 0, .ref q35, .ref q36, .ref q37, .ref q38, .int 0, .int 0, .ref q39, .ref q40, .ref q41, .ref q42]))]) rfl (fun H locs w => ?_)
  refine lv_aload_n hx hb dX12_told_5 rfl (lv_at hl 0 rfl) ?_
  refine lv_iload_n hx hb dX12_told_6 rfl (lv_at hl 1 rfl) ?_
  refine lv_iconst (v := 0) hx hb dX12_told_7 (by decide) ?_
  refine lv_iconst (v := 1) hx hb dX12_told_8 (by decide) ?_
  refine fin_i C w (run_S C w ms_X12_289 (k45_within C.b0 x0 h0 H.size) [] rfl rfl (by decide) rfl hl.1 rfl (Nat.le_of_ble_eq_true rfl) dX12_told_9 (cells2 := 0) (slots2 := 0) (by decide)) [] [0] rfl rfl (by decide) (cells2 := 0) (slots2 := 0) (by decide) (fun u1 H locs w => ?_)
  have w : Wd s G A [(q0, .inr (12, [.int 0, .int 0, .int 0, .int 0, .int 0, .int 0, .int 0, .int (-1), .ref q1, .ref q2, .ref q3, .int 0, .ref q4, .ref q5, .ref q6, .ref q7, .ref q8, .ref q9, .ref q10, .int 0, .ref q11, .ref q12, .ref q13, .ref q14, .ref q15, .ref q16, .ref q17, .int 0, .int (-1), .int 0, .ref q18, .ref q19, .ref q20, .ref q21, .ref q22, .ref q23, .ref q24, .ref q25, .int 0, .ref q26, .ref q27, .ref q28, .ref q29, .ref q30, .int 0, .ref q31, .ref q32, .ref q33, .ref q34, .int 0, .ref q35, .ref q36, .ref q37, .ref q38, .int 0, .int 0, .ref q39, .ref q40, .ref q41, .ref q42]))] H locs := w
  refine lv_iconst (v := 1) hx hb dX12_told_12 (by decide) ?_
  refine fin_i C w (run_V C w mv_X12_267 (k18_may C.b0 q0 q1 q2 q3 q4 q5 q6 q7 q8 q9 q10 q11 q12 q13 q14 q15 q16 q17 q18 q19 q20 q21 q22 q23 q24 q25 q26 q27 q28 q29 q30 q31 q32 q33 q34 q35 q36 q37 q38 q39 q40 q41 q42 H.size) [0] rfl rfl 0 rfl rfl (by decide) rfl hl.1 rfl (Nat.le_of_ble_eq_true rfl) dX12_told_13 (cells2 := 0) (slots2 := 0) (by decide)) [0] [] rfl rfl (by decide) (cells2 := 0) (slots2 := 0) (by decide) (fun u2 H locs w => ?_)
  have w : Wd s G A [(q0, .inr (12, [.int 1, .int 0, .int 0, .int 0, .int 0, .int 0, .int 0, .int (-1), .ref q1, .ref q2, .ref q3, .int 0, .ref q4, .ref q5, .ref q6, .ref q7, .ref q8, .ref q9, .ref q10, .int 0, .ref q11, .ref q12, .ref q13, .ref q14, .ref q15, .ref q16, .ref q17, .int 0, .int (-1), .int 0, .ref q18, .ref q19, .ref q20, .ref q21, .ref q22, .ref q23, .ref q24, .ref q25, .int 0, .ref q26, .ref q27, .ref q28, .ref q29, .ref q30, .int 0, .ref q31, .ref q32, .ref q33, .ref q34, .int 0, .ref q35, .ref q36, .ref q37, .ref q38, .int 0, .int 0, .ref q39, .ref q40, .ref q41, .ref q42]))] H locs := w
  refine lv_if_ne (tgt := 21) hx hb dX12_told_16 (by decide) (fun h => absurd (by decide) h) (fun _ => ?_)
  refine lv_iconst (v := 0) hx hb dX12_told_19 (by decide) ?_
  exact e_i C hr w (fun _ => 0) [0] rfl rfl rfl dX12_told_20 (by decide) (by decide)
set_option maxRecDepth 100000 in
set_option maxHeartbeats 4000000 in
theorem k47_needWithin {l : Launch} {s0 : State} {a0 : Array Value} {G : GT} (b0 : B0 l s0 a0 G) (x0 : Int32) (h0 : 1 < x0) (h1 : ¬ x0 < 0) (sz : Nat) : Kx l s0 G yX11_needWithin cX11_needWithin 3 none { frames := 6, cells := 1, slots := 6, locals := 90 } [.int x0, .int 0, .int 1] [] sz "java/lang/IllegalArgumentException" := by
  refine Kx.of b0 (own := RX11) (nm := "needWithin") [(0, .int x0), (1, .int 0), (2, .int 1)] rfl rfl (by decide +kernel) (Nat.le_of_ble_eq_true rfl) rfl ?_
  intro p e s m below meth c A C ht H locs w ls hl
  have hx := C.hx
  have hb := C.hb
  refine lv_iload_n hx hb dX11_needWithin_0 rfl (lv_at hl 0 rfl) ?_
  refine lv_iload_n hx hb dX11_needWithin_1 rfl (lv_at hl 1 rfl) ?_
  refine lv_icmp_lt (tgt := 10) hx hb dX11_needWithin_2 (by decide) (fun h => absurd h h1) (fun _ => ?_)
  refine lv_iload_n hx hb dX11_needWithin_5 rfl (lv_at hl 0 rfl) ?_
  refine lv_iload_n hx hb dX11_needWithin_6 rfl (lv_at hl 2 rfl) ?_
  refine lv_icmp_le (tgt := 20) hx hb dX11_needWithin_7 (by decide) (fun h => absurd h (Int32.not_le.mpr h0)) (fun _ => ?_)
  exact r_throwS C ht w hl.1 th_X11_247 C.b0.2.2.2.2.2.1 dX11_needWithin_10 dX11_needWithin_13 dX11_needWithin_14 dX11_needWithin_16 dX11_needWithin_19 (by decide) (Nat.le_of_ble_eq_true rfl) (by decide) (by decide) (by decide) (by decide) [] rfl rfl
set_option maxRecDepth 100000 in
set_option maxHeartbeats 4000000 in
theorem k48_told {l : Launch} {s0 : State} {a0 : Array Value} {G : GT} (b0 : B0 l s0 a0 G) (q0 : Nat) (x0 : Int32) (h0 : 1 < x0) (h1 : ¬ x0 < 0) (sz : Nat) : Kx l s0 G yX11_told cX11_told 2 (some .int) { frames := 7, cells := 1, slots := 6, locals := 112 } [.ref q0, .int x0] [] sz "java/lang/IllegalArgumentException" := by
  refine Kx.of b0 (own := RX11) (nm := "told") [(0, .ref q0), (1, .int x0)] rfl rfl (by decide +kernel) (Nat.le_of_ble_eq_true rfl) rfl ?_
  intro p e s m below meth c A C ht H locs w ls hl
  have hx := C.hx
  have hb := C.hb
  refine lv_iload_n hx hb dX11_told_0 rfl (lv_at hl 1 rfl) ?_
  refine lv_iconst (v := 0) hx hb dX11_told_1 (by decide) ?_
  refine lv_iconst (v := 1) hx hb dX11_told_2 (by decide) ?_
  refine fin_x C w (run_Sx C w ms_X11_72 (k47_needWithin C.b0 x0 h0 h1 H.size) [] rfl rfl (by decide) rfl hl.1 rfl (Nat.le_of_ble_eq_true rfl) dX11_told_3 (cells2 := 1) (slots2 := 6) (by decide)) [] [] rfl rfl (by decide) (cells2 := 1) (slots2 := 6) (by decide) (fun qx2 ce H locs w hce hcv hcl => ?_)
  have w : Wd s G A [] H locs := w
  exact r_out C ht w [] rfl rfl hce hcv hcl (by decide) (by decide)
set_option maxRecDepth 100000 in
set_option maxHeartbeats 4000000 in
theorem k49_told {l : Launch} {s0 : State} {a0 : Array Value} {G : GT} (b0 : B0 l s0 a0 G) (q0 q1 q2 q3 q4 q5 q6 q7 q8 q9 q10 q11 : Nat) (x0 : Int32) (h0 : 1 < x0) (h1 : ¬ x0 < 0) (sz : Nat) : Kh l s0 G yL_told cL_told 4 (some .int) [(0, 9, 12, 13)] { frames := 8, cells := 1, slots := 6, locals := 133 } [.ref q0, .int x0, .ref q1] [(q0, .inr (11, [.ref q2, .ref q3, .ref q4, .ref q5, .ref q6, .ref q7, .ref q8, .ref q9, .ref q10, .ref q11, .int 0, .int (-1), .int 0, .int 0, .null, .null, .null, .null, .null]))] sz 1 (fun u => [(q0, .inr (11, [.ref q2, .ref q3, .ref q4, .ref q5, .ref q6, .ref q7, .ref q8, .ref q9, .ref q10, .ref q11, .int 0, .int (-1), .int 0, .int 0, .null, .null, .null, .null, .null]))]) := by
  refine Kh.of b0 (own := RL) (nm := "told") [(0, .ref q0), (1, .int x0), (2, .ref q1)] rfl rfl (by decide +kernel) (Nat.le_of_ble_eq_true rfl) rfl ?_
  intro p e s m below meth c A C hr ht H locs w ls hl
  have hx := C.hx
  have hb := C.hb
  refine lv_aload_n hx hb dL_told_0 rfl (lv_at hl 2 rfl) ?_
  refine lv_iconst (v := 0) hx hb dL_told_1 (by decide) ?_
  refine lv_aload_n hx hb dL_told_2 rfl (lv_at hl 0 rfl) ?_
  refine lv_iload_n hx hb dL_told_3 rfl (lv_at hl 1 rfl) ?_
  refine fin_x C w (run_Vx C w mv_L_15 (k48_told C.b0 q0 x0 h0 h1 H.size) [] rfl rfl 0 rfl rfl (by decide) rfl hl.1 rfl (Nat.le_of_ble_eq_true rfl) dL_told_4 (cells2 := 1) (slots2 := 6) (by decide)) [] [0] rfl rfl (by decide) (cells2 := 1) (slots2 := 6) (by decide) (fun qx2 ce H locs w hce hcv hcl => ?_)
  have w : Wd s G A [(q0, .inr (11, [.ref q2, .ref q3, .ref q4, .ref q5, .ref q6, .ref q7, .ref q8, .ref q9, .ref q10, .ref q11, .int 0, .int (-1), .int 0, .int 0, .null, .null, .null, .null, .null]))] H locs := w
  refine r_catch C ht (by decide) (by decide) tl_L_13 tk_java_lang_IllegalArgumentException hce hcv hcl ?_
  refine lv_astore_n (lv' := [(3, .ref qx2), (0, .ref q0), (1, .int x0), (2, .ref q1)]) hx hb dL_told_12 rfl hl (by decide) rfl (fun ls hl => ?_)
  refine lv_iconst (v := 1) hx hb dL_told_13 (by decide) ?_
  exact e_i C hr w (fun _ => 0) [0] rfl rfl rfl dL_told_14 (by decide) (by decide)
set_option maxRecDepth 100000 in
set_option maxHeartbeats 4000000 in
theorem k50_within {l : Launch} {s0 : State} {a0 : Array Value} {G : GT} (b0 : B0 l s0 a0 G) (x0 : Int32) (h0 : 1 < x0) (h1 : ¬ x0 < 0) (sz : Nat) : Ki l s0 G yX12_within cX12_within 3 (some .boolean) { frames := 0, cells := 0, slots := 0, locals := 0 } [.int x0, .int 0, .int 1] [] sz 0 (fun u => []) := by
  refine Ki.of b0 (own := RX12) (nm := "within") [(0, .int x0), (1, .int 0), (2, .int 1)] rfl rfl (by decide +kernel) (Nat.le_of_ble_eq_true rfl) rfl ?_
  intro p e s m below meth c A C hr H locs w ls hl
  have hx := C.hx
  have hb := C.hb
  refine lv_iload_n hx hb dX12_within_0 rfl (lv_at hl 0 rfl) ?_
  refine lv_iload_n hx hb dX12_within_1 rfl (lv_at hl 1 rfl) ?_
  refine lv_icmp_lt (tgt := 14) hx hb dX12_within_2 (by decide) (fun h => absurd h h1) (fun _ => ?_)
  refine lv_iload_n hx hb dX12_within_5 rfl (lv_at hl 0 rfl) ?_
  refine lv_iload_n hx hb dX12_within_6 rfl (lv_at hl 2 rfl) ?_
  refine lv_icmp_gt (tgt := 14) hx hb dX12_within_7 (by decide) (fun _ => ?_) (fun h => absurd h0 h)
  refine lv_iconst (v := 0) hx hb dX12_within_14 (by decide) ?_
  exact e_i C hr w (fun _ => 0) [] rfl rfl (by decide) dX12_within_15 (by decide) (by decide)
set_option maxRecDepth 100000 in
set_option maxHeartbeats 4000000 in
theorem k51_told {l : Launch} {s0 : State} {a0 : Array Value} {G : GT} (b0 : B0 l s0 a0 G) (q0 q1 q2 q3 q4 q5 q6 q7 q8 q9 q10 q11 q12 q13 q14 q15 q16 q17 q18 q19 q20 q21 q22 q23 q24 q25 q26 q27 q28 q29 q30 q31 q32 q33 q34 q35 q36 q37 q38 q39 q40 q41 q42 : Nat) (x0 : Int32) (h0 : 1 < x0) (h1 : ¬ x0 < 0) (sz : Nat) : Ki l s0 G yX12_told cX12_told 2 (some .int) { frames := 1, cells := 0, slots := 0, locals := 22 } [.ref q0, .int x0] [(q0, .inr (12, [.int 0, .int 0, .int 0, .int 0, .int 0, .int 0, .int 0, .int (-1), .ref q1, .ref q2, .ref q3, .int 0, .ref q4, .ref q5, .ref q6, .ref q7, .ref q8, .ref q9, .ref q10, .int 0, .ref q11, .ref q12, .ref q13, .ref q14, .ref q15, .ref q16, .ref q17, .int 0, .int (-1), .int 0, .ref q18, .ref q19, .ref q20, .ref q21, .ref q22, .ref q23, .ref q24, .ref q25, .int 0, .ref q26, .ref q27, .ref q28, .ref q29, .ref q30, .int 0, .ref q31, .ref q32, .ref q33, .ref q34, .int 0, .ref q35, .ref q36, .ref q37, .ref q38, .int 0, .int 0, .ref q39, .ref q40, .ref q41, .ref q42]))] sz 0 (fun u => [(q0, .inr (12, [.int 1, .int 0, .int 0, .int 0, .int 0, .int 0, .int 0, .int (-1), .ref q1, .ref q2, .ref q3, .int 0, .ref q4, .ref q5, .ref q6, .ref q7, .ref q8, .ref q9, .ref q10, .int 0, .ref q11, .ref q12, .ref q13, .ref q14, .ref q15, .ref q16, .ref q17, .int 0, .int (-1), .int 0, .ref q18, .ref q19, .ref q20, .ref q21, .ref q22, .ref q23, .ref q24, .ref q25, .int 0, .ref q26, .ref q27, .ref q28, .ref q29, .ref q30, .int 0, .ref q31, .ref q32, .ref q33, .ref q34, .int 0, .ref q35, .ref q36, .ref q37, .ref q38, .int 0, .int 0, .ref q39, .ref q40, .ref q41, .ref q42]))]) := by
  refine Ki.of b0 (own := RX12) (nm := "told") [(0, .ref q0), (1, .int x0)] rfl rfl (by decide +kernel) (Nat.le_of_ble_eq_true rfl) rfl ?_
  intro p e s m below meth c A C hr H locs w ls hl
  have hx := C.hx
  have hb := C.hb
  refine lv_aload_n hx hb dX12_told_0 rfl (lv_at hl 0 rfl) ?_
  refine lv_iconst (v := 0) hx hb dX12_told_1 (by decide) ?_
  refine r_put C w 0 rfl fl_X12_1 (Nat.le_of_ble_eq_true rfl) rfl rfl dX12_told_2 (ws2 := [(q0, .inr (12, [.int 0, .int 0, .int 0, .int 0, .int 0, .int 0, .int 0, .int (-1), .ref q1, .ref q2, .ref q3, .int 0, .ref q4, .ref q5, .ref q6, .ref q7, .ref q8, .ref q9, .ref q10, .int 0, .ref q11, .ref q12, .ref q13, .ref q14, .ref q15, .ref q16, .ref q17, .int 0, .int (-1), .int 0, .ref q18, .ref q19, .ref q20, .ref q21, .ref q22, .ref q23, .ref q24, .ref q25, .int 0, .ref q26, .ref q27, .ref q28, .ref q29, .ref q30, .int 0, .ref q31, .ref q32, .ref q33, .ref q34, .int 0, .ref q35, .ref q36, .ref q37, .ref q38, .int 0, .int 0, .ref q39, .ref q40, .ref q41, .ref q42]))]) rfl (fun H locs w => ?_)
  refine lv_aload_n hx hb dX12_told_5 rfl (lv_at hl 0 rfl) ?_
  refine lv_iload_n hx hb dX12_told_6 rfl (lv_at hl 1 rfl) ?_
  refine lv_iconst (v := 0) hx hb dX12_told_7 (by decide) ?_
  refine lv_iconst (v := 1) hx hb dX12_told_8 (by decide) ?_
  refine fin_i C w (run_S C w ms_X12_289 (k50_within C.b0 x0 h0 h1 H.size) [] rfl rfl (by decide) rfl hl.1 rfl (Nat.le_of_ble_eq_true rfl) dX12_told_9 (cells2 := 0) (slots2 := 0) (by decide)) [] [0] rfl rfl (by decide) (cells2 := 0) (slots2 := 0) (by decide) (fun u1 H locs w => ?_)
  have w : Wd s G A [(q0, .inr (12, [.int 0, .int 0, .int 0, .int 0, .int 0, .int 0, .int 0, .int (-1), .ref q1, .ref q2, .ref q3, .int 0, .ref q4, .ref q5, .ref q6, .ref q7, .ref q8, .ref q9, .ref q10, .int 0, .ref q11, .ref q12, .ref q13, .ref q14, .ref q15, .ref q16, .ref q17, .int 0, .int (-1), .int 0, .ref q18, .ref q19, .ref q20, .ref q21, .ref q22, .ref q23, .ref q24, .ref q25, .int 0, .ref q26, .ref q27, .ref q28, .ref q29, .ref q30, .int 0, .ref q31, .ref q32, .ref q33, .ref q34, .int 0, .ref q35, .ref q36, .ref q37, .ref q38, .int 0, .int 0, .ref q39, .ref q40, .ref q41, .ref q42]))] H locs := w
  refine lv_iconst (v := 1) hx hb dX12_told_12 (by decide) ?_
  refine fin_i C w (run_V C w mv_X12_267 (k18_may C.b0 q0 q1 q2 q3 q4 q5 q6 q7 q8 q9 q10 q11 q12 q13 q14 q15 q16 q17 q18 q19 q20 q21 q22 q23 q24 q25 q26 q27 q28 q29 q30 q31 q32 q33 q34 q35 q36 q37 q38 q39 q40 q41 q42 H.size) [0] rfl rfl 0 rfl rfl (by decide) rfl hl.1 rfl (Nat.le_of_ble_eq_true rfl) dX12_told_13 (cells2 := 0) (slots2 := 0) (by decide)) [0] [] rfl rfl (by decide) (cells2 := 0) (slots2 := 0) (by decide) (fun u2 H locs w => ?_)
  have w : Wd s G A [(q0, .inr (12, [.int 1, .int 0, .int 0, .int 0, .int 0, .int 0, .int 0, .int (-1), .ref q1, .ref q2, .ref q3, .int 0, .ref q4, .ref q5, .ref q6, .ref q7, .ref q8, .ref q9, .ref q10, .int 0, .ref q11, .ref q12, .ref q13, .ref q14, .ref q15, .ref q16, .ref q17, .int 0, .int (-1), .int 0, .ref q18, .ref q19, .ref q20, .ref q21, .ref q22, .ref q23, .ref q24, .ref q25, .int 0, .ref q26, .ref q27, .ref q28, .ref q29, .ref q30, .int 0, .ref q31, .ref q32, .ref q33, .ref q34, .int 0, .ref q35, .ref q36, .ref q37, .ref q38, .int 0, .int 0, .ref q39, .ref q40, .ref q41, .ref q42]))] H locs := w
  refine lv_if_ne (tgt := 21) hx hb dX12_told_16 (by decide) (fun h => absurd (by decide) h) (fun _ => ?_)
  refine lv_iconst (v := 0) hx hb dX12_told_19 (by decide) ?_
  exact e_i C hr w (fun _ => 0) [0] rfl rfl rfl dX12_told_20 (by decide) (by decide)
set_option maxRecDepth 100000 in
set_option maxHeartbeats 4000000 in
theorem k52_needWithin {l : Launch} {s0 : State} {a0 : Array Value} {G : GT} (b0 : B0 l s0 a0 G) (x0 : Int32) (h0 : ¬ 1 < x0) (h1 : ¬ x0 < 0) (sz : Nat) : Kv l s0 G yX11_needWithin cX11_needWithin 3 none { frames := 0, cells := 0, slots := 0, locals := 0 } [.int x0, .int 0, .int 1] [] sz (fun u => []) := by
  refine Kv.of b0 (own := RX11) (nm := "needWithin") [(0, .int x0), (1, .int 0), (2, .int 1)] rfl rfl (by decide +kernel) (Nat.le_of_ble_eq_true rfl) rfl ?_
  intro p e s m below meth c A C hr H locs w ls hl
  have hx := C.hx
  have hb := C.hb
  refine lv_iload_n hx hb dX11_needWithin_0 rfl (lv_at hl 0 rfl) ?_
  refine lv_iload_n hx hb dX11_needWithin_1 rfl (lv_at hl 1 rfl) ?_
  refine lv_icmp_lt (tgt := 10) hx hb dX11_needWithin_2 (by decide) (fun h => absurd h h1) (fun _ => ?_)
  refine lv_iload_n hx hb dX11_needWithin_5 rfl (lv_at hl 0 rfl) ?_
  refine lv_iload_n hx hb dX11_needWithin_6 rfl (lv_at hl 2 rfl) ?_
  refine lv_icmp_le (tgt := 20) hx hb dX11_needWithin_7 (by decide) (fun _ => ?_) (fun h => absurd (Int32.not_lt.mp h0) h)
  exact e_v C hr w (fun _ => 0) [] rfl rfl dX11_needWithin_20 (by decide) (by decide)
set_option maxRecDepth 100000 in
set_option maxHeartbeats 4000000 in
theorem k53_told {l : Launch} {s0 : State} {a0 : Array Value} {G : GT} (b0 : B0 l s0 a0 G) (q0 q1 q2 q3 q4 q5 q6 q7 q8 q9 q10 q11 q12 q13 q14 q15 q16 q17 q18 q19 q20 q21 q22 q23 q24 : Nat) (x0 : Int32) (h0 : ¬ 1 < x0) (h1 : ¬ x0 < 0) (sz : Nat) : Ki l s0 G yX11_told cX11_told 2 (some .int) { frames := 1, cells := 0, slots := 0, locals := 22 } [.ref q0, .int x0] [(q0, .inr (11, [.ref q2, .ref q3, .ref q4, .ref q5, .ref q6, .ref q7, .ref q8, .ref q9, .ref q1, .ref q10, .int 0, .int (-1), .int 0, .int 0, .null, .null, .null, .null, .null])), (q1, .inr (2, [.int 0, .int 0, .ref q11, .ref q12, .ref q13, .ref q14, .ref q15, .ref q16, .ref q17, .ref q18, .ref q19, .ref q20, .ref q21, .ref q22, .ref q23, .ref q24, .int 0]))] sz 0 (fun u => [(q0, .inr (11, [.ref q2, .ref q3, .ref q4, .ref q5, .ref q6, .ref q7, .ref q8, .ref q9, .ref q1, .ref q10, .int 0, .int (-1), .int 0, .int 0, .null, .null, .null, .null, .null])), (q1, .inr (2, [.int 0, .int 0, .ref q11, .ref q12, .ref q13, .ref q14, .ref q15, .ref q16, .ref q17, .ref q18, .ref q19, .ref q20, .ref q21, .ref q22, .ref q23, .ref q24, .int 0]))]) := by
  refine Ki.of b0 (own := RX11) (nm := "told") [(0, .ref q0), (1, .int x0)] rfl rfl (by decide +kernel) (Nat.le_of_ble_eq_true rfl) rfl ?_
  intro p e s m below meth c A C hr H locs w ls hl
  have hx := C.hx
  have hb := C.hb
  refine lv_iload_n hx hb dX11_told_0 rfl (lv_at hl 1 rfl) ?_
  refine lv_iconst (v := 0) hx hb dX11_told_1 (by decide) ?_
  refine lv_iconst (v := 1) hx hb dX11_told_2 (by decide) ?_
  refine fin_v C w (run_S C w ms_X11_72 (k52_needWithin C.b0 x0 h0 h1 H.size) [] rfl rfl (by decide) rfl hl.1 rfl (Nat.le_of_ble_eq_true rfl) dX11_told_3 (cells2 := 0) (slots2 := 0) (by decide)) [] [0, 1] rfl rfl (by decide) (cells2 := 0) (slots2 := 0) (by decide) (fun u1 H locs w => ?_)
  have w : Wd s G A [(q0, .inr (11, [.ref q2, .ref q3, .ref q4, .ref q5, .ref q6, .ref q7, .ref q8, .ref q9, .ref q1, .ref q10, .int 0, .int (-1), .int 0, .int 0, .null, .null, .null, .null, .null])), (q1, .inr (2, [.int 0, .int 0, .ref q11, .ref q12, .ref q13, .ref q14, .ref q15, .ref q16, .ref q17, .ref q18, .ref q19, .ref q20, .ref q21, .ref q22, .ref q23, .ref q24, .int 0]))] H locs := w
  refine lv_iload_n hx hb dX11_told_6 rfl (lv_at hl 1 rfl) ?_
  refine lv_if_ne (tgt := 20) hx hb dX11_told_7 (by decide) (fun hf2 => ?_) (fun hf2 => ?_)
  · refine lv_aload_n hx hb dX11_told_20 rfl (lv_at hl 0 rfl) ?_
    refine r_get C w 0 rfl fr_X11_54 rfl dX11_told_21 ?_
    refine r_get C w 1 rfl fr_X11_101 rfl dX11_told_24 ?_
    exact e_i C hr w (fun _ => 0) [0, 1] rfl rfl rfl dX11_told_27 (by decide) (by decide)
  · refine lv_aload_n hx hb dX11_told_10 rfl (lv_at hl 0 rfl) ?_
    refine r_get C w 0 rfl fr_X11_54 rfl dX11_told_11 ?_
    refine r_get C w 1 rfl fr_X11_98 rfl dX11_told_14 ?_
    refine lv_goto (tgt := 27) hx hb dX11_told_17 (by decide) ?_
    exact e_i C hr w (fun _ => 0) [0, 1] rfl rfl rfl dX11_told_27 (by decide) (by decide)
set_option maxRecDepth 100000 in
set_option maxHeartbeats 4000000 in
theorem k54_told {l : Launch} {s0 : State} {a0 : Array Value} {G : GT} (b0 : B0 l s0 a0 G) (q0 q1 q2 q3 q4 q5 q6 q7 q8 q9 q10 q11 q12 q13 q14 q15 q16 q17 q18 q19 q20 q21 q22 q23 q24 q25 : Nat) (x0 : Int32) (h0 : ¬ 1 < x0) (h1 : ¬ x0 < 0) (sz : Nat) : Kh l s0 G yL_told cL_told 4 (some .int) [(0, 9, 12, 13)] { frames := 2, cells := 0, slots := 0, locals := 43 } [.ref q0, .int x0, .ref q2] [(q0, .inr (11, [.ref q3, .ref q4, .ref q5, .ref q6, .ref q7, .ref q8, .ref q9, .ref q10, .ref q1, .ref q11, .int 0, .int (-1), .int 0, .int 0, .null, .null, .null, .null, .null])), (q1, .inr (2, [.int 0, .int 0, .ref q12, .ref q13, .ref q14, .ref q15, .ref q16, .ref q17, .ref q18, .ref q19, .ref q20, .ref q21, .ref q22, .ref q23, .ref q24, .ref q25, .int 0])), (q2, .inl (G.2.2.1, 1, .inr (.inl (fun _ => 0))))] sz 0 (fun u => [(q0, .inr (11, [.ref q3, .ref q4, .ref q5, .ref q6, .ref q7, .ref q8, .ref q9, .ref q10, .ref q1, .ref q11, .int 0, .int (-1), .int 0, .int 0, .null, .null, .null, .null, .null])), (q1, .inr (2, [.int 0, .int 0, .ref q12, .ref q13, .ref q14, .ref q15, .ref q16, .ref q17, .ref q18, .ref q19, .ref q20, .ref q21, .ref q22, .ref q23, .ref q24, .ref q25, .int 0])), (q2, .inl (G.2.2.1, 1, .inr (.inl (fun _ => 0))))]) := by
  refine Kh.of b0 (own := RL) (nm := "told") [(0, .ref q0), (1, .int x0), (2, .ref q2)] rfl rfl (by decide +kernel) (Nat.le_of_ble_eq_true rfl) rfl ?_
  intro p e s m below meth c A C hr ht H locs w ls hl
  have hx := C.hx
  have hb := C.hb
  refine lv_aload_n hx hb dL_told_0 rfl (lv_at hl 2 rfl) ?_
  refine lv_iconst (v := 0) hx hb dL_told_1 (by decide) ?_
  refine lv_aload_n hx hb dL_told_2 rfl (lv_at hl 0 rfl) ?_
  refine lv_iload_n hx hb dL_told_3 rfl (lv_at hl 1 rfl) ?_
  refine fin_i C w (run_V C w mv_L_15 (k53_told C.b0 q0 q1 q3 q4 q5 q6 q7 q8 q9 q10 q11 q12 q13 q14 q15 q16 q17 q18 q19 q20 q21 q22 q23 q24 q25 x0 h0 h1 H.size) [0, 1] rfl rfl 0 rfl rfl (by decide) rfl hl.1 rfl (Nat.le_of_ble_eq_true rfl) dL_told_4 (cells2 := 0) (slots2 := 0) (by decide)) [0, 1] [2] rfl rfl (by decide) (cells2 := 0) (slots2 := 0) (by decide) (fun u1 H locs w => ?_)
  have w : Wd s G A [(q2, .inl (G.2.2.1, 1, .inr (.inl (fun _ => 0)))), (q0, .inr (11, [.ref q3, .ref q4, .ref q5, .ref q6, .ref q7, .ref q8, .ref q9, .ref q10, .ref q1, .ref q11, .int 0, .int (-1), .int 0, .int 0, .null, .null, .null, .null, .null])), (q1, .inr (2, [.int 0, .int 0, .ref q12, .ref q13, .ref q14, .ref q15, .ref q16, .ref q17, .ref q18, .ref q19, .ref q20, .ref q21, .ref q22, .ref q23, .ref q24, .ref q25, .int 0]))] H locs := w
  refine lv_i2l (v := 0) hx hb dL_told_7 (by decide +kernel) ?_
  refine r_last C w 0 rfl (IX.of (k := 0) (by decide +kernel)) (g := (fun _ => 0)) (updL_c _ _) dL_told_8 (ws2 := [(q2, .inl (G.2.2.1, 1, .inr (.inl (fun _ => 0)))), (q0, .inr (11, [.ref q3, .ref q4, .ref q5, .ref q6, .ref q7, .ref q8, .ref q9, .ref q10, .ref q1, .ref q11, .int 0, .int (-1), .int 0, .int 0, .null, .null, .null, .null, .null])), (q1, .inr (2, [.int 0, .int 0, .ref q12, .ref q13, .ref q14, .ref q15, .ref q16, .ref q17, .ref q18, .ref q19, .ref q20, .ref q21, .ref q22, .ref q23, .ref q24, .ref q25, .int 0]))]) rfl (fun H locs w => ?_)
  refine lv_goto (tgt := 15) hx hb dL_told_9 (by decide) ?_
  refine lv_iconst (v := 0) hx hb dL_told_15 (by decide) ?_
  exact e_i C hr w (fun _ => 0) [1, 2, 0] rfl rfl rfl dL_told_16 (by decide) (by decide)
set_option maxRecDepth 100000 in
set_option maxHeartbeats 4000000 in
theorem k55_within {l : Launch} {s0 : State} {a0 : Array Value} {G : GT} (b0 : B0 l s0 a0 G) (x0 : Int32) (h0 : ¬ 1 < x0) (h1 : ¬ x0 < 0) (sz : Nat) : Ki l s0 G yX12_within cX12_within 3 (some .boolean) { frames := 0, cells := 0, slots := 0, locals := 0 } [.int x0, .int 0, .int 1] [] sz 1 (fun u => []) := by
  refine Ki.of b0 (own := RX12) (nm := "within") [(0, .int x0), (1, .int 0), (2, .int 1)] rfl rfl (by decide +kernel) (Nat.le_of_ble_eq_true rfl) rfl ?_
  intro p e s m below meth c A C hr H locs w ls hl
  have hx := C.hx
  have hb := C.hb
  refine lv_iload_n hx hb dX12_within_0 rfl (lv_at hl 0 rfl) ?_
  refine lv_iload_n hx hb dX12_within_1 rfl (lv_at hl 1 rfl) ?_
  refine lv_icmp_lt (tgt := 14) hx hb dX12_within_2 (by decide) (fun h => absurd h h1) (fun _ => ?_)
  refine lv_iload_n hx hb dX12_within_5 rfl (lv_at hl 0 rfl) ?_
  refine lv_iload_n hx hb dX12_within_6 rfl (lv_at hl 2 rfl) ?_
  refine lv_icmp_gt (tgt := 14) hx hb dX12_within_7 (by decide) (fun h => absurd h h0) (fun _ => ?_)
  refine lv_iconst (v := 1) hx hb dX12_within_10 (by decide) ?_
  refine lv_goto (tgt := 15) hx hb dX12_within_11 (by decide) ?_
  exact e_i C hr w (fun _ => 0) [] rfl rfl (by decide) dX12_within_15 (by decide) (by decide)
set_option maxRecDepth 100000 in
set_option maxHeartbeats 4000000 in
theorem k56_acts {l : Launch} {s0 : State} {a0 : Array Value} {G : GT} (b0 : B0 l s0 a0 G) (q0 q1 q2 q3 q4 q5 q6 q7 q8 q9 q10 q11 q12 q13 q14 q15 q16 q17 q18 q19 q20 q21 q22 q23 q24 q25 q26 q27 q28 q29 q30 q31 q32 q33 q34 q35 q36 q37 q38 q39 q40 q41 q42 : Nat) (sz : Nat) : Ki l s0 G yX12_acts cX12_acts 1 (some .int) { frames := 0, cells := 0, slots := 0, locals := 0 } [.ref q0] [(q0, .inr (12, [.int 0, .int 0, .int 0, .int 0, .int 0, .int 0, .int 0, .int (-1), .ref q2, .ref q1, .ref q3, .int 0, .ref q4, .ref q5, .ref q6, .ref q7, .ref q8, .ref q9, .ref q10, .int 0, .ref q11, .ref q12, .ref q13, .ref q14, .ref q15, .ref q16, .ref q17, .int 0, .int (-1), .int 0, .ref q18, .ref q19, .ref q20, .ref q21, .ref q22, .ref q23, .ref q24, .ref q25, .int 0, .ref q26, .ref q27, .ref q28, .ref q29, .ref q30, .int 0, .ref q31, .ref q32, .ref q33, .ref q34, .int 0, .ref q35, .ref q36, .ref q37, .ref q38, .int 0, .int 0, .ref q39, .ref q40, .ref q41, .ref q42])), (q1, .inl (G.2.1, 242, .inl (fun _ => 0)))] sz 0 (fun u => [(q0, .inr (12, [.int 0, .int 0, .int 0, .int 0, .int 0, .int 0, .int 0, .int (-1), .ref q2, .ref q1, .ref q3, .int 0, .ref q4, .ref q5, .ref q6, .ref q7, .ref q8, .ref q9, .ref q10, .int 0, .ref q11, .ref q12, .ref q13, .ref q14, .ref q15, .ref q16, .ref q17, .int 0, .int (-1), .int 0, .ref q18, .ref q19, .ref q20, .ref q21, .ref q22, .ref q23, .ref q24, .ref q25, .int 0, .ref q26, .ref q27, .ref q28, .ref q29, .ref q30, .int 0, .ref q31, .ref q32, .ref q33, .ref q34, .int 0, .ref q35, .ref q36, .ref q37, .ref q38, .int 0, .int 0, .ref q39, .ref q40, .ref q41, .ref q42])), (q1, .inl (G.2.1, 242, .inl (fun _ => 0)))]) := by
  refine Ki.of b0 (own := RX12) (nm := "acts") [(0, .ref q0)] rfl rfl (by decide +kernel) (Nat.le_of_ble_eq_true rfl) rfl ?_
  intro p e s m below meth c A C hr H locs w ls hl
  have hx := C.hx
  have hb := C.hb
  refine lv_aload_n hx hb dX12_acts_0 rfl (lv_at hl 0 rfl) ?_
  refine r_get C w 0 rfl fr_X12_20 rfl dX12_acts_1 ?_
  refine lv_iconst (v := 1) hx hb dX12_acts_4 (by decide) ?_
  refine r_iald C w 1 rfl (IX.of (k := 1) (by decide +kernel)) (v := 0) rfl dX12_acts_5 ?_
  exact e_i C hr w (fun _ => 0) [0, 1] rfl rfl rfl dX12_acts_6 (by decide) (by decide)
set_option maxRecDepth 100000 in
set_option maxHeartbeats 4000000 in
theorem k57_places {l : Launch} {s0 : State} {a0 : Array Value} {G : GT} (b0 : B0 l s0 a0 G) (q0 q1 q2 q3 q4 q5 q6 q7 q8 q9 q10 q11 q12 q13 q14 q15 q16 q17 q18 q19 q20 q21 q22 q23 q24 q25 q26 q27 q28 q29 q30 q31 q32 q33 q34 q35 q36 q37 q38 q39 q40 q41 q42 : Nat) (sz : Nat) : Ki l s0 G yX12_places cX12_places 1 (some .int) { frames := 0, cells := 0, slots := 0, locals := 0 } [.ref q0] [(q0, .inr (12, [.int 0, .int 0, .int 0, .int 0, .int 0, .int 0, .int 0, .int (-1), .ref q2, .ref q1, .ref q3, .int 0, .ref q4, .ref q5, .ref q6, .ref q7, .ref q8, .ref q9, .ref q10, .int 0, .ref q11, .ref q12, .ref q13, .ref q14, .ref q15, .ref q16, .ref q17, .int 0, .int (-1), .int 0, .ref q18, .ref q19, .ref q20, .ref q21, .ref q22, .ref q23, .ref q24, .ref q25, .int 0, .ref q26, .ref q27, .ref q28, .ref q29, .ref q30, .int 0, .ref q31, .ref q32, .ref q33, .ref q34, .int 0, .ref q35, .ref q36, .ref q37, .ref q38, .int 0, .int 0, .ref q39, .ref q40, .ref q41, .ref q42])), (q1, .inl (G.2.1, 242, .inl (fun _ => 0)))] sz 0 (fun u => [(q0, .inr (12, [.int 0, .int 0, .int 0, .int 0, .int 0, .int 0, .int 0, .int (-1), .ref q2, .ref q1, .ref q3, .int 0, .ref q4, .ref q5, .ref q6, .ref q7, .ref q8, .ref q9, .ref q10, .int 0, .ref q11, .ref q12, .ref q13, .ref q14, .ref q15, .ref q16, .ref q17, .int 0, .int (-1), .int 0, .ref q18, .ref q19, .ref q20, .ref q21, .ref q22, .ref q23, .ref q24, .ref q25, .int 0, .ref q26, .ref q27, .ref q28, .ref q29, .ref q30, .int 0, .ref q31, .ref q32, .ref q33, .ref q34, .int 0, .ref q35, .ref q36, .ref q37, .ref q38, .int 0, .int 0, .ref q39, .ref q40, .ref q41, .ref q42])), (q1, .inl (G.2.1, 242, .inl (fun _ => 0)))]) := by
  refine Ki.of b0 (own := RX12) (nm := "places") [(0, .ref q0)] rfl rfl (by decide +kernel) (Nat.le_of_ble_eq_true rfl) rfl ?_
  intro p e s m below meth c A C hr H locs w ls hl
  have hx := C.hx
  have hb := C.hb
  refine lv_aload_n hx hb dX12_places_0 rfl (lv_at hl 0 rfl) ?_
  refine r_get C w 0 rfl fr_X12_20 rfl dX12_places_1 ?_
  refine lv_iconst (v := 0) hx hb dX12_places_4 (by decide) ?_
  refine r_iald C w 1 rfl (IX.of (k := 0) (by decide +kernel)) (v := 0) rfl dX12_places_5 ?_
  exact e_i C hr w (fun _ => 0) [0, 1] rfl rfl rfl dX12_places_6 (by decide) (by decide)
set_option maxRecDepth 100000 in
set_option maxHeartbeats 4000000 in
theorem k58_told {l : Launch} {s0 : State} {a0 : Array Value} {G : GT} (b0 : B0 l s0 a0 G) (q0 q1 q2 q3 q4 q5 q6 q7 q8 q9 q10 q11 q12 q13 q14 q15 q16 q17 q18 q19 q20 q21 q22 q23 q24 q25 q26 q27 q28 q29 q30 q31 q32 q33 q34 q35 q36 q37 q38 q39 q40 q41 q42 : Nat) (x0 : Int32) (h0 : ¬ 1 < x0) (h1 : ¬ x0 < 0) (sz : Nat) : Ki l s0 G yX12_told cX12_told 2 (some .int) { frames := 1, cells := 0, slots := 0, locals := 22 } [.ref q0, .int x0] [(q0, .inr (12, [.int 0, .int 0, .int 0, .int 0, .int 0, .int 0, .int 0, .int (-1), .ref q2, .ref q1, .ref q3, .int 0, .ref q4, .ref q5, .ref q6, .ref q7, .ref q8, .ref q9, .ref q10, .int 0, .ref q11, .ref q12, .ref q13, .ref q14, .ref q15, .ref q16, .ref q17, .int 0, .int (-1), .int 0, .ref q18, .ref q19, .ref q20, .ref q21, .ref q22, .ref q23, .ref q24, .ref q25, .int 0, .ref q26, .ref q27, .ref q28, .ref q29, .ref q30, .int 0, .ref q31, .ref q32, .ref q33, .ref q34, .int 0, .ref q35, .ref q36, .ref q37, .ref q38, .int 0, .int 0, .ref q39, .ref q40, .ref q41, .ref q42])), (q1, .inl (G.2.1, 242, .inl (fun _ => 0)))] sz 0 (fun u => [(q0, .inr (12, [.int 0, .int 0, .int 0, .int 0, .int 0, .int 0, .int 0, .int (-1), .ref q2, .ref q1, .ref q3, .int 0, .ref q4, .ref q5, .ref q6, .ref q7, .ref q8, .ref q9, .ref q10, .int 0, .ref q11, .ref q12, .ref q13, .ref q14, .ref q15, .ref q16, .ref q17, .int 0, .int (-1), .int 0, .ref q18, .ref q19, .ref q20, .ref q21, .ref q22, .ref q23, .ref q24, .ref q25, .int 0, .ref q26, .ref q27, .ref q28, .ref q29, .ref q30, .int 0, .ref q31, .ref q32, .ref q33, .ref q34, .int 0, .ref q35, .ref q36, .ref q37, .ref q38, .int 0, .int 0, .ref q39, .ref q40, .ref q41, .ref q42])), (q1, .inl (G.2.1, 242, .inl (fun _ => 0)))]) := by
  refine Ki.of b0 (own := RX12) (nm := "told") [(0, .ref q0), (1, .int x0)] rfl rfl (by decide +kernel) (Nat.le_of_ble_eq_true rfl) rfl ?_
  intro p e s m below meth c A C hr H locs w ls hl
  have hx := C.hx
  have hb := C.hb
  refine lv_aload_n hx hb dX12_told_0 rfl (lv_at hl 0 rfl) ?_
  refine lv_iconst (v := 0) hx hb dX12_told_1 (by decide) ?_
  refine r_put C w 0 rfl fl_X12_1 (Nat.le_of_ble_eq_true rfl) rfl rfl dX12_told_2 (ws2 := [(q0, .inr (12, [.int 0, .int 0, .int 0, .int 0, .int 0, .int 0, .int 0, .int (-1), .ref q2, .ref q1, .ref q3, .int 0, .ref q4, .ref q5, .ref q6, .ref q7, .ref q8, .ref q9, .ref q10, .int 0, .ref q11, .ref q12, .ref q13, .ref q14, .ref q15, .ref q16, .ref q17, .int 0, .int (-1), .int 0, .ref q18, .ref q19, .ref q20, .ref q21, .ref q22, .ref q23, .ref q24, .ref q25, .int 0, .ref q26, .ref q27, .ref q28, .ref q29, .ref q30, .int 0, .ref q31, .ref q32, .ref q33, .ref q34, .int 0, .ref q35, .ref q36, .ref q37, .ref q38, .int 0, .int 0, .ref q39, .ref q40, .ref q41, .ref q42])), (q1, .inl (G.2.1, 242, .inl (fun _ => 0)))]) rfl (fun H locs w => ?_)
  refine lv_aload_n hx hb dX12_told_5 rfl (lv_at hl 0 rfl) ?_
  refine lv_iload_n hx hb dX12_told_6 rfl (lv_at hl 1 rfl) ?_
  refine lv_iconst (v := 0) hx hb dX12_told_7 (by decide) ?_
  refine lv_iconst (v := 1) hx hb dX12_told_8 (by decide) ?_
  refine fin_i C w (run_S C w ms_X12_289 (k55_within C.b0 x0 h0 h1 H.size) [] rfl rfl (by decide) rfl hl.1 rfl (Nat.le_of_ble_eq_true rfl) dX12_told_9 (cells2 := 0) (slots2 := 0) (by decide)) [] [0, 1] rfl rfl (by decide) (cells2 := 0) (slots2 := 0) (by decide) (fun u1 H locs w => ?_)
  have w : Wd s G A [(q0, .inr (12, [.int 0, .int 0, .int 0, .int 0, .int 0, .int 0, .int 0, .int (-1), .ref q2, .ref q1, .ref q3, .int 0, .ref q4, .ref q5, .ref q6, .ref q7, .ref q8, .ref q9, .ref q10, .int 0, .ref q11, .ref q12, .ref q13, .ref q14, .ref q15, .ref q16, .ref q17, .int 0, .int (-1), .int 0, .ref q18, .ref q19, .ref q20, .ref q21, .ref q22, .ref q23, .ref q24, .ref q25, .int 0, .ref q26, .ref q27, .ref q28, .ref q29, .ref q30, .int 0, .ref q31, .ref q32, .ref q33, .ref q34, .int 0, .ref q35, .ref q36, .ref q37, .ref q38, .int 0, .int 0, .ref q39, .ref q40, .ref q41, .ref q42])), (q1, .inl (G.2.1, 242, .inl (fun _ => 0)))] H locs := w
  refine lv_iconst (v := 1) hx hb dX12_told_12 (by decide) ?_
  refine fin_i C w (run_V C w mv_X12_267 (k32_may C.b0 q0 q2 q1 q3 q4 q5 q6 q7 q8 q9 q10 q11 q12 q13 q14 q15 q16 q17 q18 q19 q20 q21 q22 q23 q24 q25 q26 q27 q28 q29 q30 q31 q32 q33 q34 q35 q36 q37 q38 q39 q40 q41 q42 H.size) [0] rfl rfl 0 rfl rfl (by decide) rfl hl.1 rfl (Nat.le_of_ble_eq_true rfl) dX12_told_13 (cells2 := 0) (slots2 := 0) (by decide)) [0] [1] rfl rfl (by decide) (cells2 := 0) (slots2 := 0) (by decide) (fun u2 H locs w => ?_)
  have w : Wd s G A [(q1, .inl (G.2.1, 242, .inl (fun _ => 0))), (q0, .inr (12, [.int 0, .int 0, .int 0, .int 0, .int 0, .int 0, .int 0, .int (-1), .ref q2, .ref q1, .ref q3, .int 0, .ref q4, .ref q5, .ref q6, .ref q7, .ref q8, .ref q9, .ref q10, .int 0, .ref q11, .ref q12, .ref q13, .ref q14, .ref q15, .ref q16, .ref q17, .int 0, .int (-1), .int 0, .ref q18, .ref q19, .ref q20, .ref q21, .ref q22, .ref q23, .ref q24, .ref q25, .int 0, .ref q26, .ref q27, .ref q28, .ref q29, .ref q30, .int 0, .ref q31, .ref q32, .ref q33, .ref q34, .int 0, .ref q35, .ref q36, .ref q37, .ref q38, .int 0, .int 0, .ref q39, .ref q40, .ref q41, .ref q42]))] H locs := w
  refine lv_if_ne (tgt := 21) hx hb dX12_told_16 (by decide) (fun _ => ?_) (fun h => h.elim (by decide))
  refine lv_iload_n hx hb dX12_told_21 rfl (lv_at hl 1 rfl) ?_
  refine lv_if_ne (tgt := 32) hx hb dX12_told_22 (by decide) (fun hf3 => ?_) (fun hf3 => ?_)
  · refine lv_aload_n hx hb dX12_told_32 rfl (lv_at hl 0 rfl) ?_
    refine fin_i C w (run_V C w mv_X12_286 (k56_acts C.b0 q0 q1 q2 q3 q4 q5 q6 q7 q8 q9 q10 q11 q12 q13 q14 q15 q16 q17 q18 q19 q20 q21 q22 q23 q24 q25 q26 q27 q28 q29 q30 q31 q32 q33 q34 q35 q36 q37 q38 q39 q40 q41 q42 H.size) [1, 0] rfl rfl 1 rfl rfl (by decide) rfl hl.1 rfl (Nat.le_of_ble_eq_true rfl) dX12_told_33 (cells2 := 0) (slots2 := 0) (by decide)) [1, 0] [] rfl rfl (by decide) (cells2 := 0) (slots2 := 0) (by decide) (fun u4 H locs w => ?_)
    have w : Wd s G A [(q0, .inr (12, [.int 0, .int 0, .int 0, .int 0, .int 0, .int 0, .int 0, .int (-1), .ref q2, .ref q1, .ref q3, .int 0, .ref q4, .ref q5, .ref q6, .ref q7, .ref q8, .ref q9, .ref q10, .int 0, .ref q11, .ref q12, .ref q13, .ref q14, .ref q15, .ref q16, .ref q17, .int 0, .int (-1), .int 0, .ref q18, .ref q19, .ref q20, .ref q21, .ref q22, .ref q23, .ref q24, .ref q25, .int 0, .ref q26, .ref q27, .ref q28, .ref q29, .ref q30, .int 0, .ref q31, .ref q32, .ref q33, .ref q34, .int 0, .ref q35, .ref q36, .ref q37, .ref q38, .int 0, .int 0, .ref q39, .ref q40, .ref q41, .ref q42])), (q1, .inl (G.2.1, 242, .inl (fun _ => 0)))] H locs := w
    exact e_i C hr w (fun _ => 0) [0, 1] rfl rfl rfl dX12_told_36 (by decide) (by decide)
  · refine lv_aload_n hx hb dX12_told_25 rfl (lv_at hl 0 rfl) ?_
    refine fin_i C w (run_V C w mv_X12_280 (k57_places C.b0 q0 q1 q2 q3 q4 q5 q6 q7 q8 q9 q10 q11 q12 q13 q14 q15 q16 q17 q18 q19 q20 q21 q22 q23 q24 q25 q26 q27 q28 q29 q30 q31 q32 q33 q34 q35 q36 q37 q38 q39 q40 q41 q42 H.size) [1, 0] rfl rfl 1 rfl rfl (by decide) rfl hl.1 rfl (Nat.le_of_ble_eq_true rfl) dX12_told_26 (cells2 := 0) (slots2 := 0) (by decide)) [1, 0] [] rfl rfl (by decide) (cells2 := 0) (slots2 := 0) (by decide) (fun u5 H locs w => ?_)
    have w : Wd s G A [(q0, .inr (12, [.int 0, .int 0, .int 0, .int 0, .int 0, .int 0, .int 0, .int (-1), .ref q2, .ref q1, .ref q3, .int 0, .ref q4, .ref q5, .ref q6, .ref q7, .ref q8, .ref q9, .ref q10, .int 0, .ref q11, .ref q12, .ref q13, .ref q14, .ref q15, .ref q16, .ref q17, .int 0, .int (-1), .int 0, .ref q18, .ref q19, .ref q20, .ref q21, .ref q22, .ref q23, .ref q24, .ref q25, .int 0, .ref q26, .ref q27, .ref q28, .ref q29, .ref q30, .int 0, .ref q31, .ref q32, .ref q33, .ref q34, .int 0, .ref q35, .ref q36, .ref q37, .ref q38, .int 0, .int 0, .ref q39, .ref q40, .ref q41, .ref q42])), (q1, .inl (G.2.1, 242, .inl (fun _ => 0)))] H locs := w
    refine lv_goto (tgt := 36) hx hb dX12_told_29 (by decide) ?_
    exact e_i C hr w (fun _ => 0) [0, 1] rfl rfl rfl dX12_told_36 (by decide) (by decide)
set_option maxRecDepth 100000 in
set_option maxHeartbeats 4000000 in
theorem k59_thrown {l : Launch} {s0 : State} {a0 : Array Value} {G : GT} (b0 : B0 l s0 a0 G) (q0 q1 q2 q3 q4 q5 q6 q7 q8 q9 q10 q11 q12 q13 q14 q15 q16 q17 q18 q19 q20 q21 q22 q23 q24 q25 q26 q27 q28 q29 q30 q31 q32 q33 q34 q35 q36 q37 q38 q39 q40 q41 q42 : Nat) (sz : Nat) : Ki l s0 G yX12_thrown cX12_thrown 1 (some .int) { frames := 0, cells := 0, slots := 0, locals := 0 } [.ref q0] [(q0, .inr (12, [.int 0, .int 0, .int 0, .int 0, .int 0, .int 0, .int 0, .int (-1), .ref q1, .ref q2, .ref q3, .int 0, .ref q4, .ref q5, .ref q6, .ref q7, .ref q8, .ref q9, .ref q10, .int 0, .ref q11, .ref q12, .ref q13, .ref q14, .ref q15, .ref q16, .ref q17, .int 0, .int (-1), .int 0, .ref q18, .ref q19, .ref q20, .ref q21, .ref q22, .ref q23, .ref q24, .ref q25, .int 0, .ref q26, .ref q27, .ref q28, .ref q29, .ref q30, .int 0, .ref q31, .ref q32, .ref q33, .ref q34, .int 0, .ref q35, .ref q36, .ref q37, .ref q38, .int 0, .int 0, .ref q39, .ref q40, .ref q41, .ref q42]))] sz 0 (fun u => [(q0, .inr (12, [.int 0, .int 0, .int 0, .int 0, .int 0, .int 0, .int 0, .int (-1), .ref q1, .ref q2, .ref q3, .int 0, .ref q4, .ref q5, .ref q6, .ref q7, .ref q8, .ref q9, .ref q10, .int 0, .ref q11, .ref q12, .ref q13, .ref q14, .ref q15, .ref q16, .ref q17, .int 0, .int (-1), .int 0, .ref q18, .ref q19, .ref q20, .ref q21, .ref q22, .ref q23, .ref q24, .ref q25, .int 0, .ref q26, .ref q27, .ref q28, .ref q29, .ref q30, .int 0, .ref q31, .ref q32, .ref q33, .ref q34, .int 0, .ref q35, .ref q36, .ref q37, .ref q38, .int 0, .int 0, .ref q39, .ref q40, .ref q41, .ref q42]))]) := by
  refine Ki.of b0 (own := RX12) (nm := "thrown") [(0, .ref q0)] rfl rfl (by decide +kernel) (Nat.le_of_ble_eq_true rfl) rfl ?_
  intro p e s m below meth c A C hr H locs w ls hl
  have hx := C.hx
  have hb := C.hb
  refine lv_aload_n hx hb dX12_thrown_0 rfl (lv_at hl 0 rfl) ?_
  refine r_get C w 0 rfl fr_X12_1 rfl dX12_thrown_1 ?_
  exact e_i C hr w (fun _ => 0) [0] rfl rfl rfl dX12_thrown_4 (by decide) (by decide)
set_option maxRecDepth 100000 in
set_option maxHeartbeats 4000000 in
theorem k60_needAct {l : Launch} {s0 : State} {a0 : Array Value} {G : GT} (b0 : B0 l s0 a0 G) (q0 q1 q2 q3 q4 q5 q6 q7 q8 q9 q10 q11 q12 q13 q14 q15 q16 q17 q18 q19 q20 q21 q22 q23 q24 : Nat) (x0 : Int32) (sz : Nat) : Kx l s0 G yX11_needAct cX11_needAct 2 none { frames := 6, cells := 1, slots := 6, locals := 90 } [.ref q0, .int x0] [(q0, .inr (11, [.ref q2, .ref q3, .ref q4, .ref q5, .ref q6, .ref q7, .ref q8, .ref q9, .ref q1, .ref q10, .int 0, .int (-1), .int 0, .int 0, .null, .null, .null, .null, .null])), (q1, .inr (2, [.int 0, .int 0, .ref q11, .ref q12, .ref q13, .ref q14, .ref q15, .ref q16, .ref q17, .ref q18, .ref q19, .ref q20, .ref q21, .ref q22, .ref q23, .ref q24, .int 0]))] sz "java/util/NoSuchElementException" := by
  refine Kx.of b0 (own := RX11) (nm := "needAct") [(0, .ref q0), (1, .int x0)] rfl rfl (by decide +kernel) (Nat.le_of_ble_eq_true rfl) rfl ?_
  intro p e s m below meth c A C ht H locs w ls hl
  have hx := C.hx
  have hb := C.hb
  refine lv_iload_n hx hb dX11_needAct_0 rfl (lv_at hl 1 rfl) ?_
  refine lv_if_lt (tgt := 15) hx hb dX11_needAct_1 (by decide) (fun hf1 => ?_) (fun hf1 => ?_)
  · exact r_throwSW C ht w hl.1 th_X11_360 C.b0.2.2.2.2.2.2.1 dX11_needAct_15 dX11_needAct_18 dX11_needAct_19 dX11_needAct_22 dX11_needAct_25 (by decide) (Nat.le_of_ble_eq_true rfl) (by decide) (by decide) (by decide) (by decide) [0, 1] rfl rfl
  · refine lv_iload_n hx hb dX11_needAct_4 rfl (lv_at hl 1 rfl) ?_
    refine lv_aload_n hx hb dX11_needAct_5 rfl (lv_at hl 0 rfl) ?_
    refine r_get C w 0 rfl fr_X11_54 rfl dX11_needAct_6 ?_
    refine r_get C w 1 rfl fr_X11_101 rfl dX11_needAct_9 ?_
    refine lv_icmp_lt (tgt := 26) hx hb dX11_needAct_12 (by decide) (fun h => absurd h hf1) (fun _ => ?_)
    exact r_throwSW C ht w hl.1 th_X11_360 C.b0.2.2.2.2.2.2.1 dX11_needAct_15 dX11_needAct_18 dX11_needAct_19 dX11_needAct_22 dX11_needAct_25 (by decide) (Nat.le_of_ble_eq_true rfl) (by decide) (by decide) (by decide) (by decide) [0, 1] rfl rfl
set_option maxRecDepth 100000 in
set_option maxHeartbeats 4000000 in
theorem k61_arc {l : Launch} {s0 : State} {a0 : Array Value} {G : GT} (b0 : B0 l s0 a0 G) (q0 q1 q2 q3 q4 q5 q6 q7 q8 q9 q10 q11 q12 q13 q14 q15 q16 q17 q18 q19 q20 q21 q22 q23 q24 : Nat) (x0 : Int32) (x1 : Int32) (x2 : Int32) (sz : Nat) : Kx l s0 G yX11_arc cX11_arc 5 (some .int) { frames := 7, cells := 1, slots := 6, locals := 111 } [.ref q0, .int x0, .int x1, .int x2] [(q0, .inr (11, [.ref q2, .ref q3, .ref q4, .ref q5, .ref q6, .ref q7, .ref q8, .ref q9, .ref q1, .ref q10, .int 0, .int (-1), .int 0, .int 0, .null, .null, .null, .null, .null])), (q1, .inr (2, [.int 0, .int 0, .ref q11, .ref q12, .ref q13, .ref q14, .ref q15, .ref q16, .ref q17, .ref q18, .ref q19, .ref q20, .ref q21, .ref q22, .ref q23, .ref q24, .int 0]))] sz "java/util/NoSuchElementException" := by
  refine Kx.of b0 (own := RX11) (nm := "arc") [(0, .ref q0), (1, .int x0), (2, .int x1), (3, .int x2)] rfl rfl (by decide +kernel) (Nat.le_of_ble_eq_true rfl) rfl ?_
  intro p e s m below meth c A C ht H locs w ls hl
  have hx := C.hx
  have hb := C.hb
  refine lv_aload_n hx hb dX11_arc_0 rfl (lv_at hl 0 rfl) ?_
  refine lv_iload_n hx hb dX11_arc_1 rfl (lv_at hl 1 rfl) ?_
  refine fin_x C w (run_Vx C w mv_X11_104 (k60_needAct C.b0 q0 q1 q2 q3 q4 q5 q6 q7 q8 q9 q10 q11 q12 q13 q14 q15 q16 q17 q18 q19 q20 q21 q22 q23 q24 x0 H.size) [0, 1] rfl rfl 0 rfl rfl (by decide) rfl hl.1 rfl (Nat.le_of_ble_eq_true rfl) dX11_arc_2 (cells2 := 1) (slots2 := 6) (by decide)) [0, 1] [] rfl rfl (by decide) (cells2 := 1) (slots2 := 6) (by decide) (fun qx2 ce H locs w hce hcv hcl => ?_)
  have w : Wd s G A [(q0, .inr (11, [.ref q2, .ref q3, .ref q4, .ref q5, .ref q6, .ref q7, .ref q8, .ref q9, .ref q1, .ref q10, .int 0, .int (-1), .int 0, .int 0, .null, .null, .null, .null, .null])), (q1, .inr (2, [.int 0, .int 0, .ref q11, .ref q12, .ref q13, .ref q14, .ref q15, .ref q16, .ref q17, .ref q18, .ref q19, .ref q20, .ref q21, .ref q22, .ref q23, .ref q24, .int 0]))] H locs := w
  exact r_out C ht w [0, 1] rfl rfl hce hcv hcl (by decide) (by decide)
set_option maxRecDepth 100000 in
set_option maxHeartbeats 4000000 in
theorem k62_arc {l : Launch} {s0 : State} {a0 : Array Value} {G : GT} (b0 : B0 l s0 a0 G) (q0 q1 q2 q3 q4 q5 q6 q7 q8 q9 q10 q11 q12 q13 q14 q15 q16 q17 q18 q19 q20 q21 q22 q23 q24 q25 : Nat) (x0 : Int32) (x1 : Int32) (x2 : Int32) (sz : Nat) : Kh l s0 G yL_arc cL_arc 6 (some .int) [(0, 12, 15, 22), (0, 12, 19, 24), (0, 12, 23, 13)] { frames := 8, cells := 1, slots := 6, locals := 135 } [.ref q0, .int x0, .int x1, .int x2, .ref q2] [(q0, .inr (11, [.ref q3, .ref q4, .ref q5, .ref q6, .ref q7, .ref q8, .ref q9, .ref q10, .ref q1, .ref q11, .int 0, .int (-1), .int 0, .int 0, .null, .null, .null, .null, .null])), (q1, .inr (2, [.int 0, .int 0, .ref q12, .ref q13, .ref q14, .ref q15, .ref q16, .ref q17, .ref q18, .ref q19, .ref q20, .ref q21, .ref q22, .ref q23, .ref q24, .ref q25, .int 0]))] sz 1 (fun u => [(q0, .inr (11, [.ref q3, .ref q4, .ref q5, .ref q6, .ref q7, .ref q8, .ref q9, .ref q10, .ref q1, .ref q11, .int 0, .int (-1), .int 0, .int 0, .null, .null, .null, .null, .null])), (q1, .inr (2, [.int 0, .int 0, .ref q12, .ref q13, .ref q14, .ref q15, .ref q16, .ref q17, .ref q18, .ref q19, .ref q20, .ref q21, .ref q22, .ref q23, .ref q24, .ref q25, .int 0]))]) := by
  refine Kh.of b0 (own := RL) (nm := "arc") [(0, .ref q0), (1, .int x0), (2, .int x1), (3, .int x2), (4, .ref q2)] rfl rfl (by decide +kernel) (Nat.le_of_ble_eq_true rfl) rfl ?_
  intro p e s m below meth c A C hr ht H locs w ls hl
  have hx := C.hx
  have hb := C.hb
  refine lv_aload hx hb dL_arc_0 (lv_at hl 4 rfl) ?_
  refine lv_iconst (v := 0) hx hb dL_arc_2 (by decide) ?_
  refine lv_aload_n hx hb dL_arc_3 rfl (lv_at hl 0 rfl) ?_
  refine lv_iload_n hx hb dL_arc_4 rfl (lv_at hl 1 rfl) ?_
  refine lv_iload_n hx hb dL_arc_5 rfl (lv_at hl 2 rfl) ?_
  refine lv_iload_n hx hb dL_arc_6 rfl (lv_at hl 3 rfl) ?_
  refine fin_x C w (run_Vx C w mv_L_18 (k61_arc C.b0 q0 q1 q3 q4 q5 q6 q7 q8 q9 q10 q11 q12 q13 q14 q15 q16 q17 q18 q19 q20 q21 q22 q23 q24 q25 x0 x1 x2 H.size) [0, 1] rfl rfl 0 rfl rfl (by decide) rfl hl.1 rfl (Nat.le_of_ble_eq_true rfl) dL_arc_7 (cells2 := 1) (slots2 := 6) (by decide)) [0, 1] [] rfl rfl (by decide) (cells2 := 1) (slots2 := 6) (by decide) (fun qx2 ce H locs w hce hcv hcl => ?_)
  have w : Wd s G A [(q0, .inr (11, [.ref q3, .ref q4, .ref q5, .ref q6, .ref q7, .ref q8, .ref q9, .ref q10, .ref q1, .ref q11, .int 0, .int (-1), .int 0, .int 0, .null, .null, .null, .null, .null])), (q1, .inr (2, [.int 0, .int 0, .ref q12, .ref q13, .ref q14, .ref q15, .ref q16, .ref q17, .ref q18, .ref q19, .ref q20, .ref q21, .ref q22, .ref q23, .ref q24, .ref q25, .int 0]))] H locs := w
  refine r_catch C ht (by decide) (by decide) tl_L_22 tk_java_util_NoSuchElementException hce hcv hcl ?_
  refine lv_astore (lv' := [(5, .ref qx2), (0, .ref q0), (1, .int x0), (2, .int x1), (3, .int x2), (4, .ref q2)]) hx hb dL_arc_15 hl (by decide) rfl (fun ls hl => ?_)
  refine lv_iconst (v := 1) hx hb dL_arc_17 (by decide) ?_
  exact e_i C hr w (fun _ => 0) [0, 1] rfl rfl rfl dL_arc_18 (by decide) (by decide)
set_option maxRecDepth 100000 in
set_option maxHeartbeats 4000000 in
theorem k63_within {l : Launch} {s0 : State} {a0 : Array Value} {G : GT} (b0 : B0 l s0 a0 G) (x0 : Int32) (sz : Nat) : Ki l s0 G yX12_within cX12_within 3 (some .boolean) { frames := 0, cells := 0, slots := 0, locals := 0 } [.int x0, .int 0, .int (-1)] [] sz 0 (fun u => []) := by
  refine Ki.of b0 (own := RX12) (nm := "within") [(0, .int x0), (1, .int 0), (2, .int (-1))] rfl rfl (by decide +kernel) (Nat.le_of_ble_eq_true rfl) rfl ?_
  intro p e s m below meth c A C hr H locs w ls hl
  have hx := C.hx
  have hb := C.hb
  refine lv_iload_n hx hb dX12_within_0 rfl (lv_at hl 0 rfl) ?_
  refine lv_iload_n hx hb dX12_within_1 rfl (lv_at hl 1 rfl) ?_
  refine lv_icmp_lt (tgt := 14) hx hb dX12_within_2 (by decide) (fun hf1 => ?_) (fun hf1 => ?_)
  · refine lv_iconst (v := 0) hx hb dX12_within_14 (by decide) ?_
    exact e_i C hr w (fun _ => 0) [] rfl rfl (by decide) dX12_within_15 (by decide) (by decide)
  · refine lv_iload_n hx hb dX12_within_5 rfl (lv_at hl 0 rfl) ?_
    refine lv_iload_n hx hb dX12_within_6 rfl (lv_at hl 2 rfl) ?_
    refine lv_icmp_gt (tgt := 14) hx hb dX12_within_7 (by decide) (fun _ => ?_) (fun h => absurd (kl2 (L := 0) (a := (-1)) hf1 (by decide)) h)
    refine lv_iconst (v := 0) hx hb dX12_within_14 (by decide) ?_
    exact e_i C hr w (fun _ => 0) [] rfl rfl (by decide) dX12_within_15 (by decide) (by decide)
set_option maxRecDepth 100000 in
set_option maxHeartbeats 4000000 in
theorem k64_isAct {l : Launch} {s0 : State} {a0 : Array Value} {G : GT} (b0 : B0 l s0 a0 G) (q0 q1 q2 q3 q4 q5 q6 q7 q8 q9 q10 q11 q12 q13 q14 q15 q16 q17 q18 q19 q20 q21 q22 q23 q24 q25 q26 q27 q28 q29 q30 q31 q32 q33 q34 q35 q36 q37 q38 q39 q40 q41 q42 : Nat) (x0 : Int32) (sz : Nat) : Ki l s0 G yX12_isAct cX12_isAct 3 (some .boolean) { frames := 1, cells := 0, slots := 0, locals := 22 } [.ref q0, .int x0, .int 1] [(q0, .inr (12, [.int 0, .int 0, .int 0, .int 0, .int 0, .int 0, .int 0, .int (-1), .ref q2, .ref q1, .ref q3, .int 0, .ref q4, .ref q5, .ref q6, .ref q7, .ref q8, .ref q9, .ref q10, .int 0, .ref q11, .ref q12, .ref q13, .ref q14, .ref q15, .ref q16, .ref q17, .int 0, .int (-1), .int 0, .ref q18, .ref q19, .ref q20, .ref q21, .ref q22, .ref q23, .ref q24, .ref q25, .int 0, .ref q26, .ref q27, .ref q28, .ref q29, .ref q30, .int 0, .ref q31, .ref q32, .ref q33, .ref q34, .int 0, .ref q35, .ref q36, .ref q37, .ref q38, .int 0, .int 0, .ref q39, .ref q40, .ref q41, .ref q42])), (q1, .inl (G.2.1, 242, .inl (fun _ => 0)))] sz 0 (fun u => [(q0, .inr (12, [.int 1, .int 0, .int 0, .int 0, .int 0, .int 0, .int 0, .int (-1), .ref q2, .ref q1, .ref q3, .int 0, .ref q4, .ref q5, .ref q6, .ref q7, .ref q8, .ref q9, .ref q10, .int 0, .ref q11, .ref q12, .ref q13, .ref q14, .ref q15, .ref q16, .ref q17, .int 0, .int (-1), .int 0, .ref q18, .ref q19, .ref q20, .ref q21, .ref q22, .ref q23, .ref q24, .ref q25, .int 0, .ref q26, .ref q27, .ref q28, .ref q29, .ref q30, .int 0, .ref q31, .ref q32, .ref q33, .ref q34, .int 0, .ref q35, .ref q36, .ref q37, .ref q38, .int 0, .int 0, .ref q39, .ref q40, .ref q41, .ref q42])), (q1, .inl (G.2.1, 242, .inl (fun _ => 0)))]) := by
  refine Ki.of b0 (own := RX12) (nm := "isAct") [(0, .ref q0), (1, .int x0), (2, .int 1)] rfl rfl (by decide +kernel) (Nat.le_of_ble_eq_true rfl) rfl ?_
  intro p e s m below meth c A C hr H locs w ls hl
  have hx := C.hx
  have hb := C.hb
  refine lv_aload_n hx hb dX12_isAct_0 rfl (lv_at hl 0 rfl) ?_
  refine lv_iload_n hx hb dX12_isAct_1 rfl (lv_at hl 1 rfl) ?_
  refine lv_iconst (v := 0) hx hb dX12_isAct_2 (by decide) ?_
  refine lv_aload_n hx hb dX12_isAct_3 rfl (lv_at hl 0 rfl) ?_
  refine fin_i C w (run_V C w mv_X12_286 (k56_acts C.b0 q0 q1 q2 q3 q4 q5 q6 q7 q8 q9 q10 q11 q12 q13 q14 q15 q16 q17 q18 q19 q20 q21 q22 q23 q24 q25 q26 q27 q28 q29 q30 q31 q32 q33 q34 q35 q36 q37 q38 q39 q40 q41 q42 H.size) [0, 1] rfl rfl 0 rfl rfl (by decide) rfl hl.1 rfl (Nat.le_of_ble_eq_true rfl) dX12_isAct_4 (cells2 := 0) (slots2 := 0) (by decide)) [0, 1] [] rfl rfl (by decide) (cells2 := 0) (slots2 := 0) (by decide) (fun u1 H locs w => ?_)
  have w : Wd s G A [(q0, .inr (12, [.int 0, .int 0, .int 0, .int 0, .int 0, .int 0, .int 0, .int (-1), .ref q2, .ref q1, .ref q3, .int 0, .ref q4, .ref q5, .ref q6, .ref q7, .ref q8, .ref q9, .ref q10, .int 0, .ref q11, .ref q12, .ref q13, .ref q14, .ref q15, .ref q16, .ref q17, .int 0, .int (-1), .int 0, .ref q18, .ref q19, .ref q20, .ref q21, .ref q22, .ref q23, .ref q24, .ref q25, .int 0, .ref q26, .ref q27, .ref q28, .ref q29, .ref q30, .int 0, .ref q31, .ref q32, .ref q33, .ref q34, .int 0, .ref q35, .ref q36, .ref q37, .ref q38, .int 0, .int 0, .ref q39, .ref q40, .ref q41, .ref q42])), (q1, .inl (G.2.1, 242, .inl (fun _ => 0)))] H locs := w
  refine lv_iconst (v := 1) hx hb dX12_isAct_7 (by decide) ?_
  refine lv_isub hx hb dX12_isAct_8 ?_
  refine z_i (v := (-1)) (by decide +kernel) ?_
  refine fin_i C w (run_S C w ms_X12_289 (k63_within C.b0 x0 H.size) [] rfl rfl (by decide) rfl hl.1 rfl (Nat.le_of_ble_eq_true rfl) dX12_isAct_9 (cells2 := 0) (slots2 := 0) (by decide)) [] [0, 1] rfl rfl (by decide) (cells2 := 0) (slots2 := 0) (by decide) (fun u2 H locs w => ?_)
  have w : Wd s G A [(q0, .inr (12, [.int 0, .int 0, .int 0, .int 0, .int 0, .int 0, .int 0, .int (-1), .ref q2, .ref q1, .ref q3, .int 0, .ref q4, .ref q5, .ref q6, .ref q7, .ref q8, .ref q9, .ref q10, .int 0, .ref q11, .ref q12, .ref q13, .ref q14, .ref q15, .ref q16, .ref q17, .int 0, .int (-1), .int 0, .ref q18, .ref q19, .ref q20, .ref q21, .ref q22, .ref q23, .ref q24, .ref q25, .int 0, .ref q26, .ref q27, .ref q28, .ref q29, .ref q30, .int 0, .ref q31, .ref q32, .ref q33, .ref q34, .int 0, .ref q35, .ref q36, .ref q37, .ref q38, .int 0, .int 0, .ref q39, .ref q40, .ref q41, .ref q42])), (q1, .inl (G.2.1, 242, .inl (fun _ => 0)))] H locs := w
  refine lv_iload_n hx hb dX12_isAct_12 rfl (lv_at hl 2 rfl) ?_
  refine fin_i C w (run_V C w mv_X12_267 (k18_may C.b0 q0 q2 q1 q3 q4 q5 q6 q7 q8 q9 q10 q11 q12 q13 q14 q15 q16 q17 q18 q19 q20 q21 q22 q23 q24 q25 q26 q27 q28 q29 q30 q31 q32 q33 q34 q35 q36 q37 q38 q39 q40 q41 q42 H.size) [0] rfl rfl 0 rfl rfl (by decide) rfl hl.1 rfl (Nat.le_of_ble_eq_true rfl) dX12_isAct_13 (cells2 := 0) (slots2 := 0) (by decide)) [0] [1] rfl rfl (by decide) (cells2 := 0) (slots2 := 0) (by decide) (fun u3 H locs w => ?_)
  have w : Wd s G A [(q1, .inl (G.2.1, 242, .inl (fun _ => 0))), (q0, .inr (12, [.int 1, .int 0, .int 0, .int 0, .int 0, .int 0, .int 0, .int (-1), .ref q2, .ref q1, .ref q3, .int 0, .ref q4, .ref q5, .ref q6, .ref q7, .ref q8, .ref q9, .ref q10, .int 0, .ref q11, .ref q12, .ref q13, .ref q14, .ref q15, .ref q16, .ref q17, .int 0, .int (-1), .int 0, .ref q18, .ref q19, .ref q20, .ref q21, .ref q22, .ref q23, .ref q24, .ref q25, .int 0, .ref q26, .ref q27, .ref q28, .ref q29, .ref q30, .int 0, .ref q31, .ref q32, .ref q33, .ref q34, .int 0, .ref q35, .ref q36, .ref q37, .ref q38, .int 0, .int 0, .ref q39, .ref q40, .ref q41, .ref q42]))] H locs := w
  exact e_i C hr w (fun _ => 0) [1, 0] rfl rfl (by decide) dX12_isAct_16 (by decide) (by decide)
set_option maxRecDepth 100000 in
set_option maxHeartbeats 4000000 in
theorem k65_arc {l : Launch} {s0 : State} {a0 : Array Value} {G : GT} (b0 : B0 l s0 a0 G) (q0 q1 q2 q3 q4 q5 q6 q7 q8 q9 q10 q11 q12 q13 q14 q15 q16 q17 q18 q19 q20 q21 q22 q23 q24 q25 q26 q27 q28 q29 q30 q31 q32 q33 q34 q35 q36 q37 q38 q39 q40 q41 q42 : Nat) (x0 : Int32) (x1 : Int32) (x2 : Int32) (sz : Nat) : Ki l s0 G yX12_arc cX12_arc 4 (some .int) { frames := 2, cells := 0, slots := 0, locals := 44 } [.ref q0, .int x0, .int x1, .int x2] [(q0, .inr (12, [.int 0, .int 0, .int 0, .int 0, .int 0, .int 0, .int 0, .int (-1), .ref q2, .ref q1, .ref q3, .int 0, .ref q4, .ref q5, .ref q6, .ref q7, .ref q8, .ref q9, .ref q10, .int 0, .ref q11, .ref q12, .ref q13, .ref q14, .ref q15, .ref q16, .ref q17, .int 0, .int (-1), .int 0, .ref q18, .ref q19, .ref q20, .ref q21, .ref q22, .ref q23, .ref q24, .ref q25, .int 0, .ref q26, .ref q27, .ref q28, .ref q29, .ref q30, .int 0, .ref q31, .ref q32, .ref q33, .ref q34, .int 0, .ref q35, .ref q36, .ref q37, .ref q38, .int 0, .int 0, .ref q39, .ref q40, .ref q41, .ref q42])), (q1, .inl (G.2.1, 242, .inl (fun _ => 0)))] sz 0 (fun u => [(q0, .inr (12, [.int 1, .int 0, .int 0, .int 0, .int 0, .int 0, .int 0, .int (-1), .ref q2, .ref q1, .ref q3, .int 0, .ref q4, .ref q5, .ref q6, .ref q7, .ref q8, .ref q9, .ref q10, .int 0, .ref q11, .ref q12, .ref q13, .ref q14, .ref q15, .ref q16, .ref q17, .int 0, .int (-1), .int 0, .ref q18, .ref q19, .ref q20, .ref q21, .ref q22, .ref q23, .ref q24, .ref q25, .int 0, .ref q26, .ref q27, .ref q28, .ref q29, .ref q30, .int 0, .ref q31, .ref q32, .ref q33, .ref q34, .int 0, .ref q35, .ref q36, .ref q37, .ref q38, .int 0, .int 0, .ref q39, .ref q40, .ref q41, .ref q42])), (q1, .inl (G.2.1, 242, .inl (fun _ => 0)))]) := by
  refine Ki.of b0 (own := RX12) (nm := "arc") [(0, .ref q0), (1, .int x0), (2, .int x1), (3, .int x2)] rfl rfl (by decide +kernel) (Nat.le_of_ble_eq_true rfl) rfl ?_
  intro p e s m below meth c A C hr H locs w ls hl
  have hx := C.hx
  have hb := C.hb
  refine lv_aload_n hx hb dX12_arc_0 rfl (lv_at hl 0 rfl) ?_
  refine lv_iconst (v := 0) hx hb dX12_arc_1 (by decide) ?_
  refine r_put C w 0 rfl fl_X12_1 (Nat.le_of_ble_eq_true rfl) rfl rfl dX12_arc_2 (ws2 := [(q0, .inr (12, [.int 0, .int 0, .int 0, .int 0, .int 0, .int 0, .int 0, .int (-1), .ref q2, .ref q1, .ref q3, .int 0, .ref q4, .ref q5, .ref q6, .ref q7, .ref q8, .ref q9, .ref q10, .int 0, .ref q11, .ref q12, .ref q13, .ref q14, .ref q15, .ref q16, .ref q17, .int 0, .int (-1), .int 0, .ref q18, .ref q19, .ref q20, .ref q21, .ref q22, .ref q23, .ref q24, .ref q25, .int 0, .ref q26, .ref q27, .ref q28, .ref q29, .ref q30, .int 0, .ref q31, .ref q32, .ref q33, .ref q34, .int 0, .ref q35, .ref q36, .ref q37, .ref q38, .int 0, .int 0, .ref q39, .ref q40, .ref q41, .ref q42])), (q1, .inl (G.2.1, 242, .inl (fun _ => 0)))]) rfl (fun H locs w => ?_)
  refine lv_aload_n hx hb dX12_arc_5 rfl (lv_at hl 0 rfl) ?_
  refine lv_iload_n hx hb dX12_arc_6 rfl (lv_at hl 1 rfl) ?_
  refine lv_iconst (v := 1) hx hb dX12_arc_7 (by decide) ?_
  refine fin_i C w (run_V C w mv_X12_293 (k64_isAct C.b0 q0 q1 q2 q3 q4 q5 q6 q7 q8 q9 q10 q11 q12 q13 q14 q15 q16 q17 q18 q19 q20 q21 q22 q23 q24 q25 q26 q27 q28 q29 q30 q31 q32 q33 q34 q35 q36 q37 q38 q39 q40 q41 q42 x0 H.size) [0, 1] rfl rfl 0 rfl rfl (by decide) rfl hl.1 rfl (Nat.le_of_ble_eq_true rfl) dX12_arc_8 (cells2 := 0) (slots2 := 0) (by decide)) [0, 1] [] rfl rfl (by decide) (cells2 := 0) (slots2 := 0) (by decide) (fun u1 H locs w => ?_)
  have w : Wd s G A [(q0, .inr (12, [.int 1, .int 0, .int 0, .int 0, .int 0, .int 0, .int 0, .int (-1), .ref q2, .ref q1, .ref q3, .int 0, .ref q4, .ref q5, .ref q6, .ref q7, .ref q8, .ref q9, .ref q10, .int 0, .ref q11, .ref q12, .ref q13, .ref q14, .ref q15, .ref q16, .ref q17, .int 0, .int (-1), .int 0, .ref q18, .ref q19, .ref q20, .ref q21, .ref q22, .ref q23, .ref q24, .ref q25, .int 0, .ref q26, .ref q27, .ref q28, .ref q29, .ref q30, .int 0, .ref q31, .ref q32, .ref q33, .ref q34, .int 0, .ref q35, .ref q36, .ref q37, .ref q38, .int 0, .int 0, .ref q39, .ref q40, .ref q41, .ref q42])), (q1, .inl (G.2.1, 242, .inl (fun _ => 0)))] H locs := w
  refine lv_if_eq (tgt := 37) hx hb dX12_arc_11 (by decide) (fun _ => ?_) (fun h => absurd (by decide) h)
  refine lv_iconst (v := 0) hx hb dX12_arc_37 (by decide) ?_
  exact e_i C hr w (fun _ => 0) [0, 1] rfl rfl rfl dX12_arc_38 (by decide) (by decide)
set_option maxRecDepth 100000 in
set_option maxHeartbeats 4000000 in
theorem k66_act {l : Launch} {s0 : State} {a0 : Array Value} {G : GT} (b0 : B0 l s0 a0 G) (q0 q1 q2 q3 q4 q5 q6 q7 q8 q9 q10 q11 q12 q13 q14 q15 q16 q17 q18 q19 q20 q21 q22 q23 q24 : Nat) (x0 : Int32) (x1 : Int32) (sz : Nat) : Kx l s0 G yX11_act cX11_act 3 (some .int) { frames := 7, cells := 1, slots := 6, locals := 111 } [.ref q0, .int x0, .int x1] [(q0, .inr (11, [.ref q2, .ref q3, .ref q4, .ref q5, .ref q6, .ref q7, .ref q8, .ref q9, .ref q1, .ref q10, .int 0, .int (-1), .int 0, .int 0, .null, .null, .null, .null, .null])), (q1, .inr (2, [.int 0, .int 0, .ref q11, .ref q12, .ref q13, .ref q14, .ref q15, .ref q16, .ref q17, .ref q18, .ref q19, .ref q20, .ref q21, .ref q22, .ref q23, .ref q24, .int 0]))] sz "java/util/NoSuchElementException" := by
  refine Kx.of b0 (own := RX11) (nm := "act") [(0, .ref q0), (1, .int x0), (2, .int x1)] rfl rfl (by decide +kernel) (Nat.le_of_ble_eq_true rfl) rfl ?_
  intro p e s m below meth c A C ht H locs w ls hl
  have hx := C.hx
  have hb := C.hb
  refine lv_aload_n hx hb dX11_act_0 rfl (lv_at hl 0 rfl) ?_
  refine lv_iload_n hx hb dX11_act_1 rfl (lv_at hl 1 rfl) ?_
  refine fin_x C w (run_Vx C w mv_X11_104 (k60_needAct C.b0 q0 q1 q2 q3 q4 q5 q6 q7 q8 q9 q10 q11 q12 q13 q14 q15 q16 q17 q18 q19 q20 q21 q22 q23 q24 x0 H.size) [0, 1] rfl rfl 0 rfl rfl (by decide) rfl hl.1 rfl (Nat.le_of_ble_eq_true rfl) dX11_act_2 (cells2 := 1) (slots2 := 6) (by decide)) [0, 1] [] rfl rfl (by decide) (cells2 := 1) (slots2 := 6) (by decide) (fun qx2 ce H locs w hce hcv hcl => ?_)
  have w : Wd s G A [(q0, .inr (11, [.ref q2, .ref q3, .ref q4, .ref q5, .ref q6, .ref q7, .ref q8, .ref q9, .ref q1, .ref q10, .int 0, .int (-1), .int 0, .int 0, .null, .null, .null, .null, .null])), (q1, .inr (2, [.int 0, .int 0, .ref q11, .ref q12, .ref q13, .ref q14, .ref q15, .ref q16, .ref q17, .ref q18, .ref q19, .ref q20, .ref q21, .ref q22, .ref q23, .ref q24, .int 0]))] H locs := w
  exact r_out C ht w [0, 1] rfl rfl hce hcv hcl (by decide) (by decide)
set_option maxRecDepth 100000 in
set_option maxHeartbeats 4000000 in
theorem k67_act {l : Launch} {s0 : State} {a0 : Array Value} {G : GT} (b0 : B0 l s0 a0 G) (q0 q1 q2 q3 q4 q5 q6 q7 q8 q9 q10 q11 q12 q13 q14 q15 q16 q17 q18 q19 q20 q21 q22 q23 q24 q25 : Nat) (x0 : Int32) (x1 : Int32) (sz : Nat) : Kh l s0 G yL_act cL_act 5 (some .int) [(0, 10, 13, 22), (0, 10, 17, 13)] { frames := 8, cells := 1, slots := 6, locals := 133 } [.ref q0, .int x0, .int x1, .ref q2] [(q0, .inr (11, [.ref q3, .ref q4, .ref q5, .ref q6, .ref q7, .ref q8, .ref q9, .ref q10, .ref q1, .ref q11, .int 0, .int (-1), .int 0, .int 0, .null, .null, .null, .null, .null])), (q1, .inr (2, [.int 0, .int 0, .ref q12, .ref q13, .ref q14, .ref q15, .ref q16, .ref q17, .ref q18, .ref q19, .ref q20, .ref q21, .ref q22, .ref q23, .ref q24, .ref q25, .int 0]))] sz 1 (fun u => [(q0, .inr (11, [.ref q3, .ref q4, .ref q5, .ref q6, .ref q7, .ref q8, .ref q9, .ref q10, .ref q1, .ref q11, .int 0, .int (-1), .int 0, .int 0, .null, .null, .null, .null, .null])), (q1, .inr (2, [.int 0, .int 0, .ref q12, .ref q13, .ref q14, .ref q15, .ref q16, .ref q17, .ref q18, .ref q19, .ref q20, .ref q21, .ref q22, .ref q23, .ref q24, .ref q25, .int 0]))]) := by
  refine Kh.of b0 (own := RL) (nm := "act") [(0, .ref q0), (1, .int x0), (2, .int x1), (3, .ref q2)] rfl rfl (by decide +kernel) (Nat.le_of_ble_eq_true rfl) rfl ?_
  intro p e s m below meth c A C hr ht H locs w ls hl
  have hx := C.hx
  have hb := C.hb
  refine lv_aload_n hx hb dL_act_0 rfl (lv_at hl 3 rfl) ?_
  refine lv_iconst (v := 0) hx hb dL_act_1 (by decide) ?_
  refine lv_aload_n hx hb dL_act_2 rfl (lv_at hl 0 rfl) ?_
  refine lv_iload_n hx hb dL_act_3 rfl (lv_at hl 1 rfl) ?_
  refine lv_iload_n hx hb dL_act_4 rfl (lv_at hl 2 rfl) ?_
  refine fin_x C w (run_Vx C w mv_L_26 (k66_act C.b0 q0 q1 q3 q4 q5 q6 q7 q8 q9 q10 q11 q12 q13 q14 q15 q16 q17 q18 q19 q20 q21 q22 q23 q24 q25 x0 x1 H.size) [0, 1] rfl rfl 0 rfl rfl (by decide) rfl hl.1 rfl (Nat.le_of_ble_eq_true rfl) dL_act_5 (cells2 := 1) (slots2 := 6) (by decide)) [0, 1] [] rfl rfl (by decide) (cells2 := 1) (slots2 := 6) (by decide) (fun qx2 ce H locs w hce hcv hcl => ?_)
  have w : Wd s G A [(q0, .inr (11, [.ref q3, .ref q4, .ref q5, .ref q6, .ref q7, .ref q8, .ref q9, .ref q10, .ref q1, .ref q11, .int 0, .int (-1), .int 0, .int 0, .null, .null, .null, .null, .null])), (q1, .inr (2, [.int 0, .int 0, .ref q12, .ref q13, .ref q14, .ref q15, .ref q16, .ref q17, .ref q18, .ref q19, .ref q20, .ref q21, .ref q22, .ref q23, .ref q24, .ref q25, .int 0]))] H locs := w
  refine r_catch C ht (by decide) (by decide) tl_L_22 tk_java_util_NoSuchElementException hce hcv hcl ?_
  refine lv_astore (lv' := [(4, .ref qx2), (0, .ref q0), (1, .int x0), (2, .int x1), (3, .ref q2)]) hx hb dL_act_13 hl (by decide) rfl (fun ls hl => ?_)
  refine lv_iconst (v := 1) hx hb dL_act_15 (by decide) ?_
  exact e_i C hr w (fun _ => 0) [0, 1] rfl rfl rfl dL_act_16 (by decide) (by decide)
set_option maxRecDepth 100000 in
set_option maxHeartbeats 4000000 in
theorem k68_act {l : Launch} {s0 : State} {a0 : Array Value} {G : GT} (b0 : B0 l s0 a0 G) (q0 q1 q2 q3 q4 q5 q6 q7 q8 q9 q10 q11 q12 q13 q14 q15 q16 q17 q18 q19 q20 q21 q22 q23 q24 q25 q26 q27 q28 q29 q30 q31 q32 q33 q34 q35 q36 q37 q38 q39 q40 q41 q42 : Nat) (x0 : Int32) (x1 : Int32) (sz : Nat) : Ki l s0 G yX12_act cX12_act 3 (some .int) { frames := 2, cells := 0, slots := 0, locals := 44 } [.ref q0, .int x0, .int x1] [(q0, .inr (12, [.int 0, .int 0, .int 0, .int 0, .int 0, .int 0, .int 0, .int (-1), .ref q2, .ref q1, .ref q3, .int 0, .ref q4, .ref q5, .ref q6, .ref q7, .ref q8, .ref q9, .ref q10, .int 0, .ref q11, .ref q12, .ref q13, .ref q14, .ref q15, .ref q16, .ref q17, .int 0, .int (-1), .int 0, .ref q18, .ref q19, .ref q20, .ref q21, .ref q22, .ref q23, .ref q24, .ref q25, .int 0, .ref q26, .ref q27, .ref q28, .ref q29, .ref q30, .int 0, .ref q31, .ref q32, .ref q33, .ref q34, .int 0, .ref q35, .ref q36, .ref q37, .ref q38, .int 0, .int 0, .ref q39, .ref q40, .ref q41, .ref q42])), (q1, .inl (G.2.1, 242, .inl (fun _ => 0)))] sz 0 (fun u => [(q0, .inr (12, [.int 1, .int 0, .int 0, .int 0, .int 0, .int 0, .int 0, .int (-1), .ref q2, .ref q1, .ref q3, .int 0, .ref q4, .ref q5, .ref q6, .ref q7, .ref q8, .ref q9, .ref q10, .int 0, .ref q11, .ref q12, .ref q13, .ref q14, .ref q15, .ref q16, .ref q17, .int 0, .int (-1), .int 0, .ref q18, .ref q19, .ref q20, .ref q21, .ref q22, .ref q23, .ref q24, .ref q25, .int 0, .ref q26, .ref q27, .ref q28, .ref q29, .ref q30, .int 0, .ref q31, .ref q32, .ref q33, .ref q34, .int 0, .ref q35, .ref q36, .ref q37, .ref q38, .int 0, .int 0, .ref q39, .ref q40, .ref q41, .ref q42])), (q1, .inl (G.2.1, 242, .inl (fun _ => 0)))]) := by
  refine Ki.of b0 (own := RX12) (nm := "act") [(0, .ref q0), (1, .int x0), (2, .int x1)] rfl rfl (by decide +kernel) (Nat.le_of_ble_eq_true rfl) rfl ?_
  intro p e s m below meth c A C hr H locs w ls hl
  have hx := C.hx
  have hb := C.hb
  refine lv_aload_n hx hb dX12_act_0 rfl (lv_at hl 0 rfl) ?_
  refine lv_iconst (v := 0) hx hb dX12_act_1 (by decide) ?_
  refine r_put C w 0 rfl fl_X12_1 (Nat.le_of_ble_eq_true rfl) rfl rfl dX12_act_2 (ws2 := [(q0, .inr (12, [.int 0, .int 0, .int 0, .int 0, .int 0, .int 0, .int 0, .int (-1), .ref q2, .ref q1, .ref q3, .int 0, .ref q4, .ref q5, .ref q6, .ref q7, .ref q8, .ref q9, .ref q10, .int 0, .ref q11, .ref q12, .ref q13, .ref q14, .ref q15, .ref q16, .ref q17, .int 0, .int (-1), .int 0, .ref q18, .ref q19, .ref q20, .ref q21, .ref q22, .ref q23, .ref q24, .ref q25, .int 0, .ref q26, .ref q27, .ref q28, .ref q29, .ref q30, .int 0, .ref q31, .ref q32, .ref q33, .ref q34, .int 0, .ref q35, .ref q36, .ref q37, .ref q38, .int 0, .int 0, .ref q39, .ref q40, .ref q41, .ref q42])), (q1, .inl (G.2.1, 242, .inl (fun _ => 0)))]) rfl (fun H locs w => ?_)
  refine lv_aload_n hx hb dX12_act_5 rfl (lv_at hl 0 rfl) ?_
  refine lv_iload_n hx hb dX12_act_6 rfl (lv_at hl 1 rfl) ?_
  refine lv_iconst (v := 1) hx hb dX12_act_7 (by decide) ?_
  refine fin_i C w (run_V C w mv_X12_293 (k64_isAct C.b0 q0 q1 q2 q3 q4 q5 q6 q7 q8 q9 q10 q11 q12 q13 q14 q15 q16 q17 q18 q19 q20 q21 q22 q23 q24 q25 q26 q27 q28 q29 q30 q31 q32 q33 q34 q35 q36 q37 q38 q39 q40 q41 q42 x0 H.size) [0, 1] rfl rfl 0 rfl rfl (by decide) rfl hl.1 rfl (Nat.le_of_ble_eq_true rfl) dX12_act_8 (cells2 := 0) (slots2 := 0) (by decide)) [0, 1] [] rfl rfl (by decide) (cells2 := 0) (slots2 := 0) (by decide) (fun u1 H locs w => ?_)
  have w : Wd s G A [(q0, .inr (12, [.int 1, .int 0, .int 0, .int 0, .int 0, .int 0, .int 0, .int (-1), .ref q2, .ref q1, .ref q3, .int 0, .ref q4, .ref q5, .ref q6, .ref q7, .ref q8, .ref q9, .ref q10, .int 0, .ref q11, .ref q12, .ref q13, .ref q14, .ref q15, .ref q16, .ref q17, .int 0, .int (-1), .int 0, .ref q18, .ref q19, .ref q20, .ref q21, .ref q22, .ref q23, .ref q24, .ref q25, .int 0, .ref q26, .ref q27, .ref q28, .ref q29, .ref q30, .int 0, .ref q31, .ref q32, .ref q33, .ref q34, .int 0, .ref q35, .ref q36, .ref q37, .ref q38, .int 0, .int 0, .ref q39, .ref q40, .ref q41, .ref q42])), (q1, .inl (G.2.1, 242, .inl (fun _ => 0)))] H locs := w
  refine lv_if_eq (tgt := 28) hx hb dX12_act_11 (by decide) (fun _ => ?_) (fun h => absurd (by decide) h)
  refine lv_iconst (v := 0) hx hb dX12_act_28 (by decide) ?_
  exact e_i C hr w (fun _ => 0) [0, 1] rfl rfl rfl dX12_act_29 (by decide) (by decide)
set_option maxRecDepth 100000 in
set_option maxHeartbeats 4000000 in
theorem k69_needPlace {l : Launch} {s0 : State} {a0 : Array Value} {G : GT} (b0 : B0 l s0 a0 G) (q0 q1 q2 q3 q4 q5 q6 q7 q8 q9 q10 q11 q12 q13 q14 q15 q16 q17 q18 q19 q20 q21 q22 q23 q24 : Nat) (x0 : Int32) (sz : Nat) : Kx l s0 G yX11_needPlace cX11_needPlace 2 none { frames := 6, cells := 1, slots := 6, locals := 90 } [.ref q0, .int x0] [(q0, .inr (11, [.ref q2, .ref q3, .ref q4, .ref q5, .ref q6, .ref q7, .ref q8, .ref q9, .ref q1, .ref q10, .int 0, .int (-1), .int 0, .int 0, .null, .null, .null, .null, .null])), (q1, .inr (2, [.int 0, .int 0, .ref q11, .ref q12, .ref q13, .ref q14, .ref q15, .ref q16, .ref q17, .ref q18, .ref q19, .ref q20, .ref q21, .ref q22, .ref q23, .ref q24, .int 0]))] sz "java/lang/IndexOutOfBoundsException" := by
  refine Kx.of b0 (own := RX11) (nm := "needPlace") [(0, .ref q0), (1, .int x0)] rfl rfl (by decide +kernel) (Nat.le_of_ble_eq_true rfl) rfl ?_
  intro p e s m below meth c A C ht H locs w ls hl
  have hx := C.hx
  have hb := C.hb
  refine lv_iload_n hx hb dX11_needPlace_0 rfl (lv_at hl 1 rfl) ?_
  refine lv_if_lt (tgt := 15) hx hb dX11_needPlace_1 (by decide) (fun hf1 => ?_) (fun hf1 => ?_)
  · exact r_throwSW C ht w hl.1 th_X11_365 C.b0.2.2.2.2.2.2.2 dX11_needPlace_15 dX11_needPlace_18 dX11_needPlace_19 dX11_needPlace_22 dX11_needPlace_25 (by decide) (Nat.le_of_ble_eq_true rfl) (by decide) (by decide) (by decide) (by decide) [0, 1] rfl rfl
  · refine lv_iload_n hx hb dX11_needPlace_4 rfl (lv_at hl 1 rfl) ?_
    refine lv_aload_n hx hb dX11_needPlace_5 rfl (lv_at hl 0 rfl) ?_
    refine r_get C w 0 rfl fr_X11_54 rfl dX11_needPlace_6 ?_
    refine r_get C w 1 rfl fr_X11_98 rfl dX11_needPlace_9 ?_
    refine lv_icmp_lt (tgt := 26) hx hb dX11_needPlace_12 (by decide) (fun h => absurd h hf1) (fun _ => ?_)
    exact r_throwSW C ht w hl.1 th_X11_365 C.b0.2.2.2.2.2.2.2 dX11_needPlace_15 dX11_needPlace_18 dX11_needPlace_19 dX11_needPlace_22 dX11_needPlace_25 (by decide) (Nat.le_of_ble_eq_true rfl) (by decide) (by decide) (by decide) (by decide) [0, 1] rfl rfl
set_option maxRecDepth 100000 in
set_option maxHeartbeats 4000000 in
theorem k70_marks {l : Launch} {s0 : State} {a0 : Array Value} {G : GT} (b0 : B0 l s0 a0 G) (q0 q1 q2 q3 q4 q5 q6 q7 q8 q9 q10 q11 q12 q13 q14 q15 q16 q17 q18 q19 q20 q21 q22 q23 q24 : Nat) (x0 : Int32) (x1 : Int32) (sz : Nat) : Kx l s0 G yX11_marks cX11_marks 3 (some .int) { frames := 7, cells := 1, slots := 6, locals := 111 } [.ref q0, .int x0, .int x1] [(q0, .inr (11, [.ref q2, .ref q3, .ref q4, .ref q5, .ref q6, .ref q7, .ref q8, .ref q9, .ref q1, .ref q10, .int 0, .int (-1), .int 0, .int 0, .null, .null, .null, .null, .null])), (q1, .inr (2, [.int 0, .int 0, .ref q11, .ref q12, .ref q13, .ref q14, .ref q15, .ref q16, .ref q17, .ref q18, .ref q19, .ref q20, .ref q21, .ref q22, .ref q23, .ref q24, .int 0]))] sz "java/lang/IndexOutOfBoundsException" := by
  refine Kx.of b0 (own := RX11) (nm := "marks") [(0, .ref q0), (1, .int x0), (2, .int x1)] rfl rfl (by decide +kernel) (Nat.le_of_ble_eq_true rfl) rfl ?_
  intro p e s m below meth c A C ht H locs w ls hl
  have hx := C.hx
  have hb := C.hb
  refine lv_aload_n hx hb dX11_marks_0 rfl (lv_at hl 0 rfl) ?_
  refine lv_iload_n hx hb dX11_marks_1 rfl (lv_at hl 1 rfl) ?_
  refine fin_x C w (run_Vx C w mv_X11_107 (k69_needPlace C.b0 q0 q1 q2 q3 q4 q5 q6 q7 q8 q9 q10 q11 q12 q13 q14 q15 q16 q17 q18 q19 q20 q21 q22 q23 q24 x0 H.size) [0, 1] rfl rfl 0 rfl rfl (by decide) rfl hl.1 rfl (Nat.le_of_ble_eq_true rfl) dX11_marks_2 (cells2 := 1) (slots2 := 6) (by decide)) [0, 1] [] rfl rfl (by decide) (cells2 := 1) (slots2 := 6) (by decide) (fun qx2 ce H locs w hce hcv hcl => ?_)
  have w : Wd s G A [(q0, .inr (11, [.ref q2, .ref q3, .ref q4, .ref q5, .ref q6, .ref q7, .ref q8, .ref q9, .ref q1, .ref q10, .int 0, .int (-1), .int 0, .int 0, .null, .null, .null, .null, .null])), (q1, .inr (2, [.int 0, .int 0, .ref q11, .ref q12, .ref q13, .ref q14, .ref q15, .ref q16, .ref q17, .ref q18, .ref q19, .ref q20, .ref q21, .ref q22, .ref q23, .ref q24, .int 0]))] H locs := w
  exact r_out C ht w [0, 1] rfl rfl hce hcv hcl (by decide) (by decide)
set_option maxRecDepth 100000 in
set_option maxHeartbeats 4000000 in
theorem k71_marks {l : Launch} {s0 : State} {a0 : Array Value} {G : GT} (b0 : B0 l s0 a0 G) (q0 q1 q2 q3 q4 q5 q6 q7 q8 q9 q10 q11 q12 q13 q14 q15 q16 q17 q18 q19 q20 q21 q22 q23 q24 q25 : Nat) (x0 : Int32) (x1 : Int32) (sz : Nat) : Kh l s0 G yL_marks cL_marks 5 (some .int) [(0, 10, 13, 24), (0, 10, 17, 13)] { frames := 8, cells := 1, slots := 6, locals := 133 } [.ref q0, .int x0, .int x1, .ref q2] [(q0, .inr (11, [.ref q3, .ref q4, .ref q5, .ref q6, .ref q7, .ref q8, .ref q9, .ref q10, .ref q1, .ref q11, .int 0, .int (-1), .int 0, .int 0, .null, .null, .null, .null, .null])), (q1, .inr (2, [.int 0, .int 0, .ref q12, .ref q13, .ref q14, .ref q15, .ref q16, .ref q17, .ref q18, .ref q19, .ref q20, .ref q21, .ref q22, .ref q23, .ref q24, .ref q25, .int 0]))] sz 1 (fun u => [(q0, .inr (11, [.ref q3, .ref q4, .ref q5, .ref q6, .ref q7, .ref q8, .ref q9, .ref q10, .ref q1, .ref q11, .int 0, .int (-1), .int 0, .int 0, .null, .null, .null, .null, .null])), (q1, .inr (2, [.int 0, .int 0, .ref q12, .ref q13, .ref q14, .ref q15, .ref q16, .ref q17, .ref q18, .ref q19, .ref q20, .ref q21, .ref q22, .ref q23, .ref q24, .ref q25, .int 0]))]) := by
  refine Kh.of b0 (own := RL) (nm := "marks") [(0, .ref q0), (1, .int x0), (2, .int x1), (3, .ref q2)] rfl rfl (by decide +kernel) (Nat.le_of_ble_eq_true rfl) rfl ?_
  intro p e s m below meth c A C hr ht H locs w ls hl
  have hx := C.hx
  have hb := C.hb
  refine lv_aload_n hx hb dL_marks_0 rfl (lv_at hl 3 rfl) ?_
  refine lv_iconst (v := 0) hx hb dL_marks_1 (by decide) ?_
  refine lv_aload_n hx hb dL_marks_2 rfl (lv_at hl 0 rfl) ?_
  refine lv_iload_n hx hb dL_marks_3 rfl (lv_at hl 1 rfl) ?_
  refine lv_iload_n hx hb dL_marks_4 rfl (lv_at hl 2 rfl) ?_
  refine fin_x C w (run_Vx C w mv_L_30 (k70_marks C.b0 q0 q1 q3 q4 q5 q6 q7 q8 q9 q10 q11 q12 q13 q14 q15 q16 q17 q18 q19 q20 q21 q22 q23 q24 q25 x0 x1 H.size) [0, 1] rfl rfl 0 rfl rfl (by decide) rfl hl.1 rfl (Nat.le_of_ble_eq_true rfl) dL_marks_5 (cells2 := 1) (slots2 := 6) (by decide)) [0, 1] [] rfl rfl (by decide) (cells2 := 1) (slots2 := 6) (by decide) (fun qx2 ce H locs w hce hcv hcl => ?_)
  have w : Wd s G A [(q0, .inr (11, [.ref q3, .ref q4, .ref q5, .ref q6, .ref q7, .ref q8, .ref q9, .ref q10, .ref q1, .ref q11, .int 0, .int (-1), .int 0, .int 0, .null, .null, .null, .null, .null])), (q1, .inr (2, [.int 0, .int 0, .ref q12, .ref q13, .ref q14, .ref q15, .ref q16, .ref q17, .ref q18, .ref q19, .ref q20, .ref q21, .ref q22, .ref q23, .ref q24, .ref q25, .int 0]))] H locs := w
  refine r_catch C ht (by decide) (by decide) tl_L_24 tk_java_lang_IndexOutOfBoundsException hce hcv hcl ?_
  refine lv_astore (lv' := [(4, .ref qx2), (0, .ref q0), (1, .int x0), (2, .int x1), (3, .ref q2)]) hx hb dL_marks_13 hl (by decide) rfl (fun ls hl => ?_)
  refine lv_iconst (v := 1) hx hb dL_marks_15 (by decide) ?_
  exact e_i C hr w (fun _ => 0) [0, 1] rfl rfl rfl dL_marks_16 (by decide) (by decide)
set_option maxRecDepth 100000 in
set_option maxHeartbeats 4000000 in
theorem k72_isPlace {l : Launch} {s0 : State} {a0 : Array Value} {G : GT} (b0 : B0 l s0 a0 G) (q0 q1 q2 q3 q4 q5 q6 q7 q8 q9 q10 q11 q12 q13 q14 q15 q16 q17 q18 q19 q20 q21 q22 q23 q24 q25 q26 q27 q28 q29 q30 q31 q32 q33 q34 q35 q36 q37 q38 q39 q40 q41 q42 : Nat) (x0 : Int32) (sz : Nat) : Ki l s0 G yX12_isPlace cX12_isPlace 3 (some .boolean) { frames := 1, cells := 0, slots := 0, locals := 22 } [.ref q0, .int x0, .int 1] [(q0, .inr (12, [.int 0, .int 0, .int 0, .int 0, .int 0, .int 0, .int 0, .int (-1), .ref q2, .ref q1, .ref q3, .int 0, .ref q4, .ref q5, .ref q6, .ref q7, .ref q8, .ref q9, .ref q10, .int 0, .ref q11, .ref q12, .ref q13, .ref q14, .ref q15, .ref q16, .ref q17, .int 0, .int (-1), .int 0, .ref q18, .ref q19, .ref q20, .ref q21, .ref q22, .ref q23, .ref q24, .ref q25, .int 0, .ref q26, .ref q27, .ref q28, .ref q29, .ref q30, .int 0, .ref q31, .ref q32, .ref q33, .ref q34, .int 0, .ref q35, .ref q36, .ref q37, .ref q38, .int 0, .int 0, .ref q39, .ref q40, .ref q41, .ref q42])), (q1, .inl (G.2.1, 242, .inl (fun _ => 0)))] sz 0 (fun u => [(q0, .inr (12, [.int 1, .int 0, .int 0, .int 0, .int 0, .int 0, .int 0, .int (-1), .ref q2, .ref q1, .ref q3, .int 0, .ref q4, .ref q5, .ref q6, .ref q7, .ref q8, .ref q9, .ref q10, .int 0, .ref q11, .ref q12, .ref q13, .ref q14, .ref q15, .ref q16, .ref q17, .int 0, .int (-1), .int 0, .ref q18, .ref q19, .ref q20, .ref q21, .ref q22, .ref q23, .ref q24, .ref q25, .int 0, .ref q26, .ref q27, .ref q28, .ref q29, .ref q30, .int 0, .ref q31, .ref q32, .ref q33, .ref q34, .int 0, .ref q35, .ref q36, .ref q37, .ref q38, .int 0, .int 0, .ref q39, .ref q40, .ref q41, .ref q42])), (q1, .inl (G.2.1, 242, .inl (fun _ => 0)))]) := by
  refine Ki.of b0 (own := RX12) (nm := "isPlace") [(0, .ref q0), (1, .int x0), (2, .int 1)] rfl rfl (by decide +kernel) (Nat.le_of_ble_eq_true rfl) rfl ?_
  intro p e s m below meth c A C hr H locs w ls hl
  have hx := C.hx
  have hb := C.hb
  refine lv_aload_n hx hb dX12_isPlace_0 rfl (lv_at hl 0 rfl) ?_
  refine lv_iload_n hx hb dX12_isPlace_1 rfl (lv_at hl 1 rfl) ?_
  refine lv_iconst (v := 0) hx hb dX12_isPlace_2 (by decide) ?_
  refine lv_aload_n hx hb dX12_isPlace_3 rfl (lv_at hl 0 rfl) ?_
  refine fin_i C w (run_V C w mv_X12_280 (k57_places C.b0 q0 q1 q2 q3 q4 q5 q6 q7 q8 q9 q10 q11 q12 q13 q14 q15 q16 q17 q18 q19 q20 q21 q22 q23 q24 q25 q26 q27 q28 q29 q30 q31 q32 q33 q34 q35 q36 q37 q38 q39 q40 q41 q42 H.size) [0, 1] rfl rfl 0 rfl rfl (by decide) rfl hl.1 rfl (Nat.le_of_ble_eq_true rfl) dX12_isPlace_4 (cells2 := 0) (slots2 := 0) (by decide)) [0, 1] [] rfl rfl (by decide) (cells2 := 0) (slots2 := 0) (by decide) (fun u1 H locs w => ?_)
  have w : Wd s G A [(q0, .inr (12, [.int 0, .int 0, .int 0, .int 0, .int 0, .int 0, .int 0, .int (-1), .ref q2, .ref q1, .ref q3, .int 0, .ref q4, .ref q5, .ref q6, .ref q7, .ref q8, .ref q9, .ref q10, .int 0, .ref q11, .ref q12, .ref q13, .ref q14, .ref q15, .ref q16, .ref q17, .int 0, .int (-1), .int 0, .ref q18, .ref q19, .ref q20, .ref q21, .ref q22, .ref q23, .ref q24, .ref q25, .int 0, .ref q26, .ref q27, .ref q28, .ref q29, .ref q30, .int 0, .ref q31, .ref q32, .ref q33, .ref q34, .int 0, .ref q35, .ref q36, .ref q37, .ref q38, .int 0, .int 0, .ref q39, .ref q40, .ref q41, .ref q42])), (q1, .inl (G.2.1, 242, .inl (fun _ => 0)))] H locs := w
  refine lv_iconst (v := 1) hx hb dX12_isPlace_7 (by decide) ?_
  refine lv_isub hx hb dX12_isPlace_8 ?_
  refine z_i (v := (-1)) (by decide +kernel) ?_
  refine fin_i C w (run_S C w ms_X12_289 (k63_within C.b0 x0 H.size) [] rfl rfl (by decide) rfl hl.1 rfl (Nat.le_of_ble_eq_true rfl) dX12_isPlace_9 (cells2 := 0) (slots2 := 0) (by decide)) [] [0, 1] rfl rfl (by decide) (cells2 := 0) (slots2 := 0) (by decide) (fun u2 H locs w => ?_)
  have w : Wd s G A [(q0, .inr (12, [.int 0, .int 0, .int 0, .int 0, .int 0, .int 0, .int 0, .int (-1), .ref q2, .ref q1, .ref q3, .int 0, .ref q4, .ref q5, .ref q6, .ref q7, .ref q8, .ref q9, .ref q10, .int 0, .ref q11, .ref q12, .ref q13, .ref q14, .ref q15, .ref q16, .ref q17, .int 0, .int (-1), .int 0, .ref q18, .ref q19, .ref q20, .ref q21, .ref q22, .ref q23, .ref q24, .ref q25, .int 0, .ref q26, .ref q27, .ref q28, .ref q29, .ref q30, .int 0, .ref q31, .ref q32, .ref q33, .ref q34, .int 0, .ref q35, .ref q36, .ref q37, .ref q38, .int 0, .int 0, .ref q39, .ref q40, .ref q41, .ref q42])), (q1, .inl (G.2.1, 242, .inl (fun _ => 0)))] H locs := w
  refine lv_iload_n hx hb dX12_isPlace_12 rfl (lv_at hl 2 rfl) ?_
  refine fin_i C w (run_V C w mv_X12_267 (k18_may C.b0 q0 q2 q1 q3 q4 q5 q6 q7 q8 q9 q10 q11 q12 q13 q14 q15 q16 q17 q18 q19 q20 q21 q22 q23 q24 q25 q26 q27 q28 q29 q30 q31 q32 q33 q34 q35 q36 q37 q38 q39 q40 q41 q42 H.size) [0] rfl rfl 0 rfl rfl (by decide) rfl hl.1 rfl (Nat.le_of_ble_eq_true rfl) dX12_isPlace_13 (cells2 := 0) (slots2 := 0) (by decide)) [0] [1] rfl rfl (by decide) (cells2 := 0) (slots2 := 0) (by decide) (fun u3 H locs w => ?_)
  have w : Wd s G A [(q1, .inl (G.2.1, 242, .inl (fun _ => 0))), (q0, .inr (12, [.int 1, .int 0, .int 0, .int 0, .int 0, .int 0, .int 0, .int (-1), .ref q2, .ref q1, .ref q3, .int 0, .ref q4, .ref q5, .ref q6, .ref q7, .ref q8, .ref q9, .ref q10, .int 0, .ref q11, .ref q12, .ref q13, .ref q14, .ref q15, .ref q16, .ref q17, .int 0, .int (-1), .int 0, .ref q18, .ref q19, .ref q20, .ref q21, .ref q22, .ref q23, .ref q24, .ref q25, .int 0, .ref q26, .ref q27, .ref q28, .ref q29, .ref q30, .int 0, .ref q31, .ref q32, .ref q33, .ref q34, .int 0, .ref q35, .ref q36, .ref q37, .ref q38, .int 0, .int 0, .ref q39, .ref q40, .ref q41, .ref q42]))] H locs := w
  exact e_i C hr w (fun _ => 0) [1, 0] rfl rfl (by decide) dX12_isPlace_16 (by decide) (by decide)
