set_option maxRecDepth 100000 in
set_option maxHeartbeats 4000000 in
theorem k337_rowsOfLength {l : Launch} {s0 : State} {a0 : Array Value} {G : GT} (b0 : B0 l s0 a0 G) (q0 q1 q2 q3 q4 q5 q6 q7 q8 q9 q10 q11 q12 q13 q14 q15 q16 q17 q18 q19 q20 q21 q22 q23 q24 q25 q26 q27 q28 q29 q30 q31 q32 q33 q34 q35 q36 q37 q38 : Nat) (x0 : Int32) (h0 : 0 < x0) (h1 : 1 < x0) (h2 : ¬ 10 < x0) (h3 : 2 < x0) (h4 : 3 < x0) (h5 : 4 < x0) (h6 : 5 < x0) (h7 : 6 < x0) (h8 : 7 < x0) (h9 : 8 < x0) (h10 : 9 < x0) (sz : Nat) : Kl l s0 G yX6_rowsOfLength cX6_rowsOfLength 5 (some .long) { frames := 2, cells := 0, slots := 0, locals := 50 } [.ref q0, .int x0] [(q0, .inr (6, [.int (-1), .ref q3, .ref q7, .ref q8, .ref q9, .ref q10, .ref q11, .ref q12, .ref q13, .ref q14, .ref q15, .ref q16, .ref q17, .ref q18, .ref q1, .ref q2, .int 0, .int 0, .int 0, .int 0])), (q1, .inl (G.2.2.1, 3008, .inr (.inl (fun _ => 0)))), (q2, .inl (G.2.2.1, 3008, .inr (.inl (fun _ => 0)))), (q3, .inr (1, [.int 0, .ref q6, .ref q19, .ref q4, .ref q5, .ref q20, .ref q21, .ref q22, .int 1])), (q4, .inr (7, [.ref q23, .int 0, .int 1, .int 3008, .ref q24])), (q5, .inl (G.2.1, 3008, .inl (fun _ => 0))), (q6, .inr (2, [.int 0, .int 0, .ref q25, .ref q26, .ref q27, .ref q28, .ref q29, .ref q30, .ref q31, .ref q32, .ref q33, .ref q34, .ref q35, .ref q36, .ref q37, .ref q38, .int 0]))] sz 0 (fun u => [(q0, .inr (6, [.int (-1), .ref q3, .ref q7, .ref q8, .ref q9, .ref q10, .ref q11, .ref q12, .ref q13, .ref q14, .ref q15, .ref q16, .ref q17, .ref q18, .ref q1, .ref q2, .int 0, .int 0, .int 0, .int 0])), (q1, .inl (G.2.2.1, 3008, .inr (.inl (fun _ => 0)))), (q2, .inl (G.2.2.1, 3008, .inr (.inl (fun _ => 0)))), (q3, .inr (1, [.int 0, .ref q6, .ref q19, .ref q4, .ref q5, .ref q20, .ref q21, .ref q22, .int 1])), (q4, .inr (7, [.ref q23, .int 0, .int 1, .int 3008, .ref q24])), (q5, .inl (G.2.1, 3008, .inl (fun _ => 0))), (q6, .inr (2, [.int 0, .int 0, .ref q25, .ref q26, .ref q27, .ref q28, .ref q29, .ref q30, .ref q31, .ref q32, .ref q33, .ref q34, .ref q35, .ref q36, .ref q37, .ref q38, .int 0]))]) := by
  refine Kl.of b0 (own := RX6) (nm := "rowsOfLength") [(0, .ref q0), (1, .int x0)] rfl rfl (by decide +kernel) (Nat.le_of_ble_eq_true rfl) rfl ?_
  intro p e s m below meth c A C hr H locs w ls hl
  have hx := C.hx
  have hb := C.hb
  refine lv_aload_n hx hb dX6_rowsOfLength_0 rfl (lv_at hl 0 rfl) ?_
  refine r_get C w 0 rfl fr_X6_54 rfl dX6_rowsOfLength_1 ?_
  refine lv_lconst (v := 0) hx hb dX6_rowsOfLength_4 (by decide) ?_
  refine fin_v C w (run_S C w ms_X6_142 (k_fillJ C.b0 q1 3008 (by decide) (fun _ => 0) 0 H.size) [1] rfl rfl (by decide) rfl hl.1 rfl (Nat.le_of_ble_eq_true rfl) dX6_rowsOfLength_5 (cells2 := 0) (slots2 := 0) (by decide)) [1] [0, 2, 3, 4, 5, 6] rfl rfl (by decide) (cells2 := 0) (slots2 := 0) (by decide) (fun u1 H locs w => ?_)
  have w : Wd s G A [(q0, .inr (6, [.int (-1), .ref q3, .ref q7, .ref q8, .ref q9, .ref q10, .ref q11, .ref q12, .ref q13, .ref q14, .ref q15, .ref q16, .ref q17, .ref q18, .ref q1, .ref q2, .int 0, .int 0, .int 0, .int 0])), (q2, .inl (G.2.2.1, 3008, .inr (.inl (fun _ => 0)))), (q3, .inr (1, [.int 0, .ref q6, .ref q19, .ref q4, .ref q5, .ref q20, .ref q21, .ref q22, .int 1])), (q4, .inr (7, [.ref q23, .int 0, .int 1, .int 3008, .ref q24])), (q5, .inl (G.2.1, 3008, .inl (fun _ => 0))), (q6, .inr (2, [.int 0, .int 0, .ref q25, .ref q26, .ref q27, .ref q28, .ref q29, .ref q30, .ref q31, .ref q32, .ref q33, .ref q34, .ref q35, .ref q36, .ref q37, .ref q38, .int 0])), (q1, .inl (G.2.2.1, 3008, .inr (.inl (fun _ => 0))))] H locs := w
  refine lv_aload_n hx hb dX6_rowsOfLength_8 rfl (lv_at hl 0 rfl) ?_
  refine r_get C w 0 rfl fr_X6_54 rfl dX6_rowsOfLength_9 ?_
  refine lv_iconst (v := 0) hx hb dX6_rowsOfLength_12 (by decide) ?_
  refine lv_lconst (v := 1) hx hb dX6_rowsOfLength_13 (by decide) ?_
  refine r_last C w 6 rfl (IX.of (k := 0) (by decide +kernel)) (g := (vp_updL (fun _ => 0) 0 1)) rfl dX6_rowsOfLength_14 (ws2 := [(q0, .inr (6, [.int (-1), .ref q3, .ref q7, .ref q8, .ref q9, .ref q10, .ref q11, .ref q12, .ref q13, .ref q14, .ref q15, .ref q16, .ref q17, .ref q18, .ref q1, .ref q2, .int 0, .int 0, .int 0, .int 0])), (q2, .inl (G.2.2.1, 3008, .inr (.inl (fun _ => 0)))), (q3, .inr (1, [.int 0, .ref q6, .ref q19, .ref q4, .ref q5, .ref q20, .ref q21, .ref q22, .int 1])), (q4, .inr (7, [.ref q23, .int 0, .int 1, .int 3008, .ref q24])), (q5, .inl (G.2.1, 3008, .inl (fun _ => 0))), (q6, .inr (2, [.int 0, .int 0, .ref q25, .ref q26, .ref q27, .ref q28, .ref q29, .ref q30, .ref q31, .ref q32, .ref q33, .ref q34, .ref q35, .ref q36, .ref q37, .ref q38, .int 0])), (q1, .inl (G.2.2.1, 3008, .inr (.inl (vp_updL (fun _ => 0) 0 1))))]) rfl (fun H locs w => ?_)
  refine lv_lconst (v := 1) hx hb dX6_rowsOfLength_15 (by decide) ?_
  refine lv_lstore_n (lv' := [(2, .long 1), (0, .ref q0), (1, .int x0)]) hx hb dX6_rowsOfLength_16 rfl hl (by decide) rfl (fun ls hl => ?_)
  refine lv_iconst (v := 0) hx hb dX6_rowsOfLength_17 (by decide) ?_
  refine lv_istore (lv' := [(4, .int 0), (2, .long 1), (0, .ref q0), (1, .int x0)]) hx hb dX6_rowsOfLength_18 hl (by decide) rfl (fun ls hl => ?_)
  refine lv_iload hx hb dX6_rowsOfLength_20 (lv_at hl 0 rfl) ?_
  refine lv_iload_n hx hb dX6_rowsOfLength_22 rfl (lv_at hl 3 rfl) ?_
  refine lv_icmp_ge (tgt := 39) hx hb dX6_rowsOfLength_23 (by decide) (fun h => absurd h (Int32.not_le.mpr h0)) (fun _ => ?_)
  refine lv_aload_n hx hb dX6_rowsOfLength_26 rfl (lv_at hl 2 rfl) ?_
  refine lv_iload hx hb dX6_rowsOfLength_27 (lv_at hl 0 rfl) ?_
  refine fin_l C w (run_V C w mv_X6_145 (k276_lengthen C.b0 q0 q2 q3 q4 q5 q6 q7 q8 q9 q10 q11 q12 q13 q14 q15 q16 q17 q18 q1 q19 q20 q21 q22 q23 q24 q25 q26 q27 q28 q29 q30 q31 q32 q33 q34 q35 q36 q37 q38 H.size) [0, 1, 2, 3, 4, 5] rfl rfl 0 rfl rfl (by decide) rfl hl.1 rfl (Nat.le_of_ble_eq_true rfl) dX6_rowsOfLength_29 (cells2 := 0) (slots2 := 0) (by decide)) [0, 1, 2, 3, 4, 5] [6] rfl rfl (by decide) (cells2 := 0) (slots2 := 0) (by decide) (fun u2 H locs w => ?_)
  have w : Wd s G A [(q1, .inl (G.2.2.1, 3008, .inr (.inl (vp_updL (fun _ => 0) 0 1)))), (q0, .inr (6, [.int (-1), .ref q3, .ref q7, .ref q8, .ref q9, .ref q10, .ref q11, .ref q12, .ref q13, .ref q14, .ref q15, .ref q16, .ref q17, .ref q18, .ref q2, .ref q1, .int 0, .int 0, .int 0, .int 0])), (q2, .inl (G.2.2.1, 3008, .inr (.inl (fun _ => 0)))), (q3, .inr (1, [.int 0, .ref q6, .ref q19, .ref q4, .ref q5, .ref q20, .ref q21, .ref q22, .int 1])), (q4, .inr (7, [.ref q23, .int 0, .int 1, .int 3008, .ref q24])), (q5, .inl (G.2.1, 3008, .inl (fun _ => 0))), (q6, .inr (2, [.int 0, .int 0, .ref q25, .ref q26, .ref q27, .ref q28, .ref q29, .ref q30, .ref q31, .ref q32, .ref q33, .ref q34, .ref q35, .ref q36, .ref q37, .ref q38, .int 0]))] H locs := w
  refine lv_lstore_n (lv' := [(2, .long 0), (4, .int 0), (0, .ref q0), (1, .int x0)]) hx hb dX6_rowsOfLength_32 rfl hl (by decide) rfl (fun ls hl => ?_)
  refine lv_iinc (v := 1) (lv' := [(4, .int 1), (2, .long 0), (0, .ref q0), (1, .int x0)]) hx hb dX6_rowsOfLength_33 hl (k := 1) rfl (by decide +kernel) (by decide) rfl (fun ls hl => ?_)
  refine lv_goto (tgt := 20) hx hb dX6_rowsOfLength_36 (by decide) ?_
  refine lv_iload hx hb dX6_rowsOfLength_20 (lv_at hl 0 rfl) ?_
  refine lv_iload_n hx hb dX6_rowsOfLength_22 rfl (lv_at hl 3 rfl) ?_
  refine lv_icmp_ge (tgt := 39) hx hb dX6_rowsOfLength_23 (by decide) (fun h => absurd h (Int32.not_le.mpr h1)) (fun _ => ?_)
  refine lv_aload_n hx hb dX6_rowsOfLength_26 rfl (lv_at hl 2 rfl) ?_
  refine lv_iload hx hb dX6_rowsOfLength_27 (lv_at hl 0 rfl) ?_
  refine fin_l C w (run_V C w mv_X6_145 (k277_lengthen C.b0 q0 q1 q3 q4 q5 q6 q7 q8 q9 q10 q11 q12 q13 q14 q15 q16 q17 q18 q2 q19 q20 q21 q22 q23 q24 q25 q26 q27 q28 q29 q30 q31 q32 q33 q34 q35 q36 q37 q38 (vp_updL (fun _ => 0) 0 1) H.size) [1, 0, 3, 4, 5, 6] rfl rfl 1 rfl rfl (by decide) rfl hl.1 rfl (Nat.le_of_ble_eq_true rfl) dX6_rowsOfLength_29 (cells2 := 0) (slots2 := 0) (by decide)) [1, 0, 3, 4, 5, 6] [2] rfl rfl (by decide) (cells2 := 0) (slots2 := 0) (by decide) (fun u3 H locs w => ?_)
  have w : Wd s G A [(q2, .inl (G.2.2.1, 3008, .inr (.inl (fun _ => 0)))), (q0, .inr (6, [.int (-1), .ref q3, .ref q7, .ref q8, .ref q9, .ref q10, .ref q11, .ref q12, .ref q13, .ref q14, .ref q15, .ref q16, .ref q17, .ref q18, .ref q1, .ref q2, .int 0, .int 0, .int 0, .int 0])), (q1, .inl (G.2.2.1, 3008, .inr (.inl (fun _ => 0)))), (q3, .inr (1, [.int 0, .ref q6, .ref q19, .ref q4, .ref q5, .ref q20, .ref q21, .ref q22, .int 1])), (q4, .inr (7, [.ref q23, .int 0, .int 1, .int 3008, .ref q24])), (q5, .inl (G.2.1, 3008, .inl (fun _ => 0))), (q6, .inr (2, [.int 0, .int 0, .ref q25, .ref q26, .ref q27, .ref q28, .ref q29, .ref q30, .ref q31, .ref q32, .ref q33, .ref q34, .ref q35, .ref q36, .ref q37, .ref q38, .int 0]))] H locs := w
  refine lv_lstore_n (lv' := [(2, .long 0), (4, .int 1), (0, .ref q0), (1, .int x0)]) hx hb dX6_rowsOfLength_32 rfl hl (by decide) rfl (fun ls hl => ?_)
  refine lv_iinc (v := 2) (lv' := [(4, .int 2), (2, .long 0), (0, .ref q0), (1, .int x0)]) hx hb dX6_rowsOfLength_33 hl (k := 1) rfl (by decide +kernel) (by decide) rfl (fun ls hl => ?_)
  refine lv_goto (tgt := 20) hx hb dX6_rowsOfLength_36 (by decide) ?_
  refine lv_iload hx hb dX6_rowsOfLength_20 (lv_at hl 0 rfl) ?_
  refine lv_iload_n hx hb dX6_rowsOfLength_22 rfl (lv_at hl 3 rfl) ?_
  refine lv_icmp_ge (tgt := 39) hx hb dX6_rowsOfLength_23 (by decide) (fun h => absurd h (Int32.not_le.mpr h3)) (fun _ => ?_)
  refine lv_aload_n hx hb dX6_rowsOfLength_26 rfl (lv_at hl 2 rfl) ?_
  refine lv_iload hx hb dX6_rowsOfLength_27 (lv_at hl 0 rfl) ?_
  refine fin_l C w (run_V C w mv_X6_145 (k278_lengthen C.b0 q0 q2 q3 q4 q5 q6 q7 q8 q9 q10 q11 q12 q13 q14 q15 q16 q17 q18 q1 q19 q20 q21 q22 q23 q24 q25 q26 q27 q28 q29 q30 q31 q32 q33 q34 q35 q36 q37 q38 H.size) [1, 0, 3, 4, 5, 6] rfl rfl 1 rfl rfl (by decide) rfl hl.1 rfl (Nat.le_of_ble_eq_true rfl) dX6_rowsOfLength_29 (cells2 := 0) (slots2 := 0) (by decide)) [1, 0, 3, 4, 5, 6] [2] rfl rfl (by decide) (cells2 := 0) (slots2 := 0) (by decide) (fun u4 H locs w => ?_)
  have w : Wd s G A [(q1, .inl (G.2.2.1, 3008, .inr (.inl (fun _ => 0)))), (q0, .inr (6, [.int (-1), .ref q3, .ref q7, .ref q8, .ref q9, .ref q10, .ref q11, .ref q12, .ref q13, .ref q14, .ref q15, .ref q16, .ref q17, .ref q18, .ref q2, .ref q1, .int 0, .int 0, .int 0, .int 0])), (q2, .inl (G.2.2.1, 3008, .inr (.inl (fun _ => 0)))), (q3, .inr (1, [.int 0, .ref q6, .ref q19, .ref q4, .ref q5, .ref q20, .ref q21, .ref q22, .int 1])), (q4, .inr (7, [.ref q23, .int 0, .int 1, .int 3008, .ref q24])), (q5, .inl (G.2.1, 3008, .inl (fun _ => 0))), (q6, .inr (2, [.int 0, .int 0, .ref q25, .ref q26, .ref q27, .ref q28, .ref q29, .ref q30, .ref q31, .ref q32, .ref q33, .ref q34, .ref q35, .ref q36, .ref q37, .ref q38, .int 0]))] H locs := w
  refine lv_lstore_n (lv' := [(2, .long 0), (4, .int 2), (0, .ref q0), (1, .int x0)]) hx hb dX6_rowsOfLength_32 rfl hl (by decide) rfl (fun ls hl => ?_)
  refine lv_iinc (v := 3) (lv' := [(4, .int 3), (2, .long 0), (0, .ref q0), (1, .int x0)]) hx hb dX6_rowsOfLength_33 hl (k := 1) rfl (by decide +kernel) (by decide) rfl (fun ls hl => ?_)
  refine lv_goto (tgt := 20) hx hb dX6_rowsOfLength_36 (by decide) ?_
  refine lv_iload hx hb dX6_rowsOfLength_20 (lv_at hl 0 rfl) ?_
  refine lv_iload_n hx hb dX6_rowsOfLength_22 rfl (lv_at hl 3 rfl) ?_
  refine lv_icmp_ge (tgt := 39) hx hb dX6_rowsOfLength_23 (by decide) (fun h => absurd h (Int32.not_le.mpr h4)) (fun _ => ?_)
  refine lv_aload_n hx hb dX6_rowsOfLength_26 rfl (lv_at hl 2 rfl) ?_
  refine lv_iload hx hb dX6_rowsOfLength_27 (lv_at hl 0 rfl) ?_
  refine fin_l C w (run_V C w mv_X6_145 (k279_lengthen C.b0 q0 q1 q3 q4 q5 q6 q7 q8 q9 q10 q11 q12 q13 q14 q15 q16 q17 q18 q2 q19 q20 q21 q22 q23 q24 q25 q26 q27 q28 q29 q30 q31 q32 q33 q34 q35 q36 q37 q38 H.size) [1, 0, 3, 4, 5, 6] rfl rfl 1 rfl rfl (by decide) rfl hl.1 rfl (Nat.le_of_ble_eq_true rfl) dX6_rowsOfLength_29 (cells2 := 0) (slots2 := 0) (by decide)) [1, 0, 3, 4, 5, 6] [2] rfl rfl (by decide) (cells2 := 0) (slots2 := 0) (by decide) (fun u5 H locs w => ?_)
  have w : Wd s G A [(q2, .inl (G.2.2.1, 3008, .inr (.inl (fun _ => 0)))), (q0, .inr (6, [.int (-1), .ref q3, .ref q7, .ref q8, .ref q9, .ref q10, .ref q11, .ref q12, .ref q13, .ref q14, .ref q15, .ref q16, .ref q17, .ref q18, .ref q1, .ref q2, .int 0, .int 0, .int 0, .int 0])), (q1, .inl (G.2.2.1, 3008, .inr (.inl (fun _ => 0)))), (q3, .inr (1, [.int 0, .ref q6, .ref q19, .ref q4, .ref q5, .ref q20, .ref q21, .ref q22, .int 1])), (q4, .inr (7, [.ref q23, .int 0, .int 1, .int 3008, .ref q24])), (q5, .inl (G.2.1, 3008, .inl (fun _ => 0))), (q6, .inr (2, [.int 0, .int 0, .ref q25, .ref q26, .ref q27, .ref q28, .ref q29, .ref q30, .ref q31, .ref q32, .ref q33, .ref q34, .ref q35, .ref q36, .ref q37, .ref q38, .int 0]))] H locs := w
  refine lv_lstore_n (lv' := [(2, .long 0), (4, .int 3), (0, .ref q0), (1, .int x0)]) hx hb dX6_rowsOfLength_32 rfl hl (by decide) rfl (fun ls hl => ?_)
  refine lv_iinc (v := 4) (lv' := [(4, .int 4), (2, .long 0), (0, .ref q0), (1, .int x0)]) hx hb dX6_rowsOfLength_33 hl (k := 1) rfl (by decide +kernel) (by decide) rfl (fun ls hl => ?_)
  refine lv_goto (tgt := 20) hx hb dX6_rowsOfLength_36 (by decide) ?_
  refine lv_iload hx hb dX6_rowsOfLength_20 (lv_at hl 0 rfl) ?_
  refine lv_iload_n hx hb dX6_rowsOfLength_22 rfl (lv_at hl 3 rfl) ?_
  refine lv_icmp_ge (tgt := 39) hx hb dX6_rowsOfLength_23 (by decide) (fun h => absurd h (Int32.not_le.mpr h5)) (fun _ => ?_)
  refine lv_aload_n hx hb dX6_rowsOfLength_26 rfl (lv_at hl 2 rfl) ?_
  refine lv_iload hx hb dX6_rowsOfLength_27 (lv_at hl 0 rfl) ?_
  refine fin_l C w (run_V C w mv_X6_145 (k280_lengthen C.b0 q0 q2 q3 q4 q5 q6 q7 q8 q9 q10 q11 q12 q13 q14 q15 q16 q17 q18 q1 q19 q20 q21 q22 q23 q24 q25 q26 q27 q28 q29 q30 q31 q32 q33 q34 q35 q36 q37 q38 H.size) [1, 0, 3, 4, 5, 6] rfl rfl 1 rfl rfl (by decide) rfl hl.1 rfl (Nat.le_of_ble_eq_true rfl) dX6_rowsOfLength_29 (cells2 := 0) (slots2 := 0) (by decide)) [1, 0, 3, 4, 5, 6] [2] rfl rfl (by decide) (cells2 := 0) (slots2 := 0) (by decide) (fun u6 H locs w => ?_)
  have w : Wd s G A [(q1, .inl (G.2.2.1, 3008, .inr (.inl (fun _ => 0)))), (q0, .inr (6, [.int (-1), .ref q3, .ref q7, .ref q8, .ref q9, .ref q10, .ref q11, .ref q12, .ref q13, .ref q14, .ref q15, .ref q16, .ref q17, .ref q18, .ref q2, .ref q1, .int 0, .int 0, .int 0, .int 0])), (q2, .inl (G.2.2.1, 3008, .inr (.inl (fun _ => 0)))), (q3, .inr (1, [.int 0, .ref q6, .ref q19, .ref q4, .ref q5, .ref q20, .ref q21, .ref q22, .int 1])), (q4, .inr (7, [.ref q23, .int 0, .int 1, .int 3008, .ref q24])), (q5, .inl (G.2.1, 3008, .inl (fun _ => 0))), (q6, .inr (2, [.int 0, .int 0, .ref q25, .ref q26, .ref q27, .ref q28, .ref q29, .ref q30, .ref q31, .ref q32, .ref q33, .ref q34, .ref q35, .ref q36, .ref q37, .ref q38, .int 0]))] H locs := w
  refine lv_lstore_n (lv' := [(2, .long 0), (4, .int 4), (0, .ref q0), (1, .int x0)]) hx hb dX6_rowsOfLength_32 rfl hl (by decide) rfl (fun ls hl => ?_)
  refine lv_iinc (v := 5) (lv' := [(4, .int 5), (2, .long 0), (0, .ref q0), (1, .int x0)]) hx hb dX6_rowsOfLength_33 hl (k := 1) rfl (by decide +kernel) (by decide) rfl (fun ls hl => ?_)
  refine lv_goto (tgt := 20) hx hb dX6_rowsOfLength_36 (by decide) ?_
  refine lv_iload hx hb dX6_rowsOfLength_20 (lv_at hl 0 rfl) ?_
  refine lv_iload_n hx hb dX6_rowsOfLength_22 rfl (lv_at hl 3 rfl) ?_
  refine lv_icmp_ge (tgt := 39) hx hb dX6_rowsOfLength_23 (by decide) (fun h => absurd h (Int32.not_le.mpr h6)) (fun _ => ?_)
  refine lv_aload_n hx hb dX6_rowsOfLength_26 rfl (lv_at hl 2 rfl) ?_
  refine lv_iload hx hb dX6_rowsOfLength_27 (lv_at hl 0 rfl) ?_
  refine fin_l C w (run_V C w mv_X6_145 (k281_lengthen C.b0 q0 q1 q3 q4 q5 q6 q7 q8 q9 q10 q11 q12 q13 q14 q15 q16 q17 q18 q2 q19 q20 q21 q22 q23 q24 q25 q26 q27 q28 q29 q30 q31 q32 q33 q34 q35 q36 q37 q38 H.size) [1, 0, 3, 4, 5, 6] rfl rfl 1 rfl rfl (by decide) rfl hl.1 rfl (Nat.le_of_ble_eq_true rfl) dX6_rowsOfLength_29 (cells2 := 0) (slots2 := 0) (by decide)) [1, 0, 3, 4, 5, 6] [2] rfl rfl (by decide) (cells2 := 0) (slots2 := 0) (by decide) (fun u7 H locs w => ?_)
  have w : Wd s G A [(q2, .inl (G.2.2.1, 3008, .inr (.inl (fun _ => 0)))), (q0, .inr (6, [.int (-1), .ref q3, .ref q7, .ref q8, .ref q9, .ref q10, .ref q11, .ref q12, .ref q13, .ref q14, .ref q15, .ref q16, .ref q17, .ref q18, .ref q1, .ref q2, .int 0, .int 0, .int 0, .int 0])), (q1, .inl (G.2.2.1, 3008, .inr (.inl (fun _ => 0)))), (q3, .inr (1, [.int 0, .ref q6, .ref q19, .ref q4, .ref q5, .ref q20, .ref q21, .ref q22, .int 1])), (q4, .inr (7, [.ref q23, .int 0, .int 1, .int 3008, .ref q24])), (q5, .inl (G.2.1, 3008, .inl (fun _ => 0))), (q6, .inr (2, [.int 0, .int 0, .ref q25, .ref q26, .ref q27, .ref q28, .ref q29, .ref q30, .ref q31, .ref q32, .ref q33, .ref q34, .ref q35, .ref q36, .ref q37, .ref q38, .int 0]))] H locs := w
  refine lv_lstore_n (lv' := [(2, .long 0), (4, .int 5), (0, .ref q0), (1, .int x0)]) hx hb dX6_rowsOfLength_32 rfl hl (by decide) rfl (fun ls hl => ?_)
  refine lv_iinc (v := 6) (lv' := [(4, .int 6), (2, .long 0), (0, .ref q0), (1, .int x0)]) hx hb dX6_rowsOfLength_33 hl (k := 1) rfl (by decide +kernel) (by decide) rfl (fun ls hl => ?_)
  refine lv_goto (tgt := 20) hx hb dX6_rowsOfLength_36 (by decide) ?_
  refine lv_iload hx hb dX6_rowsOfLength_20 (lv_at hl 0 rfl) ?_
  refine lv_iload_n hx hb dX6_rowsOfLength_22 rfl (lv_at hl 3 rfl) ?_
  refine lv_icmp_ge (tgt := 39) hx hb dX6_rowsOfLength_23 (by decide) (fun h => absurd h (Int32.not_le.mpr h7)) (fun _ => ?_)
  refine lv_aload_n hx hb dX6_rowsOfLength_26 rfl (lv_at hl 2 rfl) ?_
  refine lv_iload hx hb dX6_rowsOfLength_27 (lv_at hl 0 rfl) ?_
  refine fin_l C w (run_V C w mv_X6_145 (k282_lengthen C.b0 q0 q2 q3 q4 q5 q6 q7 q8 q9 q10 q11 q12 q13 q14 q15 q16 q17 q18 q1 q19 q20 q21 q22 q23 q24 q25 q26 q27 q28 q29 q30 q31 q32 q33 q34 q35 q36 q37 q38 H.size) [1, 0, 3, 4, 5, 6] rfl rfl 1 rfl rfl (by decide) rfl hl.1 rfl (Nat.le_of_ble_eq_true rfl) dX6_rowsOfLength_29 (cells2 := 0) (slots2 := 0) (by decide)) [1, 0, 3, 4, 5, 6] [2] rfl rfl (by decide) (cells2 := 0) (slots2 := 0) (by decide) (fun u8 H locs w => ?_)
  have w : Wd s G A [(q1, .inl (G.2.2.1, 3008, .inr (.inl (fun _ => 0)))), (q0, .inr (6, [.int (-1), .ref q3, .ref q7, .ref q8, .ref q9, .ref q10, .ref q11, .ref q12, .ref q13, .ref q14, .ref q15, .ref q16, .ref q17, .ref q18, .ref q2, .ref q1, .int 0, .int 0, .int 0, .int 0])), (q2, .inl (G.2.2.1, 3008, .inr (.inl (fun _ => 0)))), (q3, .inr (1, [.int 0, .ref q6, .ref q19, .ref q4, .ref q5, .ref q20, .ref q21, .ref q22, .int 1])), (q4, .inr (7, [.ref q23, .int 0, .int 1, .int 3008, .ref q24])), (q5, .inl (G.2.1, 3008, .inl (fun _ => 0))), (q6, .inr (2, [.int 0, .int 0, .ref q25, .ref q26, .ref q27, .ref q28, .ref q29, .ref q30, .ref q31, .ref q32, .ref q33, .ref q34, .ref q35, .ref q36, .ref q37, .ref q38, .int 0]))] H locs := w
  refine lv_lstore_n (lv' := [(2, .long 0), (4, .int 6), (0, .ref q0), (1, .int x0)]) hx hb dX6_rowsOfLength_32 rfl hl (by decide) rfl (fun ls hl => ?_)
  refine lv_iinc (v := 7) (lv' := [(4, .int 7), (2, .long 0), (0, .ref q0), (1, .int x0)]) hx hb dX6_rowsOfLength_33 hl (k := 1) rfl (by decide +kernel) (by decide) rfl (fun ls hl => ?_)
  refine lv_goto (tgt := 20) hx hb dX6_rowsOfLength_36 (by decide) ?_
  refine lv_iload hx hb dX6_rowsOfLength_20 (lv_at hl 0 rfl) ?_
  refine lv_iload_n hx hb dX6_rowsOfLength_22 rfl (lv_at hl 3 rfl) ?_
  refine lv_icmp_ge (tgt := 39) hx hb dX6_rowsOfLength_23 (by decide) (fun h => absurd h (Int32.not_le.mpr h8)) (fun _ => ?_)
  refine lv_aload_n hx hb dX6_rowsOfLength_26 rfl (lv_at hl 2 rfl) ?_
  refine lv_iload hx hb dX6_rowsOfLength_27 (lv_at hl 0 rfl) ?_
  refine fin_l C w (run_V C w mv_X6_145 (k283_lengthen C.b0 q0 q1 q3 q4 q5 q6 q7 q8 q9 q10 q11 q12 q13 q14 q15 q16 q17 q18 q2 q19 q20 q21 q22 q23 q24 q25 q26 q27 q28 q29 q30 q31 q32 q33 q34 q35 q36 q37 q38 H.size) [1, 0, 3, 4, 5, 6] rfl rfl 1 rfl rfl (by decide) rfl hl.1 rfl (Nat.le_of_ble_eq_true rfl) dX6_rowsOfLength_29 (cells2 := 0) (slots2 := 0) (by decide)) [1, 0, 3, 4, 5, 6] [2] rfl rfl (by decide) (cells2 := 0) (slots2 := 0) (by decide) (fun u9 H locs w => ?_)
  have w : Wd s G A [(q2, .inl (G.2.2.1, 3008, .inr (.inl (fun _ => 0)))), (q0, .inr (6, [.int (-1), .ref q3, .ref q7, .ref q8, .ref q9, .ref q10, .ref q11, .ref q12, .ref q13, .ref q14, .ref q15, .ref q16, .ref q17, .ref q18, .ref q1, .ref q2, .int 0, .int 0, .int 0, .int 0])), (q1, .inl (G.2.2.1, 3008, .inr (.inl (fun _ => 0)))), (q3, .inr (1, [.int 0, .ref q6, .ref q19, .ref q4, .ref q5, .ref q20, .ref q21, .ref q22, .int 1])), (q4, .inr (7, [.ref q23, .int 0, .int 1, .int 3008, .ref q24])), (q5, .inl (G.2.1, 3008, .inl (fun _ => 0))), (q6, .inr (2, [.int 0, .int 0, .ref q25, .ref q26, .ref q27, .ref q28, .ref q29, .ref q30, .ref q31, .ref q32, .ref q33, .ref q34, .ref q35, .ref q36, .ref q37, .ref q38, .int 0]))] H locs := w
  refine lv_lstore_n (lv' := [(2, .long 0), (4, .int 7), (0, .ref q0), (1, .int x0)]) hx hb dX6_rowsOfLength_32 rfl hl (by decide) rfl (fun ls hl => ?_)
  refine lv_iinc (v := 8) (lv' := [(4, .int 8), (2, .long 0), (0, .ref q0), (1, .int x0)]) hx hb dX6_rowsOfLength_33 hl (k := 1) rfl (by decide +kernel) (by decide) rfl (fun ls hl => ?_)
  refine lv_goto (tgt := 20) hx hb dX6_rowsOfLength_36 (by decide) ?_
  refine lv_iload hx hb dX6_rowsOfLength_20 (lv_at hl 0 rfl) ?_
  refine lv_iload_n hx hb dX6_rowsOfLength_22 rfl (lv_at hl 3 rfl) ?_
  refine lv_icmp_ge (tgt := 39) hx hb dX6_rowsOfLength_23 (by decide) (fun h => absurd h (Int32.not_le.mpr h9)) (fun _ => ?_)
  refine lv_aload_n hx hb dX6_rowsOfLength_26 rfl (lv_at hl 2 rfl) ?_
  refine lv_iload hx hb dX6_rowsOfLength_27 (lv_at hl 0 rfl) ?_
  refine fin_l C w (run_V C w mv_X6_145 (k284_lengthen C.b0 q0 q2 q3 q4 q5 q6 q7 q8 q9 q10 q11 q12 q13 q14 q15 q16 q17 q18 q1 q19 q20 q21 q22 q23 q24 q25 q26 q27 q28 q29 q30 q31 q32 q33 q34 q35 q36 q37 q38 H.size) [1, 0, 3, 4, 5, 6] rfl rfl 1 rfl rfl (by decide) rfl hl.1 rfl (Nat.le_of_ble_eq_true rfl) dX6_rowsOfLength_29 (cells2 := 0) (slots2 := 0) (by decide)) [1, 0, 3, 4, 5, 6] [2] rfl rfl (by decide) (cells2 := 0) (slots2 := 0) (by decide) (fun u10 H locs w => ?_)
  have w : Wd s G A [(q1, .inl (G.2.2.1, 3008, .inr (.inl (fun _ => 0)))), (q0, .inr (6, [.int (-1), .ref q3, .ref q7, .ref q8, .ref q9, .ref q10, .ref q11, .ref q12, .ref q13, .ref q14, .ref q15, .ref q16, .ref q17, .ref q18, .ref q2, .ref q1, .int 0, .int 0, .int 0, .int 0])), (q2, .inl (G.2.2.1, 3008, .inr (.inl (fun _ => 0)))), (q3, .inr (1, [.int 0, .ref q6, .ref q19, .ref q4, .ref q5, .ref q20, .ref q21, .ref q22, .int 1])), (q4, .inr (7, [.ref q23, .int 0, .int 1, .int 3008, .ref q24])), (q5, .inl (G.2.1, 3008, .inl (fun _ => 0))), (q6, .inr (2, [.int 0, .int 0, .ref q25, .ref q26, .ref q27, .ref q28, .ref q29, .ref q30, .ref q31, .ref q32, .ref q33, .ref q34, .ref q35, .ref q36, .ref q37, .ref q38, .int 0]))] H locs := w
  refine lv_lstore_n (lv' := [(2, .long 0), (4, .int 8), (0, .ref q0), (1, .int x0)]) hx hb dX6_rowsOfLength_32 rfl hl (by decide) rfl (fun ls hl => ?_)
  refine lv_iinc (v := 9) (lv' := [(4, .int 9), (2, .long 0), (0, .ref q0), (1, .int x0)]) hx hb dX6_rowsOfLength_33 hl (k := 1) rfl (by decide +kernel) (by decide) rfl (fun ls hl => ?_)
  refine lv_goto (tgt := 20) hx hb dX6_rowsOfLength_36 (by decide) ?_
  refine lv_iload hx hb dX6_rowsOfLength_20 (lv_at hl 0 rfl) ?_
  refine lv_iload_n hx hb dX6_rowsOfLength_22 rfl (lv_at hl 3 rfl) ?_
  refine lv_icmp_ge (tgt := 39) hx hb dX6_rowsOfLength_23 (by decide) (fun h => absurd h (Int32.not_le.mpr h10)) (fun _ => ?_)
  refine lv_aload_n hx hb dX6_rowsOfLength_26 rfl (lv_at hl 2 rfl) ?_
  refine lv_iload hx hb dX6_rowsOfLength_27 (lv_at hl 0 rfl) ?_
  refine fin_l C w (run_V C w mv_X6_145 (k285_lengthen C.b0 q0 q1 q3 q4 q5 q6 q7 q8 q9 q10 q11 q12 q13 q14 q15 q16 q17 q18 q2 q19 q20 q21 q22 q23 q24 q25 q26 q27 q28 q29 q30 q31 q32 q33 q34 q35 q36 q37 q38 H.size) [1, 0, 3, 4, 5, 6] rfl rfl 1 rfl rfl (by decide) rfl hl.1 rfl (Nat.le_of_ble_eq_true rfl) dX6_rowsOfLength_29 (cells2 := 0) (slots2 := 0) (by decide)) [1, 0, 3, 4, 5, 6] [2] rfl rfl (by decide) (cells2 := 0) (slots2 := 0) (by decide) (fun u11 H locs w => ?_)
  have w : Wd s G A [(q2, .inl (G.2.2.1, 3008, .inr (.inl (fun _ => 0)))), (q0, .inr (6, [.int (-1), .ref q3, .ref q7, .ref q8, .ref q9, .ref q10, .ref q11, .ref q12, .ref q13, .ref q14, .ref q15, .ref q16, .ref q17, .ref q18, .ref q1, .ref q2, .int 0, .int 0, .int 0, .int 0])), (q1, .inl (G.2.2.1, 3008, .inr (.inl (fun _ => 0)))), (q3, .inr (1, [.int 0, .ref q6, .ref q19, .ref q4, .ref q5, .ref q20, .ref q21, .ref q22, .int 1])), (q4, .inr (7, [.ref q23, .int 0, .int 1, .int 3008, .ref q24])), (q5, .inl (G.2.1, 3008, .inl (fun _ => 0))), (q6, .inr (2, [.int 0, .int 0, .ref q25, .ref q26, .ref q27, .ref q28, .ref q29, .ref q30, .ref q31, .ref q32, .ref q33, .ref q34, .ref q35, .ref q36, .ref q37, .ref q38, .int 0]))] H locs := w
  refine lv_lstore_n (lv' := [(2, .long 0), (4, .int 9), (0, .ref q0), (1, .int x0)]) hx hb dX6_rowsOfLength_32 rfl hl (by decide) rfl (fun ls hl => ?_)
  refine lv_iinc (v := 10) (lv' := [(4, .int 10), (2, .long 0), (0, .ref q0), (1, .int x0)]) hx hb dX6_rowsOfLength_33 hl (k := 1) rfl (by decide +kernel) (by decide) rfl (fun ls hl => ?_)
  refine lv_goto (tgt := 20) hx hb dX6_rowsOfLength_36 (by decide) ?_
  refine lv_iload hx hb dX6_rowsOfLength_20 (lv_at hl 0 rfl) ?_
  refine lv_iload_n hx hb dX6_rowsOfLength_22 rfl (lv_at hl 3 rfl) ?_
  refine lv_icmp_ge (tgt := 39) hx hb dX6_rowsOfLength_23 (by decide) (fun _ => ?_) (fun h => absurd (Int32.not_lt.mp h2) h)
  refine lv_lload_n hx hb dX6_rowsOfLength_39 rfl (lv_at hl 1 rfl) ?_
  exact e_l C hr w (fun _ => 0) [1, 2, 0, 3, 4, 5, 6] rfl rfl dX6_rowsOfLength_40 (by decide) (by decide)
set_option maxRecDepth 100000 in
set_option maxHeartbeats 4000000 in
theorem k338_rows {l : Launch} {s0 : State} {a0 : Array Value} {G : GT} (b0 : B0 l s0 a0 G) (q0 q1 q2 q3 q4 q5 q6 q7 q8 q9 q10 q11 q12 q13 q14 q15 q16 q17 q18 q19 q20 q21 q22 q23 q24 q25 q26 q27 : Nat) (x0 : Int32) (x1 : Int32) (h0 : 0 < x1) (h1 : 1 < x1) (h2 : ¬ 10 < x1) (h3 : 2 < x1) (h4 : ¬ 20 < x1) (h5 : 3 < x1) (h6 : ¬ 3000 < x0) (h7 : 4 < x1) (h8 : 5 < x1) (h9 : 6 < x1) (h10 : 7 < x1) (h11 : 8 < x1) (h12 : 9 < x1) (h13 : ¬ x0 < 1) (h14 : ¬ x1 < 0) (sz : Nat) : Kl l s0 G yX11_rows cX11_rows 4 (some .long) { frames := 4, cells := 24, slots := 104590, locals := 168 } [.ref q0, .int x0, .int x1] [(q0, .inr (11, [.ref q4, .ref q5, .ref q1, .ref q6, .ref q7, .ref q8, .ref q9, .ref q10, .ref q2, .ref q11, .int 0, .int (-1), .int 0, .int 0, .null, .null, .null, .null, .null])), (q1, .inr (5, [.ref q3, .ref q12, .ref q13, .int 0])), (q2, .inr (2, [.int 0, .int 0, .ref q14, .ref q15, .ref q16, .ref q17, .ref q18, .ref q19, .ref q20, .ref q21, .ref q22, .ref q23, .ref q24, .ref q25, .ref q26, .ref q27, .int 0])), (q3, .inl (G.2.1, 8, .inl (fun _ => 0)))] sz 0 (fun u => [(q0, .inr (11, [.ref q4, .ref q5, .ref q1, .ref q6, .ref q7, .ref q8, .ref q9, .ref q10, .ref q2, .ref q11, .int 0, .int (-1), .int 0, .int 0, .ref (u 0), .ref (u 9), .null, .null, .null])), (q1, .inr (5, [.ref q3, .ref q12, .ref q13, .int 0])), (q2, .inr (2, [.int 0, .int 0, .ref q14, .ref q15, .ref q16, .ref q17, .ref q18, .ref q19, .ref q20, .ref q21, .ref q22, .ref q23, .ref q24, .ref q25, .ref q26, .ref q27, .int 0])), (q3, .inl (G.2.1, 8, .inl (fun _ => 0))), ((u 0), .inr (1, [.int 0, .ref q2, .ref (u 1), .ref (u 2), .ref (u 5), .ref (u 6), .ref (u 7), .ref (u 8), .int 1])), ((u 1), .inl (G.2.1, 24064, .inl (fun _ => 0))), ((u 2), .inr (7, [.ref (u 3), .int 0, .int 1, .int 3008, .ref (u 4)])), ((u 3), .inl (G.2.1, 24064, .inl (fun _ => 0))), ((u 4), .inl (G.2.1, 8192, .inl (upd (fun _ => (-1)) 7 0))), ((u 5), .inl (G.2.1, 3008, .inl (fun _ => 0))), ((u 6), .inl (G.2.1, 3008, .inl (upd (fun _ => 0) 0 (-1)))), ((u 7), .inl (G.2.1, 3008, .inl (upd (fun _ => 0) 0 (-1)))), ((u 8), .inl (G.2.1, 8, .inl (fun _ => 0))), ((u 9), .inr (6, [.int (-1), .ref (u 0), .ref (u 10), .ref (u 11), .ref (u 12), .ref (u 13), .ref (u 14), .ref (u 15), .ref (u 16), .ref (u 17), .ref (u 18), .ref (u 19), .ref (u 20), .ref (u 21), .ref (u 22), .ref (u 23), .int 0, .int 0, .int 0, .int 0])), ((u 10), .inl (G.2.1, 3008, .inl (fun _ => 0))), ((u 11), .inl (G.2.1, 3008, .inl (fun _ => 0))), ((u 12), .inl (G.2.1, 3008, .inl (fun _ => 0))), ((u 13), .inl (G.2.1, 3008, .inl (fun _ => 0))), ((u 14), .inl (G.2.1, 3008, .inl (fun _ => 0))), ((u 15), .inl (G.2.1, 3008, .inl (fun _ => 0))), ((u 16), .inl (G.2.1, 3008, .inl (fun _ => 0))), ((u 17), .inl (G.2.1, 3008, .inl (fun _ => 0))), ((u 18), .inl (G.2.1, 3008, .inl (fun _ => 0))), ((u 19), .inl (G.2.1, 3008, .inl (fun _ => 0))), ((u 20), .inl (G.2.1, 3008, .inl (fun _ => 0))), ((u 21), .inl (G.2.1, 100, .inl (fun _ => 0))), ((u 22), .inl (G.2.2.1, 3008, .inr (.inl (fun _ => 0)))), ((u 23), .inl (G.2.2.1, 3008, .inr (.inl (fun _ => 0))))]) := by
  refine Kl.of b0 (own := RX11) (nm := "rows") [(0, .ref q0), (1, .int x0), (2, .int x1)] rfl rfl (by decide +kernel) (Nat.le_of_ble_eq_true rfl) rfl ?_
  intro p e s m below meth c A C hr H locs w ls hl
  have hx := C.hx
  have hb := C.hb
  refine lv_iload_n hx hb dX11_rows_0 rfl (lv_at hl 1 rfl) ?_
  refine fin_v C w (run_S C w ms_X11_161 (k106_needMost C.b0 x0 h6 h13 H.size) [] rfl rfl (by decide) rfl hl.1 rfl (Nat.le_of_ble_eq_true rfl) dX11_rows_1 (cells2 := 0) (slots2 := 0) (by decide)) [] [0, 1, 2, 3] rfl rfl (by decide) (cells2 := 0) (slots2 := 0) (by decide) (fun u1 H locs w => ?_)
  have w : Wd s G A [(q0, .inr (11, [.ref q4, .ref q5, .ref q1, .ref q6, .ref q7, .ref q8, .ref q9, .ref q10, .ref q2, .ref q11, .int 0, .int (-1), .int 0, .int 0, .null, .null, .null, .null, .null])), (q1, .inr (5, [.ref q3, .ref q12, .ref q13, .int 0])), (q2, .inr (2, [.int 0, .int 0, .ref q14, .ref q15, .ref q16, .ref q17, .ref q18, .ref q19, .ref q20, .ref q21, .ref q22, .ref q23, .ref q24, .ref q25, .ref q26, .ref q27, .int 0])), (q3, .inl (G.2.1, 8, .inl (fun _ => 0)))] H locs := w
  refine lv_iload_n hx hb dX11_rows_4 rfl (lv_at hl 2 rfl) ?_
  refine lv_iconst (v := 0) hx hb dX11_rows_5 (by decide) ?_
  refine lv_bipush (v := 20) hx hb dX11_rows_6 (by decide) ?_
  refine fin_v C w (run_S C w ms_X11_72 (k275_needWithin C.b0 x1 h4 h14 H.size) [] rfl rfl (by decide) rfl hl.1 rfl (Nat.le_of_ble_eq_true rfl) dX11_rows_8 (cells2 := 0) (slots2 := 0) (by decide)) [] [0, 1, 2, 3] rfl rfl (by decide) (cells2 := 0) (slots2 := 0) (by decide) (fun u2 H locs w => ?_)
  have w : Wd s G A [(q0, .inr (11, [.ref q4, .ref q5, .ref q1, .ref q6, .ref q7, .ref q8, .ref q9, .ref q10, .ref q2, .ref q11, .int 0, .int (-1), .int 0, .int 0, .null, .null, .null, .null, .null])), (q1, .inr (5, [.ref q3, .ref q12, .ref q13, .int 0])), (q2, .inr (2, [.int 0, .int 0, .ref q14, .ref q15, .ref q16, .ref q17, .ref q18, .ref q19, .ref q20, .ref q21, .ref q22, .ref q23, .ref q24, .ref q25, .ref q26, .ref q27, .int 0])), (q3, .inl (G.2.1, 8, .inl (fun _ => 0)))] H locs := w
  refine lv_aload_n hx hb dX11_rows_11 rfl (lv_at hl 0 rfl) ?_
  refine lv_iload_n hx hb dX11_rows_12 rfl (lv_at hl 1 rfl) ?_
  refine fin_r C w (run_V C w mv_X11_164 (k114_explored C.b0 q0 q1 q2 q3 q4 q5 q6 q7 q8 q9 q10 q11 q12 q13 q14 q15 q16 q17 q18 q19 q20 q21 q22 q23 q24 q25 q26 q27 x0 h13 H.size) [0, 1, 2, 3] rfl rfl 0 rfl rfl (by decide) rfl hl.1 rfl (Nat.le_of_ble_eq_true rfl) dX11_rows_13 (cells2 := 9) (slots2 := 65366) (by decide)) [0, 1, 2, 3] [] rfl rfl (by decide) (cells2 := 9) (slots2 := 65366) (by decide) (fun u3 H locs w => ?_)
  have w : Wd s G A [(q0, .inr (11, [.ref q4, .ref q5, .ref q1, .ref q6, .ref q7, .ref q8, .ref q9, .ref q10, .ref q2, .ref q11, .int 0, .int (-1), .int 0, .int 0, .ref (u3 0), .null, .null, .null, .null])), (q1, .inr (5, [.ref q3, .ref q12, .ref q13, .int 0])), (q2, .inr (2, [.int 0, .int 0, .ref q14, .ref q15, .ref q16, .ref q17, .ref q18, .ref q19, .ref q20, .ref q21, .ref q22, .ref q23, .ref q24, .ref q25, .ref q26, .ref q27, .int 0])), (q3, .inl (G.2.1, 8, .inl (fun _ => 0))), ((u3 0), .inr (1, [.int 0, .ref q2, .ref (u3 1), .ref (u3 2), .ref (u3 5), .ref (u3 6), .ref (u3 7), .ref (u3 8), .int 1])), ((u3 1), .inl (G.2.1, 24064, .inl (fun _ => 0))), ((u3 2), .inr (7, [.ref (u3 3), .int 0, .int 1, .int 3008, .ref (u3 4)])), ((u3 3), .inl (G.2.1, 24064, .inl (fun _ => 0))), ((u3 4), .inl (G.2.1, 8192, .inl (upd (fun _ => (-1)) 7 0))), ((u3 5), .inl (G.2.1, 3008, .inl (fun _ => 0))), ((u3 6), .inl (G.2.1, 3008, .inl (upd (fun _ => 0) 0 (-1)))), ((u3 7), .inl (G.2.1, 3008, .inl (upd (fun _ => 0) 0 (-1)))), ((u3 8), .inl (G.2.1, 8, .inl (fun _ => 0)))] H locs := w
  refine lv_astore_n (lv' := [(3, .ref (u3 0)), (0, .ref q0), (1, .int x0), (2, .int x1)]) hx hb dX11_rows_16 rfl hl (by decide) rfl (fun ls hl => ?_)
  refine lv_aload_n hx hb dX11_rows_17 rfl (lv_at hl 0 rfl) ?_
  refine lv_iload_n hx hb dX11_rows_18 rfl (lv_at hl 2 rfl) ?_
  refine fin_i C w (run_V C w mv_X11_168 (k115_isBeyond C.b0 (u3 0) (u3 2) q2 (u3 1) (u3 5) (u3 6) (u3 7) (u3 8) (u3 3) (u3 4) x0 h13 H.size) [4, 6] rfl rfl 4 rfl rfl (by decide) rfl hl.1 rfl (Nat.le_of_ble_eq_true rfl) dX11_rows_19 (cells2 := 9) (slots2 := 65366) (by decide)) [4, 6] [0, 1, 2, 3, 5, 7, 8, 9, 10, 11, 12] rfl rfl (by decide) (cells2 := 9) (slots2 := 65366) (by decide) (fun u4 H locs w => ?_)
  have w : Wd s G A [(q0, .inr (11, [.ref q4, .ref q5, .ref q1, .ref q6, .ref q7, .ref q8, .ref q9, .ref q10, .ref q2, .ref q11, .int 0, .int (-1), .int 0, .int 0, .ref (u3 0), .null, .null, .null, .null])), (q1, .inr (5, [.ref q3, .ref q12, .ref q13, .int 0])), (q2, .inr (2, [.int 0, .int 0, .ref q14, .ref q15, .ref q16, .ref q17, .ref q18, .ref q19, .ref q20, .ref q21, .ref q22, .ref q23, .ref q24, .ref q25, .ref q26, .ref q27, .int 0])), (q3, .inl (G.2.1, 8, .inl (fun _ => 0))), ((u3 1), .inl (G.2.1, 24064, .inl (fun _ => 0))), ((u3 3), .inl (G.2.1, 24064, .inl (fun _ => 0))), ((u3 4), .inl (G.2.1, 8192, .inl (upd (fun _ => (-1)) 7 0))), ((u3 5), .inl (G.2.1, 3008, .inl (fun _ => 0))), ((u3 6), .inl (G.2.1, 3008, .inl (upd (fun _ => 0) 0 (-1)))), ((u3 7), .inl (G.2.1, 3008, .inl (upd (fun _ => 0) 0 (-1)))), ((u3 8), .inl (G.2.1, 8, .inl (fun _ => 0))), ((u3 0), .inr (1, [.int 0, .ref q2, .ref (u3 1), .ref (u3 2), .ref (u3 5), .ref (u3 6), .ref (u3 7), .ref (u3 8), .int 1])), ((u3 2), .inr (7, [.ref (u3 3), .int 0, .int 1, .int 3008, .ref (u3 4)]))] H locs := w
  refine lv_if_eq (tgt := 31) hx hb dX11_rows_22 (by decide) (fun _ => ?_) (fun h => absurd (by decide) h)
  refine lv_aload_n hx hb dX11_rows_31 rfl (lv_at hl 1 rfl) ?_
  refine lv_aload_n hx hb dX11_rows_32 rfl (lv_at hl 0 rfl) ?_
  refine fin_r C w (run_V C w mv_X11_215 (k167_studied C.b0 q0 (u3 0) q4 q5 q1 q6 q7 q8 q9 q10 q2 q11 H.size) [0] rfl rfl 0 rfl rfl (by decide) rfl hl.1 rfl (Nat.le_of_ble_eq_true rfl) dX11_rows_33 (cells2 := 24) (slots2 := 104590) (by decide)) [0] [1, 2, 3, 4, 5, 6, 7, 8, 9, 10, 11, 12] rfl rfl (by decide) (cells2 := 24) (slots2 := 104590) (by decide) (fun u5 H locs w => ?_)
  have w : Wd s G A [(q1, .inr (5, [.ref q3, .ref q12, .ref q13, .int 0])), (q2, .inr (2, [.int 0, .int 0, .ref q14, .ref q15, .ref q16, .ref q17, .ref q18, .ref q19, .ref q20, .ref q21, .ref q22, .ref q23, .ref q24, .ref q25, .ref q26, .ref q27, .int 0])), (q3, .inl (G.2.1, 8, .inl (fun _ => 0))), ((u3 1), .inl (G.2.1, 24064, .inl (fun _ => 0))), ((u3 3), .inl (G.2.1, 24064, .inl (fun _ => 0))), ((u3 4), .inl (G.2.1, 8192, .inl (upd (fun _ => (-1)) 7 0))), ((u3 5), .inl (G.2.1, 3008, .inl (fun _ => 0))), ((u3 6), .inl (G.2.1, 3008, .inl (upd (fun _ => 0) 0 (-1)))), ((u3 7), .inl (G.2.1, 3008, .inl (upd (fun _ => 0) 0 (-1)))), ((u3 8), .inl (G.2.1, 8, .inl (fun _ => 0))), ((u3 0), .inr (1, [.int 0, .ref q2, .ref (u3 1), .ref (u3 2), .ref (u3 5), .ref (u3 6), .ref (u3 7), .ref (u3 8), .int 1])), ((u3 2), .inr (7, [.ref (u3 3), .int 0, .int 1, .int 3008, .ref (u3 4)])), (q0, .inr (11, [.ref q4, .ref q5, .ref q1, .ref q6, .ref q7, .ref q8, .ref q9, .ref q10, .ref q2, .ref q11, .int 0, .int (-1), .int 0, .int 0, .ref (u3 0), .ref (u5 0), .null, .null, .null])), ((u5 0), .inr (6, [.int (-1), .ref (u3 0), .ref (u5 1), .ref (u5 2), .ref (u5 3), .ref (u5 4), .ref (u5 5), .ref (u5 6), .ref (u5 7), .ref (u5 8), .ref (u5 9), .ref (u5 10), .ref (u5 11), .ref (u5 12), .ref (u5 13), .ref (u5 14), .int 0, .int 0, .int 0, .int 0])), ((u5 1), .inl (G.2.1, 3008, .inl (fun _ => 0))), ((u5 2), .inl (G.2.1, 3008, .inl (fun _ => 0))), ((u5 3), .inl (G.2.1, 3008, .inl (fun _ => 0))), ((u5 4), .inl (G.2.1, 3008, .inl (fun _ => 0))), ((u5 5), .inl (G.2.1, 3008, .inl (fun _ => 0))), ((u5 6), .inl (G.2.1, 3008, .inl (fun _ => 0))), ((u5 7), .inl (G.2.1, 3008, .inl (fun _ => 0))), ((u5 8), .inl (G.2.1, 3008, .inl (fun _ => 0))), ((u5 9), .inl (G.2.1, 3008, .inl (fun _ => 0))), ((u5 10), .inl (G.2.1, 3008, .inl (fun _ => 0))), ((u5 11), .inl (G.2.1, 3008, .inl (fun _ => 0))), ((u5 12), .inl (G.2.1, 100, .inl (fun _ => 0))), ((u5 13), .inl (G.2.2.1, 3008, .inr (.inl (fun _ => 0)))), ((u5 14), .inl (G.2.2.1, 3008, .inr (.inl (fun _ => 0))))] H locs := w
  refine lv_iload_n hx hb dX11_rows_36 rfl (lv_at hl 3 rfl) ?_
  refine fin_l C w (run_V C w mv_X11_224 (k337_rowsOfLength C.b0 (u5 0) (u5 13) (u5 14) (u3 0) (u3 2) (u3 5) q2 (u5 1) (u5 2) (u5 3) (u5 4) (u5 5) (u5 6) (u5 7) (u5 8) (u5 9) (u5 10) (u5 11) (u5 12) (u3 1) (u3 6) (u3 7) (u3 8) (u3 3) (u3 4) q14 q15 q16 q17 q18 q19 q20 q21 q22 q23 q24 q25 q26 q27 x1 h0 h1 h2 h3 h5 h7 h8 h9 h10 h11 h12 H.size) [13, 26, 27, 10, 11, 6, 1] rfl rfl 13 rfl rfl (by decide) rfl hl.1 rfl (Nat.le_of_ble_eq_true rfl) dX11_rows_37 (cells2 := 24) (slots2 := 104590) (by decide)) [13, 26, 27, 10, 11, 6, 1] [0, 2, 3, 4, 5, 7, 8, 9, 12, 14, 15, 16, 17, 18, 19, 20, 21, 22, 23, 24, 25] rfl rfl (by decide) (cells2 := 24) (slots2 := 104590) (by decide) (fun u6 H locs w => ?_)
  have w : Wd s G A [(q1, .inr (5, [.ref q3, .ref q12, .ref q13, .int 0])), (q3, .inl (G.2.1, 8, .inl (fun _ => 0))), ((u3 1), .inl (G.2.1, 24064, .inl (fun _ => 0))), ((u3 3), .inl (G.2.1, 24064, .inl (fun _ => 0))), ((u3 4), .inl (G.2.1, 8192, .inl (upd (fun _ => (-1)) 7 0))), ((u3 6), .inl (G.2.1, 3008, .inl (upd (fun _ => 0) 0 (-1)))), ((u3 7), .inl (G.2.1, 3008, .inl (upd (fun _ => 0) 0 (-1)))), ((u3 8), .inl (G.2.1, 8, .inl (fun _ => 0))), (q0, .inr (11, [.ref q4, .ref q5, .ref q1, .ref q6, .ref q7, .ref q8, .ref q9, .ref q10, .ref q2, .ref q11, .int 0, .int (-1), .int 0, .int 0, .ref (u3 0), .ref (u5 0), .null, .null, .null])), ((u5 1), .inl (G.2.1, 3008, .inl (fun _ => 0))), ((u5 2), .inl (G.2.1, 3008, .inl (fun _ => 0))), ((u5 3), .inl (G.2.1, 3008, .inl (fun _ => 0))), ((u5 4), .inl (G.2.1, 3008, .inl (fun _ => 0))), ((u5 5), .inl (G.2.1, 3008, .inl (fun _ => 0))), ((u5 6), .inl (G.2.1, 3008, .inl (fun _ => 0))), ((u5 7), .inl (G.2.1, 3008, .inl (fun _ => 0))), ((u5 8), .inl (G.2.1, 3008, .inl (fun _ => 0))), ((u5 9), .inl (G.2.1, 3008, .inl (fun _ => 0))), ((u5 10), .inl (G.2.1, 3008, .inl (fun _ => 0))), ((u5 11), .inl (G.2.1, 3008, .inl (fun _ => 0))), ((u5 12), .inl (G.2.1, 100, .inl (fun _ => 0))), ((u5 0), .inr (6, [.int (-1), .ref (u3 0), .ref (u5 1), .ref (u5 2), .ref (u5 3), .ref (u5 4), .ref (u5 5), .ref (u5 6), .ref (u5 7), .ref (u5 8), .ref (u5 9), .ref (u5 10), .ref (u5 11), .ref (u5 12), .ref (u5 13), .ref (u5 14), .int 0, .int 0, .int 0, .int 0])), ((u5 13), .inl (G.2.2.1, 3008, .inr (.inl (fun _ => 0)))), ((u5 14), .inl (G.2.2.1, 3008, .inr (.inl (fun _ => 0)))), ((u3 0), .inr (1, [.int 0, .ref q2, .ref (u3 1), .ref (u3 2), .ref (u3 5), .ref (u3 6), .ref (u3 7), .ref (u3 8), .int 1])), ((u3 2), .inr (7, [.ref (u3 3), .int 0, .int 1, .int 3008, .ref (u3 4)])), ((u3 5), .inl (G.2.1, 3008, .inl (fun _ => 0))), (q2, .inr (2, [.int 0, .int 0, .ref q14, .ref q15, .ref q16, .ref q17, .ref q18, .ref q19, .ref q20, .ref q21, .ref q22, .ref q23, .ref q24, .ref q25, .ref q26, .ref q27, .int 0]))] H locs := w
  exact e_l C hr w (fun k => [(u3 0), (u3 1), (u3 2), (u3 3), (u3 4), (u3 5), (u3 6), (u3 7), (u3 8), (u5 0), (u5 1), (u5 2), (u5 3), (u5 4), (u5 5), (u5 6), (u5 7), (u5 8), (u5 9), (u5 10), (u5 11), (u5 12), (u5 13), (u5 14)].getD k 0) [8, 0, 27, 1, 24, 2, 25, 3, 4, 26, 5, 6, 7, 21, 9, 10, 11, 12, 13, 14, 15, 16, 17, 18, 19, 20, 22, 23] rfl rfl dX11_rows_40 (by decide) (by decide)
set_option maxRecDepth 100000 in
set_option maxHeartbeats 4000000 in
theorem k339_rows {l : Launch} {s0 : State} {a0 : Array Value} {G : GT} (b0 : B0 l s0 a0 G) (q0 q1 q2 q3 q4 q5 q6 q7 q8 q9 q10 q11 q12 q13 q14 q15 q16 q17 q18 q19 q20 q21 q22 q23 q24 q25 q26 q27 q28 : Nat) (x0 : Int32) (x1 : Int32) (h0 : 0 < x1) (h1 : 1 < x1) (h2 : ¬ 10 < x1) (h3 : 2 < x1) (h4 : ¬ 20 < x1) (h5 : 3 < x1) (h6 : ¬ 3000 < x0) (h7 : 4 < x1) (h8 : 5 < x1) (h9 : 6 < x1) (h10 : 7 < x1) (h11 : 8 < x1) (h12 : 9 < x1) (h13 : ¬ x0 < 1) (h14 : ¬ x1 < 0) (sz : Nat) : Kh l s0 G yL_rows cL_rows 5 (some .int) [(0, 9, 12, 13)] { frames := 5, cells := 24, slots := 104590, locals := 191 } [.ref q0, .int x0, .int x1, .ref q4] [(q0, .inr (11, [.ref q5, .ref q6, .ref q1, .ref q7, .ref q8, .ref q9, .ref q10, .ref q11, .ref q2, .ref q12, .int 0, .int (-1), .int 0, .int 0, .null, .null, .null, .null, .null])), (q1, .inr (5, [.ref q3, .ref q13, .ref q14, .int 0])), (q2, .inr (2, [.int 0, .int 0, .ref q15, .ref q16, .ref q17, .ref q18, .ref q19, .ref q20, .ref q21, .ref q22, .ref q23, .ref q24, .ref q25, .ref q26, .ref q27, .ref q28, .int 0])), (q3, .inl (G.2.1, 8, .inl (fun _ => 0))), (q4, .inl (G.2.2.1, 1, .inr (.inl (fun _ => 0))))] sz 0 (fun u => [(q0, .inr (11, [.ref q5, .ref q6, .ref q1, .ref q7, .ref q8, .ref q9, .ref q10, .ref q11, .ref q2, .ref q12, .int 0, .int (-1), .int 0, .int 0, .ref (u 0), .ref (u 9), .null, .null, .null])), (q1, .inr (5, [.ref q3, .ref q13, .ref q14, .int 0])), (q2, .inr (2, [.int 0, .int 0, .ref q15, .ref q16, .ref q17, .ref q18, .ref q19, .ref q20, .ref q21, .ref q22, .ref q23, .ref q24, .ref q25, .ref q26, .ref q27, .ref q28, .int 0])), (q3, .inl (G.2.1, 8, .inl (fun _ => 0))), (q4, .inl (G.2.2.1, 1, .inr (.inl (fun _ => 0)))), ((u 0), .inr (1, [.int 0, .ref q2, .ref (u 1), .ref (u 2), .ref (u 5), .ref (u 6), .ref (u 7), .ref (u 8), .int 1])), ((u 1), .inl (G.2.1, 24064, .inl (fun _ => 0))), ((u 2), .inr (7, [.ref (u 3), .int 0, .int 1, .int 3008, .ref (u 4)])), ((u 3), .inl (G.2.1, 24064, .inl (fun _ => 0))), ((u 4), .inl (G.2.1, 8192, .inl (upd (fun _ => (-1)) 7 0))), ((u 5), .inl (G.2.1, 3008, .inl (fun _ => 0))), ((u 6), .inl (G.2.1, 3008, .inl (upd (fun _ => 0) 0 (-1)))), ((u 7), .inl (G.2.1, 3008, .inl (upd (fun _ => 0) 0 (-1)))), ((u 8), .inl (G.2.1, 8, .inl (fun _ => 0))), ((u 9), .inr (6, [.int (-1), .ref (u 0), .ref (u 10), .ref (u 11), .ref (u 12), .ref (u 13), .ref (u 14), .ref (u 15), .ref (u 16), .ref (u 17), .ref (u 18), .ref (u 19), .ref (u 20), .ref (u 21), .ref (u 22), .ref (u 23), .int 0, .int 0, .int 0, .int 0])), ((u 10), .inl (G.2.1, 3008, .inl (fun _ => 0))), ((u 11), .inl (G.2.1, 3008, .inl (fun _ => 0))), ((u 12), .inl (G.2.1, 3008, .inl (fun _ => 0))), ((u 13), .inl (G.2.1, 3008, .inl (fun _ => 0))), ((u 14), .inl (G.2.1, 3008, .inl (fun _ => 0))), ((u 15), .inl (G.2.1, 3008, .inl (fun _ => 0))), ((u 16), .inl (G.2.1, 3008, .inl (fun _ => 0))), ((u 17), .inl (G.2.1, 3008, .inl (fun _ => 0))), ((u 18), .inl (G.2.1, 3008, .inl (fun _ => 0))), ((u 19), .inl (G.2.1, 3008, .inl (fun _ => 0))), ((u 20), .inl (G.2.1, 3008, .inl (fun _ => 0))), ((u 21), .inl (G.2.1, 100, .inl (fun _ => 0))), ((u 22), .inl (G.2.2.1, 3008, .inr (.inl (fun _ => 0)))), ((u 23), .inl (G.2.2.1, 3008, .inr (.inl (fun _ => 0))))]) := by
  refine Kh.of b0 (own := RL) (nm := "rows") [(0, .ref q0), (1, .int x0), (2, .int x1), (3, .ref q4)] rfl rfl (by decide +kernel) (Nat.le_of_ble_eq_true rfl) rfl ?_
  intro p e s m below meth c A C hr ht H locs w ls hl
  have hx := C.hx
  have hb := C.hb
  refine lv_aload_n hx hb dL_rows_0 rfl (lv_at hl 3 rfl) ?_
  refine lv_iconst (v := 0) hx hb dL_rows_1 (by decide) ?_
  refine lv_aload_n hx hb dL_rows_2 rfl (lv_at hl 0 rfl) ?_
  refine lv_iload_n hx hb dL_rows_3 rfl (lv_at hl 1 rfl) ?_
  refine lv_iload_n hx hb dL_rows_4 rfl (lv_at hl 2 rfl) ?_
  refine fin_l C w (run_V C w mv_L_77 (k338_rows C.b0 q0 q1 q2 q3 q5 q6 q7 q8 q9 q10 q11 q12 q13 q14 q15 q16 q17 q18 q19 q20 q21 q22 q23 q24 q25 q26 q27 q28 x0 x1 h0 h1 h2 h3 h4 h5 h6 h7 h8 h9 h10 h11 h12 h13 h14 H.size) [0, 1, 2, 3] rfl rfl 0 rfl rfl (by decide) rfl hl.1 rfl (Nat.le_of_ble_eq_true rfl) dL_rows_5 (cells2 := 24) (slots2 := 104590) (by decide)) [0, 1, 2, 3] [4] rfl rfl (by decide) (cells2 := 24) (slots2 := 104590) (by decide) (fun u1 H locs w => ?_)
  have w : Wd s G A [(q4, .inl (G.2.2.1, 1, .inr (.inl (fun _ => 0)))), (q0, .inr (11, [.ref q5, .ref q6, .ref q1, .ref q7, .ref q8, .ref q9, .ref q10, .ref q11, .ref q2, .ref q12, .int 0, .int (-1), .int 0, .int 0, .ref (u1 0), .ref (u1 9), .null, .null, .null])), (q1, .inr (5, [.ref q3, .ref q13, .ref q14, .int 0])), (q2, .inr (2, [.int 0, .int 0, .ref q15, .ref q16, .ref q17, .ref q18, .ref q19, .ref q20, .ref q21, .ref q22, .ref q23, .ref q24, .ref q25, .ref q26, .ref q27, .ref q28, .int 0])), (q3, .inl (G.2.1, 8, .inl (fun _ => 0))), ((u1 0), .inr (1, [.int 0, .ref q2, .ref (u1 1), .ref (u1 2), .ref (u1 5), .ref (u1 6), .ref (u1 7), .ref (u1 8), .int 1])), ((u1 1), .inl (G.2.1, 24064, .inl (fun _ => 0))), ((u1 2), .inr (7, [.ref (u1 3), .int 0, .int 1, .int 3008, .ref (u1 4)])), ((u1 3), .inl (G.2.1, 24064, .inl (fun _ => 0))), ((u1 4), .inl (G.2.1, 8192, .inl (upd (fun _ => (-1)) 7 0))), ((u1 5), .inl (G.2.1, 3008, .inl (fun _ => 0))), ((u1 6), .inl (G.2.1, 3008, .inl (upd (fun _ => 0) 0 (-1)))), ((u1 7), .inl (G.2.1, 3008, .inl (upd (fun _ => 0) 0 (-1)))), ((u1 8), .inl (G.2.1, 8, .inl (fun _ => 0))), ((u1 9), .inr (6, [.int (-1), .ref (u1 0), .ref (u1 10), .ref (u1 11), .ref (u1 12), .ref (u1 13), .ref (u1 14), .ref (u1 15), .ref (u1 16), .ref (u1 17), .ref (u1 18), .ref (u1 19), .ref (u1 20), .ref (u1 21), .ref (u1 22), .ref (u1 23), .int 0, .int 0, .int 0, .int 0])), ((u1 10), .inl (G.2.1, 3008, .inl (fun _ => 0))), ((u1 11), .inl (G.2.1, 3008, .inl (fun _ => 0))), ((u1 12), .inl (G.2.1, 3008, .inl (fun _ => 0))), ((u1 13), .inl (G.2.1, 3008, .inl (fun _ => 0))), ((u1 14), .inl (G.2.1, 3008, .inl (fun _ => 0))), ((u1 15), .inl (G.2.1, 3008, .inl (fun _ => 0))), ((u1 16), .inl (G.2.1, 3008, .inl (fun _ => 0))), ((u1 17), .inl (G.2.1, 3008, .inl (fun _ => 0))), ((u1 18), .inl (G.2.1, 3008, .inl (fun _ => 0))), ((u1 19), .inl (G.2.1, 3008, .inl (fun _ => 0))), ((u1 20), .inl (G.2.1, 3008, .inl (fun _ => 0))), ((u1 21), .inl (G.2.1, 100, .inl (fun _ => 0))), ((u1 22), .inl (G.2.2.1, 3008, .inr (.inl (fun _ => 0)))), ((u1 23), .inl (G.2.2.1, 3008, .inr (.inl (fun _ => 0))))] H locs := w
  refine r_last C w 0 rfl (IX.of (k := 0) (by decide +kernel)) (g := (fun _ => 0)) (updL_c _ _) dL_rows_8 (ws2 := [(q4, .inl (G.2.2.1, 1, .inr (.inl (fun _ => 0)))), (q0, .inr (11, [.ref q5, .ref q6, .ref q1, .ref q7, .ref q8, .ref q9, .ref q10, .ref q11, .ref q2, .ref q12, .int 0, .int (-1), .int 0, .int 0, .ref (u1 0), .ref (u1 9), .null, .null, .null])), (q1, .inr (5, [.ref q3, .ref q13, .ref q14, .int 0])), (q2, .inr (2, [.int 0, .int 0, .ref q15, .ref q16, .ref q17, .ref q18, .ref q19, .ref q20, .ref q21, .ref q22, .ref q23, .ref q24, .ref q25, .ref q26, .ref q27, .ref q28, .int 0])), (q3, .inl (G.2.1, 8, .inl (fun _ => 0))), ((u1 0), .inr (1, [.int 0, .ref q2, .ref (u1 1), .ref (u1 2), .ref (u1 5), .ref (u1 6), .ref (u1 7), .ref (u1 8), .int 1])), ((u1 1), .inl (G.2.1, 24064, .inl (fun _ => 0))), ((u1 2), .inr (7, [.ref (u1 3), .int 0, .int 1, .int 3008, .ref (u1 4)])), ((u1 3), .inl (G.2.1, 24064, .inl (fun _ => 0))), ((u1 4), .inl (G.2.1, 8192, .inl (upd (fun _ => (-1)) 7 0))), ((u1 5), .inl (G.2.1, 3008, .inl (fun _ => 0))), ((u1 6), .inl (G.2.1, 3008, .inl (upd (fun _ => 0) 0 (-1)))), ((u1 7), .inl (G.2.1, 3008, .inl (upd (fun _ => 0) 0 (-1)))), ((u1 8), .inl (G.2.1, 8, .inl (fun _ => 0))), ((u1 9), .inr (6, [.int (-1), .ref (u1 0), .ref (u1 10), .ref (u1 11), .ref (u1 12), .ref (u1 13), .ref (u1 14), .ref (u1 15), .ref (u1 16), .ref (u1 17), .ref (u1 18), .ref (u1 19), .ref (u1 20), .ref (u1 21), .ref (u1 22), .ref (u1 23), .int 0, .int 0, .int 0, .int 0])), ((u1 10), .inl (G.2.1, 3008, .inl (fun _ => 0))), ((u1 11), .inl (G.2.1, 3008, .inl (fun _ => 0))), ((u1 12), .inl (G.2.1, 3008, .inl (fun _ => 0))), ((u1 13), .inl (G.2.1, 3008, .inl (fun _ => 0))), ((u1 14), .inl (G.2.1, 3008, .inl (fun _ => 0))), ((u1 15), .inl (G.2.1, 3008, .inl (fun _ => 0))), ((u1 16), .inl (G.2.1, 3008, .inl (fun _ => 0))), ((u1 17), .inl (G.2.1, 3008, .inl (fun _ => 0))), ((u1 18), .inl (G.2.1, 3008, .inl (fun _ => 0))), ((u1 19), .inl (G.2.1, 3008, .inl (fun _ => 0))), ((u1 20), .inl (G.2.1, 3008, .inl (fun _ => 0))), ((u1 21), .inl (G.2.1, 100, .inl (fun _ => 0))), ((u1 22), .inl (G.2.2.1, 3008, .inr (.inl (fun _ => 0)))), ((u1 23), .inl (G.2.2.1, 3008, .inr (.inl (fun _ => 0))))]) rfl (fun H locs w => ?_)
  refine lv_goto (tgt := 16) hx hb dL_rows_9 (by decide) ?_
  refine lv_iconst (v := 0) hx hb dL_rows_16 (by decide) ?_
  exact e_i C hr w (fun k => [(u1 0), (u1 1), (u1 2), (u1 3), (u1 4), (u1 5), (u1 6), (u1 7), (u1 8), (u1 9), (u1 10), (u1 11), (u1 12), (u1 13), (u1 14), (u1 15), (u1 16), (u1 17), (u1 18), (u1 19), (u1 20), (u1 21), (u1 22), (u1 23)].getD k 0) [1, 2, 3, 4, 0, 5, 6, 7, 8, 9, 10, 11, 12, 13, 14, 15, 16, 17, 18, 19, 20, 21, 22, 23, 24, 25, 26, 27, 28] rfl rfl rfl dL_rows_17 (by decide) (by decide)
set_option maxRecDepth 100000 in
set_option maxHeartbeats 4000000 in
theorem k340_rows {l : Launch} {s0 : State} {a0 : Array Value} {G : GT} (b0 : B0 l s0 a0 G) (q0 q1 q2 q3 q4 q5 q6 q7 q8 q9 q10 q11 q12 q13 q14 q15 q16 q17 q18 q19 q20 q21 q22 q23 q24 q25 q26 q27 q28 q29 q30 q31 q32 q33 q34 q35 q36 q37 q38 q39 q40 q41 q42 : Nat) (x0 : Int32) (x1 : Int32) (h0 : 0 < x1) (h1 : 1 < x1) (h2 : ¬ 10 < x1) (h3 : 2 < x1) (h4 : ¬ 20 < x1) (h5 : 3 < x1) (h6 : ¬ 3000 < x0) (h7 : 4 < x1) (h8 : 5 < x1) (h9 : 6 < x1) (h10 : 7 < x1) (h11 : 8 < x1) (h12 : 9 < x1) (h13 : ¬ x0 < 1) (h14 : ¬ x1 < 0) (sz : Nat) : Kl l s0 G yX12_rows cX12_rows 6 (some .long) { frames := 3, cells := 0, slots := 0, locals := 72 } [.ref q0, .int x0, .int x1] [(q0, .inr (12, [.int 0, .int 0, .int 0, .int 0, .int 0, .int 0, .int 0, .int (-1), .ref q11, .ref q8, .ref q12, .int 0, .ref q13, .ref q14, .ref q15, .ref q16, .ref q17, .ref q2, .ref q18, .int 0, .ref q3, .ref q4, .ref q19, .ref q6, .ref q7, .ref q1, .ref q5, .int 0, .int (-1), .int 0, .ref q20, .ref q21, .ref q22, .ref q23, .ref q24, .ref q25, .ref q26, .ref q27, .int 0, .ref q28, .ref q9, .ref q10, .ref q29, .ref q30, .int 0, .ref q31, .ref q32, .ref q33, .ref q34, .int 0, .ref q35, .ref q36, .ref q37, .ref q38, .int 0, .int 0, .ref q39, .ref q40, .ref q41, .ref q42])), (q1, .inl (G.2.1, 4096, .inl (fun _ => 0))), (q2, .inl (G.2.1, 57, .inl (fun _ => 0))), (q3, .inl (G.2.1, 8, .inl (fun _ => 0))), (q4, .inl (G.2.1, 24008, .inl (fun _ => 0))), (q5, .inl (G.2.1, 3000, .inl (fun _ => 0))), (q6, .inl (G.2.1, 3000, .inl (fun _ => 0))), (q7, .inl (G.2.1, 3000, .inl (fun _ => 0))), (q8, .inl (G.2.1, 242, .inl (fun _ => 0))), (q9, .inl (G.2.2.1, 3000, .inr (.inl (fun _ => 0)))), (q10, .inl (G.2.2.1, 3000, .inr (.inl (fun _ => 0))))] sz 0 (fun u => [(q0, .inr (12, [.int 0, .int 0, .int 0, .int 0, .int 0, .int 0, .int 0, .int (-1), .ref q11, .ref q8, .ref q12, .int 0, .ref q13, .ref q14, .ref q15, .ref q16, .ref q17, .ref q2, .ref q18, .int 0, .ref q3, .ref q4, .ref q19, .ref q6, .ref q7, .ref q1, .ref q5, .int 1, .int (-1), .int 0, .ref q20, .ref q21, .ref q22, .ref q23, .ref q24, .ref q25, .ref q26, .ref q27, .int 0, .ref q28, .ref q9, .ref q10, .ref q29, .ref q30, .int 0, .ref q31, .ref q32, .ref q33, .ref q34, .int 0, .ref q35, .ref q36, .ref q37, .ref q38, .int 0, .int 0, .ref q39, .ref q40, .ref q41, .ref q42])), (q1, .inl (G.2.1, 4096, .inl (upd (fun _ => (-1)) 0 0))), (q2, .inl (G.2.1, 57, .inl (fun _ => 0))), (q3, .inl (G.2.1, 8, .inl (fun _ => 0))), (q4, .inl (G.2.1, 24008, .inl (fun _ => 0))), (q5, .inl (G.2.1, 3000, .inl (upd (fun _ => 0) 0 (-1)))), (q6, .inl (G.2.1, 3000, .inl (upd (fun _ => 0) 0 (-1)))), (q7, .inl (G.2.1, 3000, .inl (upd (fun _ => 0) 0 (-1)))), (q8, .inl (G.2.1, 242, .inl (fun _ => 0))), (q9, .inl (G.2.2.1, 3000, .inr (.inl (vp_updL (vp_updL (vp_updL (vp_updL (vp_updL (vp_updL (vp_updL (vp_updL (vp_updL (vp_updL (vp_updL (fun _ => 0) 0 1) 0 0) 0 0) 0 0) 0 0) 0 0) 0 0) 0 0) 0 0) 0 0) 0 0)))), (q10, .inl (G.2.2.1, 3000, .inr (.inl (fun _ => 0))))]) := by
  refine Kl.of b0 (own := RX12) (nm := "rows") [(0, .ref q0), (1, .int x0), (2, .int x1)] rfl rfl (by decide +kernel) (Nat.le_of_ble_eq_true rfl) rfl ?_
  intro p e s m below meth c A C hr H locs w ls hl
  have hx := C.hx
  have hb := C.hb
  refine lv_aload_n hx hb dX12_rows_0 rfl (lv_at hl 0 rfl) ?_
  refine lv_iconst (v := 0) hx hb dX12_rows_1 (by decide) ?_
  refine r_put C w 0 rfl fl_X12_1 (Nat.le_of_ble_eq_true rfl) rfl rfl dX12_rows_2 (ws2 := [(q0, .inr (12, [.int 0, .int 0, .int 0, .int 0, .int 0, .int 0, .int 0, .int (-1), .ref q11, .ref q8, .ref q12, .int 0, .ref q13, .ref q14, .ref q15, .ref q16, .ref q17, .ref q2, .ref q18, .int 0, .ref q3, .ref q4, .ref q19, .ref q6, .ref q7, .ref q1, .ref q5, .int 0, .int (-1), .int 0, .ref q20, .ref q21, .ref q22, .ref q23, .ref q24, .ref q25, .ref q26, .ref q27, .int 0, .ref q28, .ref q9, .ref q10, .ref q29, .ref q30, .int 0, .ref q31, .ref q32, .ref q33, .ref q34, .int 0, .ref q35, .ref q36, .ref q37, .ref q38, .int 0, .int 0, .ref q39, .ref q40, .ref q41, .ref q42])), (q1, .inl (G.2.1, 4096, .inl (fun _ => 0))), (q2, .inl (G.2.1, 57, .inl (fun _ => 0))), (q3, .inl (G.2.1, 8, .inl (fun _ => 0))), (q4, .inl (G.2.1, 24008, .inl (fun _ => 0))), (q5, .inl (G.2.1, 3000, .inl (fun _ => 0))), (q6, .inl (G.2.1, 3000, .inl (fun _ => 0))), (q7, .inl (G.2.1, 3000, .inl (fun _ => 0))), (q8, .inl (G.2.1, 242, .inl (fun _ => 0))), (q9, .inl (G.2.2.1, 3000, .inr (.inl (fun _ => 0)))), (q10, .inl (G.2.2.1, 3000, .inr (.inl (fun _ => 0))))]) rfl (fun H locs w => ?_)
  refine lv_aload_n hx hb dX12_rows_5 rfl (lv_at hl 0 rfl) ?_
  refine lv_iload_n hx hb dX12_rows_6 rfl (lv_at hl 1 rfl) ?_
  refine lv_iconst (v := 1) hx hb dX12_rows_7 (by decide) ?_
  refine fin_i C w (run_V C w mv_X12_336 (k120_isMost C.b0 q0 q11 q8 q12 q13 q14 q15 q16 q17 q2 q18 q3 q4 q19 q6 q7 q1 q5 q20 q21 q22 q23 q24 q25 q26 q27 q28 q9 q10 q29 q30 q31 q32 q33 q34 q35 q36 q37 q38 q39 q40 q41 q42 x0 h6 h13 H.size) [0] rfl rfl 0 rfl rfl (by decide) rfl hl.1 rfl (Nat.le_of_ble_eq_true rfl) dX12_rows_8 (cells2 := 0) (slots2 := 0) (by decide)) [0] [1, 2, 3, 4, 5, 6, 7, 8, 9, 10] rfl rfl (by decide) (cells2 := 0) (slots2 := 0) (by decide) (fun u1 H locs w => ?_)
  have w : Wd s G A [(q1, .inl (G.2.1, 4096, .inl (fun _ => 0))), (q2, .inl (G.2.1, 57, .inl (fun _ => 0))), (q3, .inl (G.2.1, 8, .inl (fun _ => 0))), (q4, .inl (G.2.1, 24008, .inl (fun _ => 0))), (q5, .inl (G.2.1, 3000, .inl (fun _ => 0))), (q6, .inl (G.2.1, 3000, .inl (fun _ => 0))), (q7, .inl (G.2.1, 3000, .inl (fun _ => 0))), (q8, .inl (G.2.1, 242, .inl (fun _ => 0))), (q9, .inl (G.2.2.1, 3000, .inr (.inl (fun _ => 0)))), (q10, .inl (G.2.2.1, 3000, .inr (.inl (fun _ => 0)))), (q0, .inr (12, [.int 0, .int 0, .int 0, .int 0, .int 0, .int 0, .int 0, .int (-1), .ref q11, .ref q8, .ref q12, .int 0, .ref q13, .ref q14, .ref q15, .ref q16, .ref q17, .ref q2, .ref q18, .int 0, .ref q3, .ref q4, .ref q19, .ref q6, .ref q7, .ref q1, .ref q5, .int 0, .int (-1), .int 0, .ref q20, .ref q21, .ref q22, .ref q23, .ref q24, .ref q25, .ref q26, .ref q27, .int 0, .ref q28, .ref q9, .ref q10, .ref q29, .ref q30, .int 0, .ref q31, .ref q32, .ref q33, .ref q34, .int 0, .ref q35, .ref q36, .ref q37, .ref q38, .int 0, .int 0, .ref q39, .ref q40, .ref q41, .ref q42]))] H locs := w
  refine lv_if_eq (tgt := 29) hx hb dX12_rows_11 (by decide) (fun h => absurd h (by decide)) (fun _ => ?_)
  refine lv_aload_n hx hb dX12_rows_14 rfl (lv_at hl 0 rfl) ?_
  refine lv_iload_n hx hb dX12_rows_15 rfl (lv_at hl 2 rfl) ?_
  refine lv_iconst (v := 0) hx hb dX12_rows_16 (by decide) ?_
  refine lv_bipush (v := 20) hx hb dX12_rows_17 (by decide) ?_
  refine fin_i C w (run_S C w ms_X12_289 (k299_within C.b0 x1 h4 h14 H.size) [] rfl rfl (by decide) rfl hl.1 rfl (Nat.le_of_ble_eq_true rfl) dX12_rows_19 (cells2 := 0) (slots2 := 0) (by decide)) [] [0, 1, 2, 3, 4, 5, 6, 7, 8, 9, 10] rfl rfl (by decide) (cells2 := 0) (slots2 := 0) (by decide) (fun u2 H locs w => ?_)
  have w : Wd s G A [(q1, .inl (G.2.1, 4096, .inl (fun _ => 0))), (q2, .inl (G.2.1, 57, .inl (fun _ => 0))), (q3, .inl (G.2.1, 8, .inl (fun _ => 0))), (q4, .inl (G.2.1, 24008, .inl (fun _ => 0))), (q5, .inl (G.2.1, 3000, .inl (fun _ => 0))), (q6, .inl (G.2.1, 3000, .inl (fun _ => 0))), (q7, .inl (G.2.1, 3000, .inl (fun _ => 0))), (q8, .inl (G.2.1, 242, .inl (fun _ => 0))), (q9, .inl (G.2.2.1, 3000, .inr (.inl (fun _ => 0)))), (q10, .inl (G.2.2.1, 3000, .inr (.inl (fun _ => 0)))), (q0, .inr (12, [.int 0, .int 0, .int 0, .int 0, .int 0, .int 0, .int 0, .int (-1), .ref q11, .ref q8, .ref q12, .int 0, .ref q13, .ref q14, .ref q15, .ref q16, .ref q17, .ref q2, .ref q18, .int 0, .ref q3, .ref q4, .ref q19, .ref q6, .ref q7, .ref q1, .ref q5, .int 0, .int (-1), .int 0, .ref q20, .ref q21, .ref q22, .ref q23, .ref q24, .ref q25, .ref q26, .ref q27, .int 0, .ref q28, .ref q9, .ref q10, .ref q29, .ref q30, .int 0, .ref q31, .ref q32, .ref q33, .ref q34, .int 0, .ref q35, .ref q36, .ref q37, .ref q38, .int 0, .int 0, .ref q39, .ref q40, .ref q41, .ref q42]))] H locs := w
  refine lv_iconst (v := 1) hx hb dX12_rows_22 (by decide) ?_
  refine fin_i C w (run_V C w mv_X12_267 (k32_may C.b0 q0 q11 q8 q12 q13 q14 q15 q16 q17 q2 q18 q3 q4 q19 q6 q7 q1 q5 q20 q21 q22 q23 q24 q25 q26 q27 q28 q9 q10 q29 q30 q31 q32 q33 q34 q35 q36 q37 q38 q39 q40 q41 q42 H.size) [10] rfl rfl 10 rfl rfl (by decide) rfl hl.1 rfl (Nat.le_of_ble_eq_true rfl) dX12_rows_23 (cells2 := 0) (slots2 := 0) (by decide)) [10] [0, 1, 2, 3, 4, 5, 6, 7, 8, 9] rfl rfl (by decide) (cells2 := 0) (slots2 := 0) (by decide) (fun u3 H locs w => ?_)
  have w : Wd s G A [(q1, .inl (G.2.1, 4096, .inl (fun _ => 0))), (q2, .inl (G.2.1, 57, .inl (fun _ => 0))), (q3, .inl (G.2.1, 8, .inl (fun _ => 0))), (q4, .inl (G.2.1, 24008, .inl (fun _ => 0))), (q5, .inl (G.2.1, 3000, .inl (fun _ => 0))), (q6, .inl (G.2.1, 3000, .inl (fun _ => 0))), (q7, .inl (G.2.1, 3000, .inl (fun _ => 0))), (q8, .inl (G.2.1, 242, .inl (fun _ => 0))), (q9, .inl (G.2.2.1, 3000, .inr (.inl (fun _ => 0)))), (q10, .inl (G.2.2.1, 3000, .inr (.inl (fun _ => 0)))), (q0, .inr (12, [.int 0, .int 0, .int 0, .int 0, .int 0, .int 0, .int 0, .int (-1), .ref q11, .ref q8, .ref q12, .int 0, .ref q13, .ref q14, .ref q15, .ref q16, .ref q17, .ref q2, .ref q18, .int 0, .ref q3, .ref q4, .ref q19, .ref q6, .ref q7, .ref q1, .ref q5, .int 0, .int (-1), .int 0, .ref q20, .ref q21, .ref q22, .ref q23, .ref q24, .ref q25, .ref q26, .ref q27, .int 0, .ref q28, .ref q9, .ref q10, .ref q29, .ref q30, .int 0, .ref q31, .ref q32, .ref q33, .ref q34, .int 0, .ref q35, .ref q36, .ref q37, .ref q38, .int 0, .int 0, .ref q39, .ref q40, .ref q41, .ref q42]))] H locs := w
  refine lv_if_ne (tgt := 31) hx hb dX12_rows_26 (by decide) (fun _ => ?_) (fun h => h.elim (by decide))
  refine lv_aload_n hx hb dX12_rows_31 rfl (lv_at hl 0 rfl) ?_
  refine lv_iload_n hx hb dX12_rows_32 rfl (lv_at hl 1 rfl) ?_
  refine fin_v C w (run_V C w mv_X12_339 (k124_explores C.b0 q0 q1 q2 q3 q4 q5 q6 q7 q8 q11 q12 q13 q14 q15 q16 q17 q18 q19 q20 q21 q22 q23 q24 q25 q26 q27 q28 q9 q10 q29 q30 q31 q32 q33 q34 q35 q36 q37 q38 q39 q40 q41 q42 x0 H.size) [10, 0, 1, 2, 3, 4, 5, 6, 7] rfl rfl 10 rfl rfl (by decide) rfl hl.1 rfl (Nat.le_of_ble_eq_true rfl) dX12_rows_33 (cells2 := 0) (slots2 := 0) (by decide)) [10, 0, 1, 2, 3, 4, 5, 6, 7] [8, 9] rfl rfl (by decide) (cells2 := 0) (slots2 := 0) (by decide) (fun u4 H locs w => ?_)
  have w : Wd s G A [(q9, .inl (G.2.2.1, 3000, .inr (.inl (fun _ => 0)))), (q10, .inl (G.2.2.1, 3000, .inr (.inl (fun _ => 0)))), (q0, .inr (12, [.int 0, .int 0, .int 0, .int 0, .int 0, .int 0, .int 0, .int (-1), .ref q11, .ref q8, .ref q12, .int 0, .ref q13, .ref q14, .ref q15, .ref q16, .ref q17, .ref q2, .ref q18, .int 0, .ref q3, .ref q4, .ref q19, .ref q6, .ref q7, .ref q1, .ref q5, .int 1, .int (-1), .int 0, .ref q20, .ref q21, .ref q22, .ref q23, .ref q24, .ref q25, .ref q26, .ref q27, .int 0, .ref q28, .ref q9, .ref q10, .ref q29, .ref q30, .int 0, .ref q31, .ref q32, .ref q33, .ref q34, .int 0, .ref q35, .ref q36, .ref q37, .ref q38, .int 0, .int 0, .ref q39, .ref q40, .ref q41, .ref q42])), (q1, .inl (G.2.1, 4096, .inl (upd (fun _ => (-1)) 0 0))), (q2, .inl (G.2.1, 57, .inl (fun _ => 0))), (q3, .inl (G.2.1, 8, .inl (fun _ => 0))), (q4, .inl (G.2.1, 24008, .inl (fun _ => 0))), (q5, .inl (G.2.1, 3000, .inl (upd (fun _ => 0) 0 (-1)))), (q6, .inl (G.2.1, 3000, .inl (upd (fun _ => 0) 0 (-1)))), (q7, .inl (G.2.1, 3000, .inl (upd (fun _ => 0) 0 (-1)))), (q8, .inl (G.2.1, 242, .inl (fun _ => 0)))] H locs := w
  refine lv_aload_n hx hb dX12_rows_36 rfl (lv_at hl 0 rfl) ?_
  refine r_get C w 2 rfl fr_X12_325 rfl dX12_rows_37 ?_
  refine lv_if_eq (tgt := 47) hx hb dX12_rows_40 (by decide) (fun _ => ?_) (fun h => absurd (by decide) h)
  refine lv_iconst (v := 0) hx hb dX12_rows_47 (by decide) ?_
  refine lv_istore_n (lv' := [(3, .int 0), (0, .ref q0), (1, .int x0), (2, .int x1)]) hx hb dX12_rows_48 rfl hl (by decide) rfl (fun ls hl => ?_)
  refine lv_iload_n hx hb dX12_rows_49 rfl (lv_at hl 0 rfl) ?_
  refine lv_aload_n hx hb dX12_rows_50 rfl (lv_at hl 1 rfl) ?_
  refine r_get C w 2 rfl fr_X12_322 rfl dX12_rows_51 ?_
  refine lv_icmp_ge (tgt := 78) hx hb dX12_rows_54 (by decide) (fun h => absurd h (by decide)) (fun _ => ?_)
  refine lv_aload_n hx hb dX12_rows_57 rfl (lv_at hl 1 rfl) ?_
  refine r_get C w 2 rfl fr_X12_99 rfl dX12_rows_58 ?_
  refine lv_iload_n hx hb dX12_rows_61 rfl (lv_at hl 0 rfl) ?_
  refine lv_iload_n hx hb dX12_rows_62 rfl (lv_at hl 0 rfl) ?_
  refine lv_if_ne (tgt := 70) hx hb dX12_rows_63 (by decide) (fun h => absurd (by decide) h) (fun _ => ?_)
  refine lv_lconst (v := 1) hx hb dX12_rows_66 (by decide) ?_
  refine lv_goto (tgt := 71) hx hb dX12_rows_67 (by decide) ?_
  refine r_last C w 0 rfl (IX.of (k := 0) (by decide +kernel)) (g := (vp_updL (fun _ => 0) 0 1)) rfl dX12_rows_71 (ws2 := [(q9, .inl (G.2.2.1, 3000, .inr (.inl (vp_updL (fun _ => 0) 0 1)))), (q10, .inl (G.2.2.1, 3000, .inr (.inl (fun _ => 0)))), (q0, .inr (12, [.int 0, .int 0, .int 0, .int 0, .int 0, .int 0, .int 0, .int (-1), .ref q11, .ref q8, .ref q12, .int 0, .ref q13, .ref q14, .ref q15, .ref q16, .ref q17, .ref q2, .ref q18, .int 0, .ref q3, .ref q4, .ref q19, .ref q6, .ref q7, .ref q1, .ref q5, .int 1, .int (-1), .int 0, .ref q20, .ref q21, .ref q22, .ref q23, .ref q24, .ref q25, .ref q26, .ref q27, .int 0, .ref q28, .ref q9, .ref q10, .ref q29, .ref q30, .int 0, .ref q31, .ref q32, .ref q33, .ref q34, .int 0, .ref q35, .ref q36, .ref q37, .ref q38, .int 0, .int 0, .ref q39, .ref q40, .ref q41, .ref q42])), (q1, .inl (G.2.1, 4096, .inl (upd (fun _ => (-1)) 0 0))), (q2, .inl (G.2.1, 57, .inl (fun _ => 0))), (q3, .inl (G.2.1, 8, .inl (fun _ => 0))), (q4, .inl (G.2.1, 24008, .inl (fun _ => 0))), (q5, .inl (G.2.1, 3000, .inl (upd (fun _ => 0) 0 (-1)))), (q6, .inl (G.2.1, 3000, .inl (upd (fun _ => 0) 0 (-1)))), (q7, .inl (G.2.1, 3000, .inl (upd (fun _ => 0) 0 (-1)))), (q8, .inl (G.2.1, 242, .inl (fun _ => 0)))]) rfl (fun H locs w => ?_)
  refine lv_iinc (v := 1) (lv' := [(3, .int 1), (0, .ref q0), (1, .int x0), (2, .int x1)]) hx hb dX12_rows_72 hl (k := 0) rfl (by decide +kernel) (by decide) rfl (fun ls hl => ?_)
  refine lv_goto (tgt := 49) hx hb dX12_rows_75 (by decide) ?_
  refine lv_iload_n hx hb dX12_rows_49 rfl (lv_at hl 0 rfl) ?_
  refine lv_aload_n hx hb dX12_rows_50 rfl (lv_at hl 1 rfl) ?_
  refine r_get C w 2 rfl fr_X12_322 rfl dX12_rows_51 ?_
  refine lv_icmp_ge (tgt := 78) hx hb dX12_rows_54 (by decide) (fun _ => ?_) (fun h => absurd (by decide) h)
  refine lv_iconst (v := 0) hx hb dX12_rows_78 (by decide) ?_
  refine lv_istore_n (lv' := [(3, .int 0), (0, .ref q0), (1, .int x0), (2, .int x1)]) hx hb dX12_rows_79 rfl hl (by decide) rfl (fun ls hl => ?_)
  refine lv_iload_n hx hb dX12_rows_80 rfl (lv_at hl 0 rfl) ?_
  refine lv_iload_n hx hb dX12_rows_81 rfl (lv_at hl 3 rfl) ?_
  refine lv_icmp_ge (tgt := 230) hx hb dX12_rows_82 (by decide) (fun h => absurd h (Int32.not_le.mpr h0)) (fun _ => ?_)
  refine lv_iconst (v := 0) hx hb dX12_rows_85 (by decide) ?_
  refine lv_istore (lv' := [(4, .int 0), (3, .int 0), (0, .ref q0), (1, .int x0), (2, .int x1)]) hx hb dX12_rows_86 hl (by decide) rfl (fun ls hl => ?_)
  refine lv_iload hx hb dX12_rows_88 (lv_at hl 0 rfl) ?_
  refine lv_aload_n hx hb dX12_rows_90 rfl (lv_at hl 2 rfl) ?_
  refine r_get C w 2 rfl fr_X12_322 rfl dX12_rows_91 ?_
  refine lv_icmp_ge (tgt := 111) hx hb dX12_rows_94 (by decide) (fun h => absurd h (by decide)) (fun _ => ?_)
  refine lv_aload_n hx hb dX12_rows_97 rfl (lv_at hl 2 rfl) ?_
  refine r_get C w 2 rfl fr_X12_103 rfl dX12_rows_98 ?_
  refine lv_iload hx hb dX12_rows_101 (lv_at hl 0 rfl) ?_
  refine lv_lconst (v := 0) hx hb dX12_rows_103 (by decide) ?_
  refine r_last C w 1 rfl (IX.of (k := 0) (by decide +kernel)) (g := (fun _ => 0)) (updL_c _ _) dX12_rows_104 (ws2 := [(q9, .inl (G.2.2.1, 3000, .inr (.inl (vp_updL (fun _ => 0) 0 1)))), (q10, .inl (G.2.2.1, 3000, .inr (.inl (fun _ => 0)))), (q0, .inr (12, [.int 0, .int 0, .int 0, .int 0, .int 0, .int 0, .int 0, .int (-1), .ref q11, .ref q8, .ref q12, .int 0, .ref q13, .ref q14, .ref q15, .ref q16, .ref q17, .ref q2, .ref q18, .int 0, .ref q3, .ref q4, .ref q19, .ref q6, .ref q7, .ref q1, .ref q5, .int 1, .int (-1), .int 0, .ref q20, .ref q21, .ref q22, .ref q23, .ref q24, .ref q25, .ref q26, .ref q27, .int 0, .ref q28, .ref q9, .ref q10, .ref q29, .ref q30, .int 0, .ref q31, .ref q32, .ref q33, .ref q34, .int 0, .ref q35, .ref q36, .ref q37, .ref q38, .int 0, .int 0, .ref q39, .ref q40, .ref q41, .ref q42])), (q1, .inl (G.2.1, 4096, .inl (upd (fun _ => (-1)) 0 0))), (q2, .inl (G.2.1, 57, .inl (fun _ => 0))), (q3, .inl (G.2.1, 8, .inl (fun _ => 0))), (q4, .inl (G.2.1, 24008, .inl (fun _ => 0))), (q5, .inl (G.2.1, 3000, .inl (upd (fun _ => 0) 0 (-1)))), (q6, .inl (G.2.1, 3000, .inl (upd (fun _ => 0) 0 (-1)))), (q7, .inl (G.2.1, 3000, .inl (upd (fun _ => 0) 0 (-1)))), (q8, .inl (G.2.1, 242, .inl (fun _ => 0)))]) rfl (fun H locs w => ?_)
  refine lv_iinc (v := 1) (lv' := [(4, .int 1), (3, .int 0), (0, .ref q0), (1, .int x0), (2, .int x1)]) hx hb dX12_rows_105 hl (k := 0) rfl (by decide +kernel) (by decide) rfl (fun ls hl => ?_)
  refine lv_goto (tgt := 88) hx hb dX12_rows_108 (by decide) ?_
  refine lv_iload hx hb dX12_rows_88 (lv_at hl 0 rfl) ?_
  refine lv_aload_n hx hb dX12_rows_90 rfl (lv_at hl 2 rfl) ?_
  refine r_get C w 2 rfl fr_X12_322 rfl dX12_rows_91 ?_
  refine lv_icmp_ge (tgt := 111) hx hb dX12_rows_94 (by decide) (fun _ => ?_) (fun h => absurd (by decide) h)
  refine lv_iconst (v := 0) hx hb dX12_rows_111 (by decide) ?_
  refine lv_istore (lv' := [(4, .int 0), (3, .int 0), (0, .ref q0), (1, .int x0), (2, .int x1)]) hx hb dX12_rows_112 hl (by decide) rfl (fun ls hl => ?_)
  refine lv_iload hx hb dX12_rows_114 (lv_at hl 0 rfl) ?_
  refine lv_aload_n hx hb dX12_rows_116 rfl (lv_at hl 2 rfl) ?_
  refine r_get C w 2 rfl fr_X12_322 rfl dX12_rows_117 ?_
  refine lv_icmp_ge (tgt := 192) hx hb dX12_rows_120 (by decide) (fun h => absurd h (by decide)) (fun _ => ?_)
  refine lv_iconst (v := 0) hx hb dX12_rows_123 (by decide) ?_
  refine lv_istore (lv' := [(5, .int 0), (4, .int 0), (3, .int 0), (0, .ref q0), (1, .int x0), (2, .int x1)]) hx hb dX12_rows_124 hl (by decide) rfl (fun ls hl => ?_)
  refine lv_iload hx hb dX12_rows_126 (lv_at hl 0 rfl) ?_
  refine lv_aload_n hx hb dX12_rows_128 rfl (lv_at hl 3 rfl) ?_
  refine fin_i C w (run_V C w mv_X12_286 (k123_acts C.b0 q0 q8 q11 q12 q13 q14 q15 q16 q17 q2 q18 q3 q4 q19 q6 q7 q1 q5 q20 q21 q22 q23 q24 q25 q26 q27 q28 q9 q10 q29 q30 q31 q32 q33 q34 q35 q36 q37 q38 q39 q40 q41 q42 H.size) [2, 10] rfl rfl 2 rfl rfl (by decide) rfl hl.1 rfl (Nat.le_of_ble_eq_true rfl) dX12_rows_129 (cells2 := 0) (slots2 := 0) (by decide)) [2, 10] [0, 1, 3, 4, 5, 6, 7, 8, 9] rfl rfl (by decide) (cells2 := 0) (slots2 := 0) (by decide) (fun u5 H locs w => ?_)
  have w : Wd s G A [(q9, .inl (G.2.2.1, 3000, .inr (.inl (vp_updL (fun _ => 0) 0 1)))), (q10, .inl (G.2.2.1, 3000, .inr (.inl (fun _ => 0)))), (q1, .inl (G.2.1, 4096, .inl (upd (fun _ => (-1)) 0 0))), (q2, .inl (G.2.1, 57, .inl (fun _ => 0))), (q3, .inl (G.2.1, 8, .inl (fun _ => 0))), (q4, .inl (G.2.1, 24008, .inl (fun _ => 0))), (q5, .inl (G.2.1, 3000, .inl (upd (fun _ => 0) 0 (-1)))), (q6, .inl (G.2.1, 3000, .inl (upd (fun _ => 0) 0 (-1)))), (q7, .inl (G.2.1, 3000, .inl (upd (fun _ => 0) 0 (-1)))), (q0, .inr (12, [.int 0, .int 0, .int 0, .int 0, .int 0, .int 0, .int 0, .int (-1), .ref q11, .ref q8, .ref q12, .int 0, .ref q13, .ref q14, .ref q15, .ref q16, .ref q17, .ref q2, .ref q18, .int 0, .ref q3, .ref q4, .ref q19, .ref q6, .ref q7, .ref q1, .ref q5, .int 1, .int (-1), .int 0, .ref q20, .ref q21, .ref q22, .ref q23, .ref q24, .ref q25, .ref q26, .ref q27, .int 0, .ref q28, .ref q9, .ref q10, .ref q29, .ref q30, .int 0, .ref q31, .ref q32, .ref q33, .ref q34, .int 0, .ref q35, .ref q36, .ref q37, .ref q38, .int 0, .int 0, .ref q39, .ref q40, .ref q41, .ref q42])), (q8, .inl (G.2.1, 242, .inl (fun _ => 0)))] H locs := w
  refine lv_icmp_ge (tgt := 186) hx hb dX12_rows_132 (by decide) (fun _ => ?_) (fun h => absurd (by decide) h)
  refine lv_iinc (v := 1) (lv' := [(4, .int 1), (5, .int 0), (3, .int 0), (0, .ref q0), (1, .int x0), (2, .int x1)]) hx hb dX12_rows_186 hl (k := 1) rfl (by decide +kernel) (by decide) rfl (fun ls hl => ?_)
  refine lv_goto (tgt := 114) hx hb dX12_rows_189 (by decide) ?_
  refine lv_iload hx hb dX12_rows_114 (lv_at hl 0 rfl) ?_
  refine lv_aload_n hx hb dX12_rows_116 rfl (lv_at hl 3 rfl) ?_
  refine r_get C w 9 rfl fr_X12_322 rfl dX12_rows_117 ?_
  refine lv_icmp_ge (tgt := 192) hx hb dX12_rows_120 (by decide) (fun _ => ?_) (fun h => absurd (by decide) h)
  refine lv_iconst (v := 0) hx hb dX12_rows_192 (by decide) ?_
  refine lv_istore (lv' := [(4, .int 0), (5, .int 0), (3, .int 0), (0, .ref q0), (1, .int x0), (2, .int x1)]) hx hb dX12_rows_193 hl (by decide) rfl (fun ls hl => ?_)
  refine lv_iload hx hb dX12_rows_195 (lv_at hl 0 rfl) ?_
  refine lv_aload_n hx hb dX12_rows_197 rfl (lv_at hl 3 rfl) ?_
  refine r_get C w 9 rfl fr_X12_322 rfl dX12_rows_198 ?_
  refine lv_icmp_ge (tgt := 224) hx hb dX12_rows_201 (by decide) (fun h => absurd h (by decide)) (fun _ => ?_)
  refine lv_aload_n hx hb dX12_rows_204 rfl (lv_at hl 3 rfl) ?_
  refine r_get C w 9 rfl fr_X12_99 rfl dX12_rows_205 ?_
  refine lv_iload hx hb dX12_rows_208 (lv_at hl 0 rfl) ?_
  refine lv_aload_n hx hb dX12_rows_210 rfl (lv_at hl 3 rfl) ?_
  refine r_get C w 9 rfl fr_X12_103 rfl dX12_rows_211 ?_
  refine lv_iload hx hb dX12_rows_214 (lv_at hl 0 rfl) ?_
  refine r_lald C w 1 rfl (IX.of (k := 0) (by decide +kernel)) (v := 0) rfl dX12_rows_216 ?_
  refine r_last C w 0 rfl (IX.of (k := 0) (by decide +kernel)) (g := (vp_updL (vp_updL (fun _ => 0) 0 1) 0 0)) rfl dX12_rows_217 (ws2 := [(q9, .inl (G.2.2.1, 3000, .inr (.inl (vp_updL (vp_updL (fun _ => 0) 0 1) 0 0)))), (q10, .inl (G.2.2.1, 3000, .inr (.inl (fun _ => 0)))), (q1, .inl (G.2.1, 4096, .inl (upd (fun _ => (-1)) 0 0))), (q2, .inl (G.2.1, 57, .inl (fun _ => 0))), (q3, .inl (G.2.1, 8, .inl (fun _ => 0))), (q4, .inl (G.2.1, 24008, .inl (fun _ => 0))), (q5, .inl (G.2.1, 3000, .inl (upd (fun _ => 0) 0 (-1)))), (q6, .inl (G.2.1, 3000, .inl (upd (fun _ => 0) 0 (-1)))), (q7, .inl (G.2.1, 3000, .inl (upd (fun _ => 0) 0 (-1)))), (q0, .inr (12, [.int 0, .int 0, .int 0, .int 0, .int 0, .int 0, .int 0, .int (-1), .ref q11, .ref q8, .ref q12, .int 0, .ref q13, .ref q14, .ref q15, .ref q16, .ref q17, .ref q2, .ref q18, .int 0, .ref q3, .ref q4, .ref q19, .ref q6, .ref q7, .ref q1, .ref q5, .int 1, .int (-1), .int 0, .ref q20, .ref q21, .ref q22, .ref q23, .ref q24, .ref q25, .ref q26, .ref q27, .int 0, .ref q28, .ref q9, .ref q10, .ref q29, .ref q30, .int 0, .ref q31, .ref q32, .ref q33, .ref q34, .int 0, .ref q35, .ref q36, .ref q37, .ref q38, .int 0, .int 0, .ref q39, .ref q40, .ref q41, .ref q42])), (q8, .inl (G.2.1, 242, .inl (fun _ => 0)))]) rfl (fun H locs w => ?_)
  refine lv_iinc (v := 1) (lv' := [(4, .int 1), (5, .int 0), (3, .int 0), (0, .ref q0), (1, .int x0), (2, .int x1)]) hx hb dX12_rows_218 hl (k := 0) rfl (by decide +kernel) (by decide) rfl (fun ls hl => ?_)
  refine lv_goto (tgt := 195) hx hb dX12_rows_221 (by decide) ?_
  refine lv_iload hx hb dX12_rows_195 (lv_at hl 0 rfl) ?_
  refine lv_aload_n hx hb dX12_rows_197 rfl (lv_at hl 3 rfl) ?_
  refine r_get C w 9 rfl fr_X12_322 rfl dX12_rows_198 ?_
  refine lv_icmp_ge (tgt := 224) hx hb dX12_rows_201 (by decide) (fun _ => ?_) (fun h => absurd (by decide) h)
  refine lv_iinc (v := 1) (lv' := [(3, .int 1), (4, .int 1), (5, .int 0), (0, .ref q0), (1, .int x0), (2, .int x1)]) hx hb dX12_rows_224 hl (k := 2) rfl (by decide +kernel) (by decide) rfl (fun ls hl => ?_)
  refine lv_goto (tgt := 80) hx hb dX12_rows_227 (by decide) ?_
  refine lv_iload_n hx hb dX12_rows_80 rfl (lv_at hl 0 rfl) ?_
  refine lv_iload_n hx hb dX12_rows_81 rfl (lv_at hl 5 rfl) ?_
  refine lv_icmp_ge (tgt := 230) hx hb dX12_rows_82 (by decide) (fun h => absurd h (Int32.not_le.mpr h1)) (fun _ => ?_)
  refine lv_iconst (v := 0) hx hb dX12_rows_85 (by decide) ?_
  refine lv_istore (lv' := [(4, .int 0), (3, .int 1), (5, .int 0), (0, .ref q0), (1, .int x0), (2, .int x1)]) hx hb dX12_rows_86 hl (by decide) rfl (fun ls hl => ?_)
  refine lv_iload hx hb dX12_rows_88 (lv_at hl 0 rfl) ?_
  refine lv_aload_n hx hb dX12_rows_90 rfl (lv_at hl 3 rfl) ?_
  refine r_get C w 9 rfl fr_X12_322 rfl dX12_rows_91 ?_
  refine lv_icmp_ge (tgt := 111) hx hb dX12_rows_94 (by decide) (fun h => absurd h (by decide)) (fun _ => ?_)
  refine lv_aload_n hx hb dX12_rows_97 rfl (lv_at hl 3 rfl) ?_
  refine r_get C w 9 rfl fr_X12_103 rfl dX12_rows_98 ?_
  refine lv_iload hx hb dX12_rows_101 (lv_at hl 0 rfl) ?_
  refine lv_lconst (v := 0) hx hb dX12_rows_103 (by decide) ?_
  refine r_last C w 1 rfl (IX.of (k := 0) (by decide +kernel)) (g := (fun _ => 0)) (updL_c _ _) dX12_rows_104 (ws2 := [(q9, .inl (G.2.2.1, 3000, .inr (.inl (vp_updL (vp_updL (fun _ => 0) 0 1) 0 0)))), (q10, .inl (G.2.2.1, 3000, .inr (.inl (fun _ => 0)))), (q1, .inl (G.2.1, 4096, .inl (upd (fun _ => (-1)) 0 0))), (q2, .inl (G.2.1, 57, .inl (fun _ => 0))), (q3, .inl (G.2.1, 8, .inl (fun _ => 0))), (q4, .inl (G.2.1, 24008, .inl (fun _ => 0))), (q5, .inl (G.2.1, 3000, .inl (upd (fun _ => 0) 0 (-1)))), (q6, .inl (G.2.1, 3000, .inl (upd (fun _ => 0) 0 (-1)))), (q7, .inl (G.2.1, 3000, .inl (upd (fun _ => 0) 0 (-1)))), (q0, .inr (12, [.int 0, .int 0, .int 0, .int 0, .int 0, .int 0, .int 0, .int (-1), .ref q11, .ref q8, .ref q12, .int 0, .ref q13, .ref q14, .ref q15, .ref q16, .ref q17, .ref q2, .ref q18, .int 0, .ref q3, .ref q4, .ref q19, .ref q6, .ref q7, .ref q1, .ref q5, .int 1, .int (-1), .int 0, .ref q20, .ref q21, .ref q22, .ref q23, .ref q24, .ref q25, .ref q26, .ref q27, .int 0, .ref q28, .ref q9, .ref q10, .ref q29, .ref q30, .int 0, .ref q31, .ref q32, .ref q33, .ref q34, .int 0, .ref q35, .ref q36, .ref q37, .ref q38, .int 0, .int 0, .ref q39, .ref q40, .ref q41, .ref q42])), (q8, .inl (G.2.1, 242, .inl (fun _ => 0)))]) rfl (fun H locs w => ?_)
  refine lv_iinc (v := 1) (lv' := [(4, .int 1), (3, .int 1), (5, .int 0), (0, .ref q0), (1, .int x0), (2, .int x1)]) hx hb dX12_rows_105 hl (k := 0) rfl (by decide +kernel) (by decide) rfl (fun ls hl => ?_)
  refine lv_goto (tgt := 88) hx hb dX12_rows_108 (by decide) ?_
  refine lv_iload hx hb dX12_rows_88 (lv_at hl 0 rfl) ?_
  refine lv_aload_n hx hb dX12_rows_90 rfl (lv_at hl 3 rfl) ?_
  refine r_get C w 9 rfl fr_X12_322 rfl dX12_rows_91 ?_
  refine lv_icmp_ge (tgt := 111) hx hb dX12_rows_94 (by decide) (fun _ => ?_) (fun h => absurd (by decide) h)
  refine lv_iconst (v := 0) hx hb dX12_rows_111 (by decide) ?_
  refine lv_istore (lv' := [(4, .int 0), (3, .int 1), (5, .int 0), (0, .ref q0), (1, .int x0), (2, .int x1)]) hx hb dX12_rows_112 hl (by decide) rfl (fun ls hl => ?_)
  refine lv_iload hx hb dX12_rows_114 (lv_at hl 0 rfl) ?_
  refine lv_aload_n hx hb dX12_rows_116 rfl (lv_at hl 3 rfl) ?_
  refine r_get C w 9 rfl fr_X12_322 rfl dX12_rows_117 ?_
  refine lv_icmp_ge (tgt := 192) hx hb dX12_rows_120 (by decide) (fun h => absurd h (by decide)) (fun _ => ?_)
  refine lv_iconst (v := 0) hx hb dX12_rows_123 (by decide) ?_
  refine lv_istore (lv' := [(5, .int 0), (4, .int 0), (3, .int 1), (0, .ref q0), (1, .int x0), (2, .int x1)]) hx hb dX12_rows_124 hl (by decide) rfl (fun ls hl => ?_)
  refine lv_iload hx hb dX12_rows_126 (lv_at hl 0 rfl) ?_
  refine lv_aload_n hx hb dX12_rows_128 rfl (lv_at hl 3 rfl) ?_
  refine fin_i C w (run_V C w mv_X12_286 (k123_acts C.b0 q0 q8 q11 q12 q13 q14 q15 q16 q17 q2 q18 q3 q4 q19 q6 q7 q1 q5 q20 q21 q22 q23 q24 q25 q26 q27 q28 q9 q10 q29 q30 q31 q32 q33 q34 q35 q36 q37 q38 q39 q40 q41 q42 H.size) [9, 10] rfl rfl 9 rfl rfl (by decide) rfl hl.1 rfl (Nat.le_of_ble_eq_true rfl) dX12_rows_129 (cells2 := 0) (slots2 := 0) (by decide)) [9, 10] [0, 1, 2, 3, 4, 5, 6, 7, 8] rfl rfl (by decide) (cells2 := 0) (slots2 := 0) (by decide) (fun u6 H locs w => ?_)
  have w : Wd s G A [(q9, .inl (G.2.2.1, 3000, .inr (.inl (vp_updL (vp_updL (fun _ => 0) 0 1) 0 0)))), (q10, .inl (G.2.2.1, 3000, .inr (.inl (fun _ => 0)))), (q1, .inl (G.2.1, 4096, .inl (upd (fun _ => (-1)) 0 0))), (q2, .inl (G.2.1, 57, .inl (fun _ => 0))), (q3, .inl (G.2.1, 8, .inl (fun _ => 0))), (q4, .inl (G.2.1, 24008, .inl (fun _ => 0))), (q5, .inl (G.2.1, 3000, .inl (upd (fun _ => 0) 0 (-1)))), (q6, .inl (G.2.1, 3000, .inl (upd (fun _ => 0) 0 (-1)))), (q7, .inl (G.2.1, 3000, .inl (upd (fun _ => 0) 0 (-1)))), (q0, .inr (12, [.int 0, .int 0, .int 0, .int 0, .int 0, .int 0, .int 0, .int (-1), .ref q11, .ref q8, .ref q12, .int 0, .ref q13, .ref q14, .ref q15, .ref q16, .ref q17, .ref q2, .ref q18, .int 0, .ref q3, .ref q4, .ref q19, .ref q6, .ref q7, .ref q1, .ref q5, .int 1, .int (-1), .int 0, .ref q20, .ref q21, .ref q22, .ref q23, .ref q24, .ref q25, .ref q26, .ref q27, .int 0, .ref q28, .ref q9, .ref q10, .ref q29, .ref q30, .int 0, .ref q31, .ref q32, .ref q33, .ref q34, .int 0, .ref q35, .ref q36, .ref q37, .ref q38, .int 0, .int 0, .ref q39, .ref q40, .ref q41, .ref q42])), (q8, .inl (G.2.1, 242, .inl (fun _ => 0)))] H locs := w
  refine lv_icmp_ge (tgt := 186) hx hb dX12_rows_132 (by decide) (fun _ => ?_) (fun h => absurd (by decide) h)
  refine lv_iinc (v := 1) (lv' := [(4, .int 1), (5, .int 0), (3, .int 1), (0, .ref q0), (1, .int x0), (2, .int x1)]) hx hb dX12_rows_186 hl (k := 1) rfl (by decide +kernel) (by decide) rfl (fun ls hl => ?_)
  refine lv_goto (tgt := 114) hx hb dX12_rows_189 (by decide) ?_
  refine lv_iload hx hb dX12_rows_114 (lv_at hl 0 rfl) ?_
  refine lv_aload_n hx hb dX12_rows_116 rfl (lv_at hl 3 rfl) ?_
  refine r_get C w 9 rfl fr_X12_322 rfl dX12_rows_117 ?_
  refine lv_icmp_ge (tgt := 192) hx hb dX12_rows_120 (by decide) (fun _ => ?_) (fun h => absurd (by decide) h)
  refine lv_iconst (v := 0) hx hb dX12_rows_192 (by decide) ?_
  refine lv_istore (lv' := [(4, .int 0), (5, .int 0), (3, .int 1), (0, .ref q0), (1, .int x0), (2, .int x1)]) hx hb dX12_rows_193 hl (by decide) rfl (fun ls hl => ?_)
  refine lv_iload hx hb dX12_rows_195 (lv_at hl 0 rfl) ?_
  refine lv_aload_n hx hb dX12_rows_197 rfl (lv_at hl 3 rfl) ?_
  refine r_get C w 9 rfl fr_X12_322 rfl dX12_rows_198 ?_
  refine lv_icmp_ge (tgt := 224) hx hb dX12_rows_201 (by decide) (fun h => absurd h (by decide)) (fun _ => ?_)
  refine lv_aload_n hx hb dX12_rows_204 rfl (lv_at hl 3 rfl) ?_
  refine r_get C w 9 rfl fr_X12_99 rfl dX12_rows_205 ?_
  refine lv_iload hx hb dX12_rows_208 (lv_at hl 0 rfl) ?_
  refine lv_aload_n hx hb dX12_rows_210 rfl (lv_at hl 3 rfl) ?_
  refine r_get C w 9 rfl fr_X12_103 rfl dX12_rows_211 ?_
  refine lv_iload hx hb dX12_rows_214 (lv_at hl 0 rfl) ?_
  refine r_lald C w 1 rfl (IX.of (k := 0) (by decide +kernel)) (v := 0) rfl dX12_rows_216 ?_
  refine r_last C w 0 rfl (IX.of (k := 0) (by decide +kernel)) (g := (vp_updL (vp_updL (vp_updL (fun _ => 0) 0 1) 0 0) 0 0)) rfl dX12_rows_217 (ws2 := [(q9, .inl (G.2.2.1, 3000, .inr (.inl (vp_updL (vp_updL (vp_updL (fun _ => 0) 0 1) 0 0) 0 0)))), (q10, .inl (G.2.2.1, 3000, .inr (.inl (fun _ => 0)))), (q1, .inl (G.2.1, 4096, .inl (upd (fun _ => (-1)) 0 0))), (q2, .inl (G.2.1, 57, .inl (fun _ => 0))), (q3, .inl (G.2.1, 8, .inl (fun _ => 0))), (q4, .inl (G.2.1, 24008, .inl (fun _ => 0))), (q5, .inl (G.2.1, 3000, .inl (upd (fun _ => 0) 0 (-1)))), (q6, .inl (G.2.1, 3000, .inl (upd (fun _ => 0) 0 (-1)))), (q7, .inl (G.2.1, 3000, .inl (upd (fun _ => 0) 0 (-1)))), (q0, .inr (12, [.int 0, .int 0, .int 0, .int 0, .int 0, .int 0, .int 0, .int (-1), .ref q11, .ref q8, .ref q12, .int 0, .ref q13, .ref q14, .ref q15, .ref q16, .ref q17, .ref q2, .ref q18, .int 0, .ref q3, .ref q4, .ref q19, .ref q6, .ref q7, .ref q1, .ref q5, .int 1, .int (-1), .int 0, .ref q20, .ref q21, .ref q22, .ref q23, .ref q24, .ref q25, .ref q26, .ref q27, .int 0, .ref q28, .ref q9, .ref q10, .ref q29, .ref q30, .int 0, .ref q31, .ref q32, .ref q33, .ref q34, .int 0, .ref q35, .ref q36, .ref q37, .ref q38, .int 0, .int 0, .ref q39, .ref q40, .ref q41, .ref q42])), (q8, .inl (G.2.1, 242, .inl (fun _ => 0)))]) rfl (fun H locs w => ?_)
  refine lv_iinc (v := 1) (lv' := [(4, .int 1), (5, .int 0), (3, .int 1), (0, .ref q0), (1, .int x0), (2, .int x1)]) hx hb dX12_rows_218 hl (k := 0) rfl (by decide +kernel) (by decide) rfl (fun ls hl => ?_)
  refine lv_goto (tgt := 195) hx hb dX12_rows_221 (by decide) ?_
  refine lv_iload hx hb dX12_rows_195 (lv_at hl 0 rfl) ?_
  refine lv_aload_n hx hb dX12_rows_197 rfl (lv_at hl 3 rfl) ?_
  refine r_get C w 9 rfl fr_X12_322 rfl dX12_rows_198 ?_
  refine lv_icmp_ge (tgt := 224) hx hb dX12_rows_201 (by decide) (fun _ => ?_) (fun h => absurd (by decide) h)
  refine lv_iinc (v := 2) (lv' := [(3, .int 2), (4, .int 1), (5, .int 0), (0, .ref q0), (1, .int x0), (2, .int x1)]) hx hb dX12_rows_224 hl (k := 2) rfl (by decide +kernel) (by decide) rfl (fun ls hl => ?_)
  refine lv_goto (tgt := 80) hx hb dX12_rows_227 (by decide) ?_
  refine lv_iload_n hx hb dX12_rows_80 rfl (lv_at hl 0 rfl) ?_
  refine lv_iload_n hx hb dX12_rows_81 rfl (lv_at hl 5 rfl) ?_
  refine lv_icmp_ge (tgt := 230) hx hb dX12_rows_82 (by decide) (fun h => absurd h (Int32.not_le.mpr h3)) (fun _ => ?_)
  refine lv_iconst (v := 0) hx hb dX12_rows_85 (by decide) ?_
  refine lv_istore (lv' := [(4, .int 0), (3, .int 2), (5, .int 0), (0, .ref q0), (1, .int x0), (2, .int x1)]) hx hb dX12_rows_86 hl (by decide) rfl (fun ls hl => ?_)
  refine lv_iload hx hb dX12_rows_88 (lv_at hl 0 rfl) ?_
  refine lv_aload_n hx hb dX12_rows_90 rfl (lv_at hl 3 rfl) ?_
  refine r_get C w 9 rfl fr_X12_322 rfl dX12_rows_91 ?_
  refine lv_icmp_ge (tgt := 111) hx hb dX12_rows_94 (by decide) (fun h => absurd h (by decide)) (fun _ => ?_)
  refine lv_aload_n hx hb dX12_rows_97 rfl (lv_at hl 3 rfl) ?_
  refine r_get C w 9 rfl fr_X12_103 rfl dX12_rows_98 ?_
  refine lv_iload hx hb dX12_rows_101 (lv_at hl 0 rfl) ?_
  refine lv_lconst (v := 0) hx hb dX12_rows_103 (by decide) ?_
  refine r_last C w 1 rfl (IX.of (k := 0) (by decide +kernel)) (g := (fun _ => 0)) (updL_c _ _) dX12_rows_104 (ws2 := [(q9, .inl (G.2.2.1, 3000, .inr (.inl (vp_updL (vp_updL (vp_updL (fun _ => 0) 0 1) 0 0) 0 0)))), (q10, .inl (G.2.2.1, 3000, .inr (.inl (fun _ => 0)))), (q1, .inl (G.2.1, 4096, .inl (upd (fun _ => (-1)) 0 0))), (q2, .inl (G.2.1, 57, .inl (fun _ => 0))), (q3, .inl (G.2.1, 8, .inl (fun _ => 0))), (q4, .inl (G.2.1, 24008, .inl (fun _ => 0))), (q5, .inl (G.2.1, 3000, .inl (upd (fun _ => 0) 0 (-1)))), (q6, .inl (G.2.1, 3000, .inl (upd (fun _ => 0) 0 (-1)))), (q7, .inl (G.2.1, 3000, .inl (upd (fun _ => 0) 0 (-1)))), (q0, .inr (12, [.int 0, .int 0, .int 0, .int 0, .int 0, .int 0, .int 0, .int (-1), .ref q11, .ref q8, .ref q12, .int 0, .ref q13, .ref q14, .ref q15, .ref q16, .ref q17, .ref q2, .ref q18, .int 0, .ref q3, .ref q4, .ref q19, .ref q6, .ref q7, .ref q1, .ref q5, .int 1, .int (-1), .int 0, .ref q20, .ref q21, .ref q22, .ref q23, .ref q24, .ref q25, .ref q26, .ref q27, .int 0, .ref q28, .ref q9, .ref q10, .ref q29, .ref q30, .int 0, .ref q31, .ref q32, .ref q33, .ref q34, .int 0, .ref q35, .ref q36, .ref q37, .ref q38, .int 0, .int 0, .ref q39, .ref q40, .ref q41, .ref q42])), (q8, .inl (G.2.1, 242, .inl (fun _ => 0)))]) rfl (fun H locs w => ?_)
  refine lv_iinc (v := 1) (lv' := [(4, .int 1), (3, .int 2), (5, .int 0), (0, .ref q0), (1, .int x0), (2, .int x1)]) hx hb dX12_rows_105 hl (k := 0) rfl (by decide +kernel) (by decide) rfl (fun ls hl => ?_)
  refine lv_goto (tgt := 88) hx hb dX12_rows_108 (by decide) ?_
  refine lv_iload hx hb dX12_rows_88 (lv_at hl 0 rfl) ?_
  refine lv_aload_n hx hb dX12_rows_90 rfl (lv_at hl 3 rfl) ?_
  refine r_get C w 9 rfl fr_X12_322 rfl dX12_rows_91 ?_
  refine lv_icmp_ge (tgt := 111) hx hb dX12_rows_94 (by decide) (fun _ => ?_) (fun h => absurd (by decide) h)
  refine lv_iconst (v := 0) hx hb dX12_rows_111 (by decide) ?_
  refine lv_istore (lv' := [(4, .int 0), (3, .int 2), (5, .int 0), (0, .ref q0), (1, .int x0), (2, .int x1)]) hx hb dX12_rows_112 hl (by decide) rfl (fun ls hl => ?_)
  refine lv_iload hx hb dX12_rows_114 (lv_at hl 0 rfl) ?_
  refine lv_aload_n hx hb dX12_rows_116 rfl (lv_at hl 3 rfl) ?_
  refine r_get C w 9 rfl fr_X12_322 rfl dX12_rows_117 ?_
  refine lv_icmp_ge (tgt := 192) hx hb dX12_rows_120 (by decide) (fun h => absurd h (by decide)) (fun _ => ?_)
  refine lv_iconst (v := 0) hx hb dX12_rows_123 (by decide) ?_
  refine lv_istore (lv' := [(5, .int 0), (4, .int 0), (3, .int 2), (0, .ref q0), (1, .int x0), (2, .int x1)]) hx hb dX12_rows_124 hl (by decide) rfl (fun ls hl => ?_)
  refine lv_iload hx hb dX12_rows_126 (lv_at hl 0 rfl) ?_
  refine lv_aload_n hx hb dX12_rows_128 rfl (lv_at hl 3 rfl) ?_
  refine fin_i C w (run_V C w mv_X12_286 (k123_acts C.b0 q0 q8 q11 q12 q13 q14 q15 q16 q17 q2 q18 q3 q4 q19 q6 q7 q1 q5 q20 q21 q22 q23 q24 q25 q26 q27 q28 q9 q10 q29 q30 q31 q32 q33 q34 q35 q36 q37 q38 q39 q40 q41 q42 H.size) [9, 10] rfl rfl 9 rfl rfl (by decide) rfl hl.1 rfl (Nat.le_of_ble_eq_true rfl) dX12_rows_129 (cells2 := 0) (slots2 := 0) (by decide)) [9, 10] [0, 1, 2, 3, 4, 5, 6, 7, 8] rfl rfl (by decide) (cells2 := 0) (slots2 := 0) (by decide) (fun u7 H locs w => ?_)
  have w : Wd s G A [(q9, .inl (G.2.2.1, 3000, .inr (.inl (vp_updL (vp_updL (vp_updL (fun _ => 0) 0 1) 0 0) 0 0)))), (q10, .inl (G.2.2.1, 3000, .inr (.inl (fun _ => 0)))), (q1, .inl (G.2.1, 4096, .inl (upd (fun _ => (-1)) 0 0))), (q2, .inl (G.2.1, 57, .inl (fun _ => 0))), (q3, .inl (G.2.1, 8, .inl (fun _ => 0))), (q4, .inl (G.2.1, 24008, .inl (fun _ => 0))), (q5, .inl (G.2.1, 3000, .inl (upd (fun _ => 0) 0 (-1)))), (q6, .inl (G.2.1, 3000, .inl (upd (fun _ => 0) 0 (-1)))), (q7, .inl (G.2.1, 3000, .inl (upd (fun _ => 0) 0 (-1)))), (q0, .inr (12, [.int 0, .int 0, .int 0, .int 0, .int 0, .int 0, .int 0, .int (-1), .ref q11, .ref q8, .ref q12, .int 0, .ref q13, .ref q14, .ref q15, .ref q16, .ref q17, .ref q2, .ref q18, .int 0, .ref q3, .ref q4, .ref q19, .ref q6, .ref q7, .ref q1, .ref q5, .int 1, .int (-1), .int 0, .ref q20, .ref q21, .ref q22, .ref q23, .ref q24, .ref q25, .ref q26, .ref q27, .int 0, .ref q28, .ref q9, .ref q10, .ref q29, .ref q30, .int 0, .ref q31, .ref q32, .ref q33, .ref q34, .int 0, .ref q35, .ref q36, .ref q37, .ref q38, .int 0, .int 0, .ref q39, .ref q40, .ref q41, .ref q42])), (q8, .inl (G.2.1, 242, .inl (fun _ => 0)))] H locs := w
  refine lv_icmp_ge (tgt := 186) hx hb dX12_rows_132 (by decide) (fun _ => ?_) (fun h => absurd (by decide) h)
  refine lv_iinc (v := 1) (lv' := [(4, .int 1), (5, .int 0), (3, .int 2), (0, .ref q0), (1, .int x0), (2, .int x1)]) hx hb dX12_rows_186 hl (k := 1) rfl (by decide +kernel) (by decide) rfl (fun ls hl => ?_)
  refine lv_goto (tgt := 114) hx hb dX12_rows_189 (by decide) ?_
  refine lv_iload hx hb dX12_rows_114 (lv_at hl 0 rfl) ?_
  refine lv_aload_n hx hb dX12_rows_116 rfl (lv_at hl 3 rfl) ?_
  refine r_get C w 9 rfl fr_X12_322 rfl dX12_rows_117 ?_
  refine lv_icmp_ge (tgt := 192) hx hb dX12_rows_120 (by decide) (fun _ => ?_) (fun h => absurd (by decide) h)
  refine lv_iconst (v := 0) hx hb dX12_rows_192 (by decide) ?_
  refine lv_istore (lv' := [(4, .int 0), (5, .int 0), (3, .int 2), (0, .ref q0), (1, .int x0), (2, .int x1)]) hx hb dX12_rows_193 hl (by decide) rfl (fun ls hl => ?_)
  refine lv_iload hx hb dX12_rows_195 (lv_at hl 0 rfl) ?_
  refine lv_aload_n hx hb dX12_rows_197 rfl (lv_at hl 3 rfl) ?_
  refine r_get C w 9 rfl fr_X12_322 rfl dX12_rows_198 ?_
  refine lv_icmp_ge (tgt := 224) hx hb dX12_rows_201 (by decide) (fun h => absurd h (by decide)) (fun _ => ?_)
  refine lv_aload_n hx hb dX12_rows_204 rfl (lv_at hl 3 rfl) ?_
  refine r_get C w 9 rfl fr_X12_99 rfl dX12_rows_205 ?_
  refine lv_iload hx hb dX12_rows_208 (lv_at hl 0 rfl) ?_
  refine lv_aload_n hx hb dX12_rows_210 rfl (lv_at hl 3 rfl) ?_
  refine r_get C w 9 rfl fr_X12_103 rfl dX12_rows_211 ?_
  refine lv_iload hx hb dX12_rows_214 (lv_at hl 0 rfl) ?_
  refine r_lald C w 1 rfl (IX.of (k := 0) (by decide +kernel)) (v := 0) rfl dX12_rows_216 ?_
  refine r_last C w 0 rfl (IX.of (k := 0) (by decide +kernel)) (g := (vp_updL (vp_updL (vp_updL (vp_updL (fun _ => 0) 0 1) 0 0) 0 0) 0 0)) rfl dX12_rows_217 (ws2 := [(q9, .inl (G.2.2.1, 3000, .inr (.inl (vp_updL (vp_updL (vp_updL (vp_updL (fun _ => 0) 0 1) 0 0) 0 0) 0 0)))), (q10, .inl (G.2.2.1, 3000, .inr (.inl (fun _ => 0)))), (q1, .inl (G.2.1, 4096, .inl (upd (fun _ => (-1)) 0 0))), (q2, .inl (G.2.1, 57, .inl (fun _ => 0))), (q3, .inl (G.2.1, 8, .inl (fun _ => 0))), (q4, .inl (G.2.1, 24008, .inl (fun _ => 0))), (q5, .inl (G.2.1, 3000, .inl (upd (fun _ => 0) 0 (-1)))), (q6, .inl (G.2.1, 3000, .inl (upd (fun _ => 0) 0 (-1)))), (q7, .inl (G.2.1, 3000, .inl (upd (fun _ => 0) 0 (-1)))), (q0, .inr (12, [.int 0, .int 0, .int 0, .int 0, .int 0, .int 0, .int 0, .int (-1), .ref q11, .ref q8, .ref q12, .int 0, .ref q13, .ref q14, .ref q15, .ref q16, .ref q17, .ref q2, .ref q18, .int 0, .ref q3, .ref q4, .ref q19, .ref q6, .ref q7, .ref q1, .ref q5, .int 1, .int (-1), .int 0, .ref q20, .ref q21, .ref q22, .ref q23, .ref q24, .ref q25, .ref q26, .ref q27, .int 0, .ref q28, .ref q9, .ref q10, .ref q29, .ref q30, .int 0, .ref q31, .ref q32, .ref q33, .ref q34, .int 0, .ref q35, .ref q36, .ref q37, .ref q38, .int 0, .int 0, .ref q39, .ref q40, .ref q41, .ref q42])), (q8, .inl (G.2.1, 242, .inl (fun _ => 0)))]) rfl (fun H locs w => ?_)
  refine lv_iinc (v := 1) (lv' := [(4, .int 1), (5, .int 0), (3, .int 2), (0, .ref q0), (1, .int x0), (2, .int x1)]) hx hb dX12_rows_218 hl (k := 0) rfl (by decide +kernel) (by decide) rfl (fun ls hl => ?_)
  refine lv_goto (tgt := 195) hx hb dX12_rows_221 (by decide) ?_
  refine lv_iload hx hb dX12_rows_195 (lv_at hl 0 rfl) ?_
  refine lv_aload_n hx hb dX12_rows_197 rfl (lv_at hl 3 rfl) ?_
  refine r_get C w 9 rfl fr_X12_322 rfl dX12_rows_198 ?_
  refine lv_icmp_ge (tgt := 224) hx hb dX12_rows_201 (by decide) (fun _ => ?_) (fun h => absurd (by decide) h)
  refine lv_iinc (v := 3) (lv' := [(3, .int 3), (4, .int 1), (5, .int 0), (0, .ref q0), (1, .int x0), (2, .int x1)]) hx hb dX12_rows_224 hl (k := 2) rfl (by decide +kernel) (by decide) rfl (fun ls hl => ?_)
  refine lv_goto (tgt := 80) hx hb dX12_rows_227 (by decide) ?_
  refine lv_iload_n hx hb dX12_rows_80 rfl (lv_at hl 0 rfl) ?_
  refine lv_iload_n hx hb dX12_rows_81 rfl (lv_at hl 5 rfl) ?_
  refine lv_icmp_ge (tgt := 230) hx hb dX12_rows_82 (by decide) (fun h => absurd h (Int32.not_le.mpr h5)) (fun _ => ?_)
  refine lv_iconst (v := 0) hx hb dX12_rows_85 (by decide) ?_
  refine lv_istore (lv' := [(4, .int 0), (3, .int 3), (5, .int 0), (0, .ref q0), (1, .int x0), (2, .int x1)]) hx hb dX12_rows_86 hl (by decide) rfl (fun ls hl => ?_)
  refine lv_iload hx hb dX12_rows_88 (lv_at hl 0 rfl) ?_
  refine lv_aload_n hx hb dX12_rows_90 rfl (lv_at hl 3 rfl) ?_
  refine r_get C w 9 rfl fr_X12_322 rfl dX12_rows_91 ?_
  refine lv_icmp_ge (tgt := 111) hx hb dX12_rows_94 (by decide) (fun h => absurd h (by decide)) (fun _ => ?_)
  refine lv_aload_n hx hb dX12_rows_97 rfl (lv_at hl 3 rfl) ?_
  refine r_get C w 9 rfl fr_X12_103 rfl dX12_rows_98 ?_
  refine lv_iload hx hb dX12_rows_101 (lv_at hl 0 rfl) ?_
  refine lv_lconst (v := 0) hx hb dX12_rows_103 (by decide) ?_
  refine r_last C w 1 rfl (IX.of (k := 0) (by decide +kernel)) (g := (fun _ => 0)) (updL_c _ _) dX12_rows_104 (ws2 := [(q9, .inl (G.2.2.1, 3000, .inr (.inl (vp_updL (vp_updL (vp_updL (vp_updL (fun _ => 0) 0 1) 0 0) 0 0) 0 0)))), (q10, .inl (G.2.2.1, 3000, .inr (.inl (fun _ => 0)))), (q1, .inl (G.2.1, 4096, .inl (upd (fun _ => (-1)) 0 0))), (q2, .inl (G.2.1, 57, .inl (fun _ => 0))), (q3, .inl (G.2.1, 8, .inl (fun _ => 0))), (q4, .inl (G.2.1, 24008, .inl (fun _ => 0))), (q5, .inl (G.2.1, 3000, .inl (upd (fun _ => 0) 0 (-1)))), (q6, .inl (G.2.1, 3000, .inl (upd (fun _ => 0) 0 (-1)))), (q7, .inl (G.2.1, 3000, .inl (upd (fun _ => 0) 0 (-1)))), (q0, .inr (12, [.int 0, .int 0, .int 0, .int 0, .int 0, .int 0, .int 0, .int (-1), .ref q11, .ref q8, .ref q12, .int 0, .ref q13, .ref q14, .ref q15, .ref q16, .ref q17, .ref q2, .ref q18, .int 0, .ref q3, .ref q4, .ref q19, .ref q6, .ref q7, .ref q1, .ref q5, .int 1, .int (-1), .int 0, .ref q20, .ref q21, .ref q22, .ref q23, .ref q24, .ref q25, .ref q26, .ref q27, .int 0, .ref q28, .ref q9, .ref q10, .ref q29, .ref q30, .int 0, .ref q31, .ref q32, .ref q33, .ref q34, .int 0, .ref q35, .ref q36, .ref q37, .ref q38, .int 0, .int 0, .ref q39, .ref q40, .ref q41, .ref q42])), (q8, .inl (G.2.1, 242, .inl (fun _ => 0)))]) rfl (fun H locs w => ?_)
  refine lv_iinc (v := 1) (lv' := [(4, .int 1), (3, .int 3), (5, .int 0), (0, .ref q0), (1, .int x0), (2, .int x1)]) hx hb dX12_rows_105 hl (k := 0) rfl (by decide +kernel) (by decide) rfl (fun ls hl => ?_)
  refine lv_goto (tgt := 88) hx hb dX12_rows_108 (by decide) ?_
  refine lv_iload hx hb dX12_rows_88 (lv_at hl 0 rfl) ?_
  refine lv_aload_n hx hb dX12_rows_90 rfl (lv_at hl 3 rfl) ?_
  refine r_get C w 9 rfl fr_X12_322 rfl dX12_rows_91 ?_
  refine lv_icmp_ge (tgt := 111) hx hb dX12_rows_94 (by decide) (fun _ => ?_) (fun h => absurd (by decide) h)
  refine lv_iconst (v := 0) hx hb dX12_rows_111 (by decide) ?_
  refine lv_istore (lv' := [(4, .int 0), (3, .int 3), (5, .int 0), (0, .ref q0), (1, .int x0), (2, .int x1)]) hx hb dX12_rows_112 hl (by decide) rfl (fun ls hl => ?_)
  refine lv_iload hx hb dX12_rows_114 (lv_at hl 0 rfl) ?_
  refine lv_aload_n hx hb dX12_rows_116 rfl (lv_at hl 3 rfl) ?_
  refine r_get C w 9 rfl fr_X12_322 rfl dX12_rows_117 ?_
  refine lv_icmp_ge (tgt := 192) hx hb dX12_rows_120 (by decide) (fun h => absurd h (by decide)) (fun _ => ?_)
  refine lv_iconst (v := 0) hx hb dX12_rows_123 (by decide) ?_
  refine lv_istore (lv' := [(5, .int 0), (4, .int 0), (3, .int 3), (0, .ref q0), (1, .int x0), (2, .int x1)]) hx hb dX12_rows_124 hl (by decide) rfl (fun ls hl => ?_)
  refine lv_iload hx hb dX12_rows_126 (lv_at hl 0 rfl) ?_
  refine lv_aload_n hx hb dX12_rows_128 rfl (lv_at hl 3 rfl) ?_
  refine fin_i C w (run_V C w mv_X12_286 (k123_acts C.b0 q0 q8 q11 q12 q13 q14 q15 q16 q17 q2 q18 q3 q4 q19 q6 q7 q1 q5 q20 q21 q22 q23 q24 q25 q26 q27 q28 q9 q10 q29 q30 q31 q32 q33 q34 q35 q36 q37 q38 q39 q40 q41 q42 H.size) [9, 10] rfl rfl 9 rfl rfl (by decide) rfl hl.1 rfl (Nat.le_of_ble_eq_true rfl) dX12_rows_129 (cells2 := 0) (slots2 := 0) (by decide)) [9, 10] [0, 1, 2, 3, 4, 5, 6, 7, 8] rfl rfl (by decide) (cells2 := 0) (slots2 := 0) (by decide) (fun u8 H locs w => ?_)
  have w : Wd s G A [(q9, .inl (G.2.2.1, 3000, .inr (.inl (vp_updL (vp_updL (vp_updL (vp_updL (fun _ => 0) 0 1) 0 0) 0 0) 0 0)))), (q10, .inl (G.2.2.1, 3000, .inr (.inl (fun _ => 0)))), (q1, .inl (G.2.1, 4096, .inl (upd (fun _ => (-1)) 0 0))), (q2, .inl (G.2.1, 57, .inl (fun _ => 0))), (q3, .inl (G.2.1, 8, .inl (fun _ => 0))), (q4, .inl (G.2.1, 24008, .inl (fun _ => 0))), (q5, .inl (G.2.1, 3000, .inl (upd (fun _ => 0) 0 (-1)))), (q6, .inl (G.2.1, 3000, .inl (upd (fun _ => 0) 0 (-1)))), (q7, .inl (G.2.1, 3000, .inl (upd (fun _ => 0) 0 (-1)))), (q0, .inr (12, [.int 0, .int 0, .int 0, .int 0, .int 0, .int 0, .int 0, .int (-1), .ref q11, .ref q8, .ref q12, .int 0, .ref q13, .ref q14, .ref q15, .ref q16, .ref q17, .ref q2, .ref q18, .int 0, .ref q3, .ref q4, .ref q19, .ref q6, .ref q7, .ref q1, .ref q5, .int 1, .int (-1), .int 0, .ref q20, .ref q21, .ref q22, .ref q23, .ref q24, .ref q25, .ref q26, .ref q27, .int 0, .ref q28, .ref q9, .ref q10, .ref q29, .ref q30, .int 0, .ref q31, .ref q32, .ref q33, .ref q34, .int 0, .ref q35, .ref q36, .ref q37, .ref q38, .int 0, .int 0, .ref q39, .ref q40, .ref q41, .ref q42])), (q8, .inl (G.2.1, 242, .inl (fun _ => 0)))] H locs := w
  refine lv_icmp_ge (tgt := 186) hx hb dX12_rows_132 (by decide) (fun _ => ?_) (fun h => absurd (by decide) h)
  refine lv_iinc (v := 1) (lv' := [(4, .int 1), (5, .int 0), (3, .int 3), (0, .ref q0), (1, .int x0), (2, .int x1)]) hx hb dX12_rows_186 hl (k := 1) rfl (by decide +kernel) (by decide) rfl (fun ls hl => ?_)
  refine lv_goto (tgt := 114) hx hb dX12_rows_189 (by decide) ?_
  refine lv_iload hx hb dX12_rows_114 (lv_at hl 0 rfl) ?_
  refine lv_aload_n hx hb dX12_rows_116 rfl (lv_at hl 3 rfl) ?_
  refine r_get C w 9 rfl fr_X12_322 rfl dX12_rows_117 ?_
  refine lv_icmp_ge (tgt := 192) hx hb dX12_rows_120 (by decide) (fun _ => ?_) (fun h => absurd (by decide) h)
  refine lv_iconst (v := 0) hx hb dX12_rows_192 (by decide) ?_
  refine lv_istore (lv' := [(4, .int 0), (5, .int 0), (3, .int 3), (0, .ref q0), (1, .int x0), (2, .int x1)]) hx hb dX12_rows_193 hl (by decide) rfl (fun ls hl => ?_)
  refine lv_iload hx hb dX12_rows_195 (lv_at hl 0 rfl) ?_
  refine lv_aload_n hx hb dX12_rows_197 rfl (lv_at hl 3 rfl) ?_
  refine r_get C w 9 rfl fr_X12_322 rfl dX12_rows_198 ?_
  refine lv_icmp_ge (tgt := 224) hx hb dX12_rows_201 (by decide) (fun h => absurd h (by decide)) (fun _ => ?_)
  refine lv_aload_n hx hb dX12_rows_204 rfl (lv_at hl 3 rfl) ?_
  refine r_get C w 9 rfl fr_X12_99 rfl dX12_rows_205 ?_
  refine lv_iload hx hb dX12_rows_208 (lv_at hl 0 rfl) ?_
  refine lv_aload_n hx hb dX12_rows_210 rfl (lv_at hl 3 rfl) ?_
  refine r_get C w 9 rfl fr_X12_103 rfl dX12_rows_211 ?_
  refine lv_iload hx hb dX12_rows_214 (lv_at hl 0 rfl) ?_
  refine r_lald C w 1 rfl (IX.of (k := 0) (by decide +kernel)) (v := 0) rfl dX12_rows_216 ?_
  refine r_last C w 0 rfl (IX.of (k := 0) (by decide +kernel)) (g := (vp_updL (vp_updL (vp_updL (vp_updL (vp_updL (fun _ => 0) 0 1) 0 0) 0 0) 0 0) 0 0)) rfl dX12_rows_217 (ws2 := [(q9, .inl (G.2.2.1, 3000, .inr (.inl (vp_updL (vp_updL (vp_updL (vp_updL (vp_updL (fun _ => 0) 0 1) 0 0) 0 0) 0 0) 0 0)))), (q10, .inl (G.2.2.1, 3000, .inr (.inl (fun _ => 0)))), (q1, .inl (G.2.1, 4096, .inl (upd (fun _ => (-1)) 0 0))), (q2, .inl (G.2.1, 57, .inl (fun _ => 0))), (q3, .inl (G.2.1, 8, .inl (fun _ => 0))), (q4, .inl (G.2.1, 24008, .inl (fun _ => 0))), (q5, .inl (G.2.1, 3000, .inl (upd (fun _ => 0) 0 (-1)))), (q6, .inl (G.2.1, 3000, .inl (upd (fun _ => 0) 0 (-1)))), (q7, .inl (G.2.1, 3000, .inl (upd (fun _ => 0) 0 (-1)))), (q0, .inr (12, [.int 0, .int 0, .int 0, .int 0, .int 0, .int 0, .int 0, .int (-1), .ref q11, .ref q8, .ref q12, .int 0, .ref q13, .ref q14, .ref q15, .ref q16, .ref q17, .ref q2, .ref q18, .int 0, .ref q3, .ref q4, .ref q19, .ref q6, .ref q7, .ref q1, .ref q5, .int 1, .int (-1), .int 0, .ref q20, .ref q21, .ref q22, .ref q23, .ref q24, .ref q25, .ref q26, .ref q27, .int 0, .ref q28, .ref q9, .ref q10, .ref q29, .ref q30, .int 0, .ref q31, .ref q32, .ref q33, .ref q34, .int 0, .ref q35, .ref q36, .ref q37, .ref q38, .int 0, .int 0, .ref q39, .ref q40, .ref q41, .ref q42])), (q8, .inl (G.2.1, 242, .inl (fun _ => 0)))]) rfl (fun H locs w => ?_)
  refine lv_iinc (v := 1) (lv' := [(4, .int 1), (5, .int 0), (3, .int 3), (0, .ref q0), (1, .int x0), (2, .int x1)]) hx hb dX12_rows_218 hl (k := 0) rfl (by decide +kernel) (by decide) rfl (fun ls hl => ?_)
  refine lv_goto (tgt := 195) hx hb dX12_rows_221 (by decide) ?_
  refine lv_iload hx hb dX12_rows_195 (lv_at hl 0 rfl) ?_
  refine lv_aload_n hx hb dX12_rows_197 rfl (lv_at hl 3 rfl) ?_
  refine r_get C w 9 rfl fr_X12_322 rfl dX12_rows_198 ?_
  refine lv_icmp_ge (tgt := 224) hx hb dX12_rows_201 (by decide) (fun _ => ?_) (fun h => absurd (by decide) h)
  refine lv_iinc (v := 4) (lv' := [(3, .int 4), (4, .int 1), (5, .int 0), (0, .ref q0), (1, .int x0), (2, .int x1)]) hx hb dX12_rows_224 hl (k := 2) rfl (by decide +kernel) (by decide) rfl (fun ls hl => ?_)
  refine lv_goto (tgt := 80) hx hb dX12_rows_227 (by decide) ?_
  refine lv_iload_n hx hb dX12_rows_80 rfl (lv_at hl 0 rfl) ?_
  refine lv_iload_n hx hb dX12_rows_81 rfl (lv_at hl 5 rfl) ?_
  refine lv_icmp_ge (tgt := 230) hx hb dX12_rows_82 (by decide) (fun h => absurd h (Int32.not_le.mpr h7)) (fun _ => ?_)
  refine lv_iconst (v := 0) hx hb dX12_rows_85 (by decide) ?_
  refine lv_istore (lv' := [(4, .int 0), (3, .int 4), (5, .int 0), (0, .ref q0), (1, .int x0), (2, .int x1)]) hx hb dX12_rows_86 hl (by decide) rfl (fun ls hl => ?_)
  refine lv_iload hx hb dX12_rows_88 (lv_at hl 0 rfl) ?_
  refine lv_aload_n hx hb dX12_rows_90 rfl (lv_at hl 3 rfl) ?_
  refine r_get C w 9 rfl fr_X12_322 rfl dX12_rows_91 ?_
  refine lv_icmp_ge (tgt := 111) hx hb dX12_rows_94 (by decide) (fun h => absurd h (by decide)) (fun _ => ?_)
  refine lv_aload_n hx hb dX12_rows_97 rfl (lv_at hl 3 rfl) ?_
  refine r_get C w 9 rfl fr_X12_103 rfl dX12_rows_98 ?_
  refine lv_iload hx hb dX12_rows_101 (lv_at hl 0 rfl) ?_
  refine lv_lconst (v := 0) hx hb dX12_rows_103 (by decide) ?_
  refine r_last C w 1 rfl (IX.of (k := 0) (by decide +kernel)) (g := (fun _ => 0)) (updL_c _ _) dX12_rows_104 (ws2 := [(q9, .inl (G.2.2.1, 3000, .inr (.inl (vp_updL (vp_updL (vp_updL (vp_updL (vp_updL (fun _ => 0) 0 1) 0 0) 0 0) 0 0) 0 0)))), (q10, .inl (G.2.2.1, 3000, .inr (.inl (fun _ => 0)))), (q1, .inl (G.2.1, 4096, .inl (upd (fun _ => (-1)) 0 0))), (q2, .inl (G.2.1, 57, .inl (fun _ => 0))), (q3, .inl (G.2.1, 8, .inl (fun _ => 0))), (q4, .inl (G.2.1, 24008, .inl (fun _ => 0))), (q5, .inl (G.2.1, 3000, .inl (upd (fun _ => 0) 0 (-1)))), (q6, .inl (G.2.1, 3000, .inl (upd (fun _ => 0) 0 (-1)))), (q7, .inl (G.2.1, 3000, .inl (upd (fun _ => 0) 0 (-1)))), (q0, .inr (12, [.int 0, .int 0, .int 0, .int 0, .int 0, .int 0, .int 0, .int (-1), .ref q11, .ref q8, .ref q12, .int 0, .ref q13, .ref q14, .ref q15, .ref q16, .ref q17, .ref q2, .ref q18, .int 0, .ref q3, .ref q4, .ref q19, .ref q6, .ref q7, .ref q1, .ref q5, .int 1, .int (-1), .int 0, .ref q20, .ref q21, .ref q22, .ref q23, .ref q24, .ref q25, .ref q26, .ref q27, .int 0, .ref q28, .ref q9, .ref q10, .ref q29, .ref q30, .int 0, .ref q31, .ref q32, .ref q33, .ref q34, .int 0, .ref q35, .ref q36, .ref q37, .ref q38, .int 0, .int 0, .ref q39, .ref q40, .ref q41, .ref q42])), (q8, .inl (G.2.1, 242, .inl (fun _ => 0)))]) rfl (fun H locs w => ?_)
  refine lv_iinc (v := 1) (lv' := [(4, .int 1), (3, .int 4), (5, .int 0), (0, .ref q0), (1, .int x0), (2, .int x1)]) hx hb dX12_rows_105 hl (k := 0) rfl (by decide +kernel) (by decide) rfl (fun ls hl => ?_)
  refine lv_goto (tgt := 88) hx hb dX12_rows_108 (by decide) ?_
  refine lv_iload hx hb dX12_rows_88 (lv_at hl 0 rfl) ?_
  refine lv_aload_n hx hb dX12_rows_90 rfl (lv_at hl 3 rfl) ?_
  refine r_get C w 9 rfl fr_X12_322 rfl dX12_rows_91 ?_
  refine lv_icmp_ge (tgt := 111) hx hb dX12_rows_94 (by decide) (fun _ => ?_) (fun h => absurd (by decide) h)
  refine lv_iconst (v := 0) hx hb dX12_rows_111 (by decide) ?_
  refine lv_istore (lv' := [(4, .int 0), (3, .int 4), (5, .int 0), (0, .ref q0), (1, .int x0), (2, .int x1)]) hx hb dX12_rows_112 hl (by decide) rfl (fun ls hl => ?_)
  refine lv_iload hx hb dX12_rows_114 (lv_at hl 0 rfl) ?_
  refine lv_aload_n hx hb dX12_rows_116 rfl (lv_at hl 3 rfl) ?_
  refine r_get C w 9 rfl fr_X12_322 rfl dX12_rows_117 ?_
  refine lv_icmp_ge (tgt := 192) hx hb dX12_rows_120 (by decide) (fun h => absurd h (by decide)) (fun _ => ?_)
  refine lv_iconst (v := 0) hx hb dX12_rows_123 (by decide) ?_
  refine lv_istore (lv' := [(5, .int 0), (4, .int 0), (3, .int 4), (0, .ref q0), (1, .int x0), (2, .int x1)]) hx hb dX12_rows_124 hl (by decide) rfl (fun ls hl => ?_)
  refine lv_iload hx hb dX12_rows_126 (lv_at hl 0 rfl) ?_
  refine lv_aload_n hx hb dX12_rows_128 rfl (lv_at hl 3 rfl) ?_
  refine fin_i C w (run_V C w mv_X12_286 (k123_acts C.b0 q0 q8 q11 q12 q13 q14 q15 q16 q17 q2 q18 q3 q4 q19 q6 q7 q1 q5 q20 q21 q22 q23 q24 q25 q26 q27 q28 q9 q10 q29 q30 q31 q32 q33 q34 q35 q36 q37 q38 q39 q40 q41 q42 H.size) [9, 10] rfl rfl 9 rfl rfl (by decide) rfl hl.1 rfl (Nat.le_of_ble_eq_true rfl) dX12_rows_129 (cells2 := 0) (slots2 := 0) (by decide)) [9, 10] [0, 1, 2, 3, 4, 5, 6, 7, 8] rfl rfl (by decide) (cells2 := 0) (slots2 := 0) (by decide) (fun u9 H locs w => ?_)
  have w : Wd s G A [(q9, .inl (G.2.2.1, 3000, .inr (.inl (vp_updL (vp_updL (vp_updL (vp_updL (vp_updL (fun _ => 0) 0 1) 0 0) 0 0) 0 0) 0 0)))), (q10, .inl (G.2.2.1, 3000, .inr (.inl (fun _ => 0)))), (q1, .inl (G.2.1, 4096, .inl (upd (fun _ => (-1)) 0 0))), (q2, .inl (G.2.1, 57, .inl (fun _ => 0))), (q3, .inl (G.2.1, 8, .inl (fun _ => 0))), (q4, .inl (G.2.1, 24008, .inl (fun _ => 0))), (q5, .inl (G.2.1, 3000, .inl (upd (fun _ => 0) 0 (-1)))), (q6, .inl (G.2.1, 3000, .inl (upd (fun _ => 0) 0 (-1)))), (q7, .inl (G.2.1, 3000, .inl (upd (fun _ => 0) 0 (-1)))), (q0, .inr (12, [.int 0, .int 0, .int 0, .int 0, .int 0, .int 0, .int 0, .int (-1), .ref q11, .ref q8, .ref q12, .int 0, .ref q13, .ref q14, .ref q15, .ref q16, .ref q17, .ref q2, .ref q18, .int 0, .ref q3, .ref q4, .ref q19, .ref q6, .ref q7, .ref q1, .ref q5, .int 1, .int (-1), .int 0, .ref q20, .ref q21, .ref q22, .ref q23, .ref q24, .ref q25, .ref q26, .ref q27, .int 0, .ref q28, .ref q9, .ref q10, .ref q29, .ref q30, .int 0, .ref q31, .ref q32, .ref q33, .ref q34, .int 0, .ref q35, .ref q36, .ref q37, .ref q38, .int 0, .int 0, .ref q39, .ref q40, .ref q41, .ref q42])), (q8, .inl (G.2.1, 242, .inl (fun _ => 0)))] H locs := w
  refine lv_icmp_ge (tgt := 186) hx hb dX12_rows_132 (by decide) (fun _ => ?_) (fun h => absurd (by decide) h)
  refine lv_iinc (v := 1) (lv' := [(4, .int 1), (5, .int 0), (3, .int 4), (0, .ref q0), (1, .int x0), (2, .int x1)]) hx hb dX12_rows_186 hl (k := 1) rfl (by decide +kernel) (by decide) rfl (fun ls hl => ?_)
  refine lv_goto (tgt := 114) hx hb dX12_rows_189 (by decide) ?_
  refine lv_iload hx hb dX12_rows_114 (lv_at hl 0 rfl) ?_
  refine lv_aload_n hx hb dX12_rows_116 rfl (lv_at hl 3 rfl) ?_
  refine r_get C w 9 rfl fr_X12_322 rfl dX12_rows_117 ?_
  refine lv_icmp_ge (tgt := 192) hx hb dX12_rows_120 (by decide) (fun _ => ?_) (fun h => absurd (by decide) h)
  refine lv_iconst (v := 0) hx hb dX12_rows_192 (by decide) ?_
  refine lv_istore (lv' := [(4, .int 0), (5, .int 0), (3, .int 4), (0, .ref q0), (1, .int x0), (2, .int x1)]) hx hb dX12_rows_193 hl (by decide) rfl (fun ls hl => ?_)
  refine lv_iload hx hb dX12_rows_195 (lv_at hl 0 rfl) ?_
  refine lv_aload_n hx hb dX12_rows_197 rfl (lv_at hl 3 rfl) ?_
  refine r_get C w 9 rfl fr_X12_322 rfl dX12_rows_198 ?_
  refine lv_icmp_ge (tgt := 224) hx hb dX12_rows_201 (by decide) (fun h => absurd h (by decide)) (fun _ => ?_)
  refine lv_aload_n hx hb dX12_rows_204 rfl (lv_at hl 3 rfl) ?_
  refine r_get C w 9 rfl fr_X12_99 rfl dX12_rows_205 ?_
  refine lv_iload hx hb dX12_rows_208 (lv_at hl 0 rfl) ?_
  refine lv_aload_n hx hb dX12_rows_210 rfl (lv_at hl 3 rfl) ?_
  refine r_get C w 9 rfl fr_X12_103 rfl dX12_rows_211 ?_
  refine lv_iload hx hb dX12_rows_214 (lv_at hl 0 rfl) ?_
  refine r_lald C w 1 rfl (IX.of (k := 0) (by decide +kernel)) (v := 0) rfl dX12_rows_216 ?_
  refine r_last C w 0 rfl (IX.of (k := 0) (by decide +kernel)) (g := (vp_updL (vp_updL (vp_updL (vp_updL (vp_updL (vp_updL (fun _ => 0) 0 1) 0 0) 0 0) 0 0) 0 0) 0 0)) rfl dX12_rows_217 (ws2 := [(q9, .inl (G.2.2.1, 3000, .inr (.inl (vp_updL (vp_updL (vp_updL (vp_updL (vp_updL (vp_updL (fun _ => 0) 0 1) 0 0) 0 0) 0 0) 0 0) 0 0)))), (q10, .inl (G.2.2.1, 3000, .inr (.inl (fun _ => 0)))), (q1, .inl (G.2.1, 4096, .inl (upd (fun _ => (-1)) 0 0))), (q2, .inl (G.2.1, 57, .inl (fun _ => 0))), (q3, .inl (G.2.1, 8, .inl (fun _ => 0))), (q4, .inl (G.2.1, 24008, .inl (fun _ => 0))), (q5, .inl (G.2.1, 3000, .inl (upd (fun _ => 0) 0 (-1)))), (q6, .inl (G.2.1, 3000, .inl (upd (fun _ => 0) 0 (-1)))), (q7, .inl (G.2.1, 3000, .inl (upd (fun _ => 0) 0 (-1)))), (q0, .inr (12, [.int 0, .int 0, .int 0, .int 0, .int 0, .int 0, .int 0, .int (-1), .ref q11, .ref q8, .ref q12, .int 0, .ref q13, .ref q14, .ref q15, .ref q16, .ref q17, .ref q2, .ref q18, .int 0, .ref q3, .ref q4, .ref q19, .ref q6, .ref q7, .ref q1, .ref q5, .int 1, .int (-1), .int 0, .ref q20, .ref q21, .ref q22, .ref q23, .ref q24, .ref q25, .ref q26, .ref q27, .int 0, .ref q28, .ref q9, .ref q10, .ref q29, .ref q30, .int 0, .ref q31, .ref q32, .ref q33, .ref q34, .int 0, .ref q35, .ref q36, .ref q37, .ref q38, .int 0, .int 0, .ref q39, .ref q40, .ref q41, .ref q42])), (q8, .inl (G.2.1, 242, .inl (fun _ => 0)))]) rfl (fun H locs w => ?_)
  refine lv_iinc (v := 1) (lv' := [(4, .int 1), (5, .int 0), (3, .int 4), (0, .ref q0), (1, .int x0), (2, .int x1)]) hx hb dX12_rows_218 hl (k := 0) rfl (by decide +kernel) (by decide) rfl (fun ls hl => ?_)
  refine lv_goto (tgt := 195) hx hb dX12_rows_221 (by decide) ?_
  refine lv_iload hx hb dX12_rows_195 (lv_at hl 0 rfl) ?_
  refine lv_aload_n hx hb dX12_rows_197 rfl (lv_at hl 3 rfl) ?_
  refine r_get C w 9 rfl fr_X12_322 rfl dX12_rows_198 ?_
  refine lv_icmp_ge (tgt := 224) hx hb dX12_rows_201 (by decide) (fun _ => ?_) (fun h => absurd (by decide) h)
  refine lv_iinc (v := 5) (lv' := [(3, .int 5), (4, .int 1), (5, .int 0), (0, .ref q0), (1, .int x0), (2, .int x1)]) hx hb dX12_rows_224 hl (k := 2) rfl (by decide +kernel) (by decide) rfl (fun ls hl => ?_)
  refine lv_goto (tgt := 80) hx hb dX12_rows_227 (by decide) ?_
  refine lv_iload_n hx hb dX12_rows_80 rfl (lv_at hl 0 rfl) ?_
  refine lv_iload_n hx hb dX12_rows_81 rfl (lv_at hl 5 rfl) ?_
  refine lv_icmp_ge (tgt := 230) hx hb dX12_rows_82 (by decide) (fun h => absurd h (Int32.not_le.mpr h8)) (fun _ => ?_)
  refine lv_iconst (v := 0) hx hb dX12_rows_85 (by decide) ?_
  refine lv_istore (lv' := [(4, .int 0), (3, .int 5), (5, .int 0), (0, .ref q0), (1, .int x0), (2, .int x1)]) hx hb dX12_rows_86 hl (by decide) rfl (fun ls hl => ?_)
  refine lv_iload hx hb dX12_rows_88 (lv_at hl 0 rfl) ?_
  refine lv_aload_n hx hb dX12_rows_90 rfl (lv_at hl 3 rfl) ?_
  refine r_get C w 9 rfl fr_X12_322 rfl dX12_rows_91 ?_
  refine lv_icmp_ge (tgt := 111) hx hb dX12_rows_94 (by decide) (fun h => absurd h (by decide)) (fun _ => ?_)
  refine lv_aload_n hx hb dX12_rows_97 rfl (lv_at hl 3 rfl) ?_
  refine r_get C w 9 rfl fr_X12_103 rfl dX12_rows_98 ?_
  refine lv_iload hx hb dX12_rows_101 (lv_at hl 0 rfl) ?_
  refine lv_lconst (v := 0) hx hb dX12_rows_103 (by decide) ?_
  refine r_last C w 1 rfl (IX.of (k := 0) (by decide +kernel)) (g := (fun _ => 0)) (updL_c _ _) dX12_rows_104 (ws2 := [(q9, .inl (G.2.2.1, 3000, .inr (.inl (vp_updL (vp_updL (vp_updL (vp_updL (vp_updL (vp_updL (fun _ => 0) 0 1) 0 0) 0 0) 0 0) 0 0) 0 0)))), (q10, .inl (G.2.2.1, 3000, .inr (.inl (fun _ => 0)))), (q1, .inl (G.2.1, 4096, .inl (upd (fun _ => (-1)) 0 0))), (q2, .inl (G.2.1, 57, .inl (fun _ => 0))), (q3, .inl (G.2.1, 8, .inl (fun _ => 0))), (q4, .inl (G.2.1, 24008, .inl (fun _ => 0))), (q5, .inl (G.2.1, 3000, .inl (upd (fun _ => 0) 0 (-1)))), (q6, .inl (G.2.1, 3000, .inl (upd (fun _ => 0) 0 (-1)))), (q7, .inl (G.2.1, 3000, .inl (upd (fun _ => 0) 0 (-1)))), (q0, .inr (12, [.int 0, .int 0, .int 0, .int 0, .int 0, .int 0, .int 0, .int (-1), .ref q11, .ref q8, .ref q12, .int 0, .ref q13, .ref q14, .ref q15, .ref q16, .ref q17, .ref q2, .ref q18, .int 0, .ref q3, .ref q4, .ref q19, .ref q6, .ref q7, .ref q1, .ref q5, .int 1, .int (-1), .int 0, .ref q20, .ref q21, .ref q22, .ref q23, .ref q24, .ref q25, .ref q26, .ref q27, .int 0, .ref q28, .ref q9, .ref q10, .ref q29, .ref q30, .int 0, .ref q31, .ref q32, .ref q33, .ref q34, .int 0, .ref q35, .ref q36, .ref q37, .ref q38, .int 0, .int 0, .ref q39, .ref q40, .ref q41, .ref q42])), (q8, .inl (G.2.1, 242, .inl (fun _ => 0)))]) rfl (fun H locs w => ?_)
  refine lv_iinc (v := 1) (lv' := [(4, .int 1), (3, .int 5), (5, .int 0), (0, .ref q0), (1, .int x0), (2, .int x1)]) hx hb dX12_rows_105 hl (k := 0) rfl (by decide +kernel) (by decide) rfl (fun ls hl => ?_)
  refine lv_goto (tgt := 88) hx hb dX12_rows_108 (by decide) ?_
  refine lv_iload hx hb dX12_rows_88 (lv_at hl 0 rfl) ?_
  refine lv_aload_n hx hb dX12_rows_90 rfl (lv_at hl 3 rfl) ?_
  refine r_get C w 9 rfl fr_X12_322 rfl dX12_rows_91 ?_
  refine lv_icmp_ge (tgt := 111) hx hb dX12_rows_94 (by decide) (fun _ => ?_) (fun h => absurd (by decide) h)
  refine lv_iconst (v := 0) hx hb dX12_rows_111 (by decide) ?_
  refine lv_istore (lv' := [(4, .int 0), (3, .int 5), (5, .int 0), (0, .ref q0), (1, .int x0), (2, .int x1)]) hx hb dX12_rows_112 hl (by decide) rfl (fun ls hl => ?_)
  refine lv_iload hx hb dX12_rows_114 (lv_at hl 0 rfl) ?_
  refine lv_aload_n hx hb dX12_rows_116 rfl (lv_at hl 3 rfl) ?_
  refine r_get C w 9 rfl fr_X12_322 rfl dX12_rows_117 ?_
  refine lv_icmp_ge (tgt := 192) hx hb dX12_rows_120 (by decide) (fun h => absurd h (by decide)) (fun _ => ?_)
  refine lv_iconst (v := 0) hx hb dX12_rows_123 (by decide) ?_
  refine lv_istore (lv' := [(5, .int 0), (4, .int 0), (3, .int 5), (0, .ref q0), (1, .int x0), (2, .int x1)]) hx hb dX12_rows_124 hl (by decide) rfl (fun ls hl => ?_)
  refine lv_iload hx hb dX12_rows_126 (lv_at hl 0 rfl) ?_
  refine lv_aload_n hx hb dX12_rows_128 rfl (lv_at hl 3 rfl) ?_
  refine fin_i C w (run_V C w mv_X12_286 (k123_acts C.b0 q0 q8 q11 q12 q13 q14 q15 q16 q17 q2 q18 q3 q4 q19 q6 q7 q1 q5 q20 q21 q22 q23 q24 q25 q26 q27 q28 q9 q10 q29 q30 q31 q32 q33 q34 q35 q36 q37 q38 q39 q40 q41 q42 H.size) [9, 10] rfl rfl 9 rfl rfl (by decide) rfl hl.1 rfl (Nat.le_of_ble_eq_true rfl) dX12_rows_129 (cells2 := 0) (slots2 := 0) (by decide)) [9, 10] [0, 1, 2, 3, 4, 5, 6, 7, 8] rfl rfl (by decide) (cells2 := 0) (slots2 := 0) (by decide) (fun u10 H locs w => ?_)
  have w : Wd s G A [(q9, .inl (G.2.2.1, 3000, .inr (.inl (vp_updL (vp_updL (vp_updL (vp_updL (vp_updL (vp_updL (fun _ => 0) 0 1) 0 0) 0 0) 0 0) 0 0) 0 0)))), (q10, .inl (G.2.2.1, 3000, .inr (.inl (fun _ => 0)))), (q1, .inl (G.2.1, 4096, .inl (upd (fun _ => (-1)) 0 0))), (q2, .inl (G.2.1, 57, .inl (fun _ => 0))), (q3, .inl (G.2.1, 8, .inl (fun _ => 0))), (q4, .inl (G.2.1, 24008, .inl (fun _ => 0))), (q5, .inl (G.2.1, 3000, .inl (upd (fun _ => 0) 0 (-1)))), (q6, .inl (G.2.1, 3000, .inl (upd (fun _ => 0) 0 (-1)))), (q7, .inl (G.2.1, 3000, .inl (upd (fun _ => 0) 0 (-1)))), (q0, .inr (12, [.int 0, .int 0, .int 0, .int 0, .int 0, .int 0, .int 0, .int (-1), .ref q11, .ref q8, .ref q12, .int 0, .ref q13, .ref q14, .ref q15, .ref q16, .ref q17, .ref q2, .ref q18, .int 0, .ref q3, .ref q4, .ref q19, .ref q6, .ref q7, .ref q1, .ref q5, .int 1, .int (-1), .int 0, .ref q20, .ref q21, .ref q22, .ref q23, .ref q24, .ref q25, .ref q26, .ref q27, .int 0, .ref q28, .ref q9, .ref q10, .ref q29, .ref q30, .int 0, .ref q31, .ref q32, .ref q33, .ref q34, .int 0, .ref q35, .ref q36, .ref q37, .ref q38, .int 0, .int 0, .ref q39, .ref q40, .ref q41, .ref q42])), (q8, .inl (G.2.1, 242, .inl (fun _ => 0)))] H locs := w
  refine lv_icmp_ge (tgt := 186) hx hb dX12_rows_132 (by decide) (fun _ => ?_) (fun h => absurd (by decide) h)
  refine lv_iinc (v := 1) (lv' := [(4, .int 1), (5, .int 0), (3, .int 5), (0, .ref q0), (1, .int x0), (2, .int x1)]) hx hb dX12_rows_186 hl (k := 1) rfl (by decide +kernel) (by decide) rfl (fun ls hl => ?_)
  refine lv_goto (tgt := 114) hx hb dX12_rows_189 (by decide) ?_
  refine lv_iload hx hb dX12_rows_114 (lv_at hl 0 rfl) ?_
  refine lv_aload_n hx hb dX12_rows_116 rfl (lv_at hl 3 rfl) ?_
  refine r_get C w 9 rfl fr_X12_322 rfl dX12_rows_117 ?_
  refine lv_icmp_ge (tgt := 192) hx hb dX12_rows_120 (by decide) (fun _ => ?_) (fun h => absurd (by decide) h)
  refine lv_iconst (v := 0) hx hb dX12_rows_192 (by decide) ?_
  refine lv_istore (lv' := [(4, .int 0), (5, .int 0), (3, .int 5), (0, .ref q0), (1, .int x0), (2, .int x1)]) hx hb dX12_rows_193 hl (by decide) rfl (fun ls hl => ?_)
  refine lv_iload hx hb dX12_rows_195 (lv_at hl 0 rfl) ?_
  refine lv_aload_n hx hb dX12_rows_197 rfl (lv_at hl 3 rfl) ?_
  refine r_get C w 9 rfl fr_X12_322 rfl dX12_rows_198 ?_
  refine lv_icmp_ge (tgt := 224) hx hb dX12_rows_201 (by decide) (fun h => absurd h (by decide)) (fun _ => ?_)
  refine lv_aload_n hx hb dX12_rows_204 rfl (lv_at hl 3 rfl) ?_
  refine r_get C w 9 rfl fr_X12_99 rfl dX12_rows_205 ?_
  refine lv_iload hx hb dX12_rows_208 (lv_at hl 0 rfl) ?_
  refine lv_aload_n hx hb dX12_rows_210 rfl (lv_at hl 3 rfl) ?_
  refine r_get C w 9 rfl fr_X12_103 rfl dX12_rows_211 ?_
  refine lv_iload hx hb dX12_rows_214 (lv_at hl 0 rfl) ?_
  refine r_lald C w 1 rfl (IX.of (k := 0) (by decide +kernel)) (v := 0) rfl dX12_rows_216 ?_
  refine r_last C w 0 rfl (IX.of (k := 0) (by decide +kernel)) (g := (vp_updL (vp_updL (vp_updL (vp_updL (vp_updL (vp_updL (vp_updL (fun _ => 0) 0 1) 0 0) 0 0) 0 0) 0 0) 0 0) 0 0)) rfl dX12_rows_217 (ws2 := [(q9, .inl (G.2.2.1, 3000, .inr (.inl (vp_updL (vp_updL (vp_updL (vp_updL (vp_updL (vp_updL (vp_updL (fun _ => 0) 0 1) 0 0) 0 0) 0 0) 0 0) 0 0) 0 0)))), (q10, .inl (G.2.2.1, 3000, .inr (.inl (fun _ => 0)))), (q1, .inl (G.2.1, 4096, .inl (upd (fun _ => (-1)) 0 0))), (q2, .inl (G.2.1, 57, .inl (fun _ => 0))), (q3, .inl (G.2.1, 8, .inl (fun _ => 0))), (q4, .inl (G.2.1, 24008, .inl (fun _ => 0))), (q5, .inl (G.2.1, 3000, .inl (upd (fun _ => 0) 0 (-1)))), (q6, .inl (G.2.1, 3000, .inl (upd (fun _ => 0) 0 (-1)))), (q7, .inl (G.2.1, 3000, .inl (upd (fun _ => 0) 0 (-1)))), (q0, .inr (12, [.int 0, .int 0, .int 0, .int 0, .int 0, .int 0, .int 0, .int (-1), .ref q11, .ref q8, .ref q12, .int 0, .ref q13, .ref q14, .ref q15, .ref q16, .ref q17, .ref q2, .ref q18, .int 0, .ref q3, .ref q4, .ref q19, .ref q6, .ref q7, .ref q1, .ref q5, .int 1, .int (-1), .int 0, .ref q20, .ref q21, .ref q22, .ref q23, .ref q24, .ref q25, .ref q26, .ref q27, .int 0, .ref q28, .ref q9, .ref q10, .ref q29, .ref q30, .int 0, .ref q31, .ref q32, .ref q33, .ref q34, .int 0, .ref q35, .ref q36, .ref q37, .ref q38, .int 0, .int 0, .ref q39, .ref q40, .ref q41, .ref q42])), (q8, .inl (G.2.1, 242, .inl (fun _ => 0)))]) rfl (fun H locs w => ?_)
  refine lv_iinc (v := 1) (lv' := [(4, .int 1), (5, .int 0), (3, .int 5), (0, .ref q0), (1, .int x0), (2, .int x1)]) hx hb dX12_rows_218 hl (k := 0) rfl (by decide +kernel) (by decide) rfl (fun ls hl => ?_)
  refine lv_goto (tgt := 195) hx hb dX12_rows_221 (by decide) ?_
  refine lv_iload hx hb dX12_rows_195 (lv_at hl 0 rfl) ?_
  refine lv_aload_n hx hb dX12_rows_197 rfl (lv_at hl 3 rfl) ?_
  refine r_get C w 9 rfl fr_X12_322 rfl dX12_rows_198 ?_
  refine lv_icmp_ge (tgt := 224) hx hb dX12_rows_201 (by decide) (fun _ => ?_) (fun h => absurd (by decide) h)
  refine lv_iinc (v := 6) (lv' := [(3, .int 6), (4, .int 1), (5, .int 0), (0, .ref q0), (1, .int x0), (2, .int x1)]) hx hb dX12_rows_224 hl (k := 2) rfl (by decide +kernel) (by decide) rfl (fun ls hl => ?_)
  refine lv_goto (tgt := 80) hx hb dX12_rows_227 (by decide) ?_
  refine lv_iload_n hx hb dX12_rows_80 rfl (lv_at hl 0 rfl) ?_
  refine lv_iload_n hx hb dX12_rows_81 rfl (lv_at hl 5 rfl) ?_
  refine lv_icmp_ge (tgt := 230) hx hb dX12_rows_82 (by decide) (fun h => absurd h (Int32.not_le.mpr h9)) (fun _ => ?_)
  refine lv_iconst (v := 0) hx hb dX12_rows_85 (by decide) ?_
  refine lv_istore (lv' := [(4, .int 0), (3, .int 6), (5, .int 0), (0, .ref q0), (1, .int x0), (2, .int x1)]) hx hb dX12_rows_86 hl (by decide) rfl (fun ls hl => ?_)
  refine lv_iload hx hb dX12_rows_88 (lv_at hl 0 rfl) ?_
  refine lv_aload_n hx hb dX12_rows_90 rfl (lv_at hl 3 rfl) ?_
  refine r_get C w 9 rfl fr_X12_322 rfl dX12_rows_91 ?_
  refine lv_icmp_ge (tgt := 111) hx hb dX12_rows_94 (by decide) (fun h => absurd h (by decide)) (fun _ => ?_)
  refine lv_aload_n hx hb dX12_rows_97 rfl (lv_at hl 3 rfl) ?_
  refine r_get C w 9 rfl fr_X12_103 rfl dX12_rows_98 ?_
  refine lv_iload hx hb dX12_rows_101 (lv_at hl 0 rfl) ?_
  refine lv_lconst (v := 0) hx hb dX12_rows_103 (by decide) ?_
  refine r_last C w 1 rfl (IX.of (k := 0) (by decide +kernel)) (g := (fun _ => 0)) (updL_c _ _) dX12_rows_104 (ws2 := [(q9, .inl (G.2.2.1, 3000, .inr (.inl (vp_updL (vp_updL (vp_updL (vp_updL (vp_updL (vp_updL (vp_updL (fun _ => 0) 0 1) 0 0) 0 0) 0 0) 0 0) 0 0) 0 0)))), (q10, .inl (G.2.2.1, 3000, .inr (.inl (fun _ => 0)))), (q1, .inl (G.2.1, 4096, .inl (upd (fun _ => (-1)) 0 0))), (q2, .inl (G.2.1, 57, .inl (fun _ => 0))), (q3, .inl (G.2.1, 8, .inl (fun _ => 0))), (q4, .inl (G.2.1, 24008, .inl (fun _ => 0))), (q5, .inl (G.2.1, 3000, .inl (upd (fun _ => 0) 0 (-1)))), (q6, .inl (G.2.1, 3000, .inl (upd (fun _ => 0) 0 (-1)))), (q7, .inl (G.2.1, 3000, .inl (upd (fun _ => 0) 0 (-1)))), (q0, .inr (12, [.int 0, .int 0, .int 0, .int 0, .int 0, .int 0, .int 0, .int (-1), .ref q11, .ref q8, .ref q12, .int 0, .ref q13, .ref q14, .ref q15, .ref q16, .ref q17, .ref q2, .ref q18, .int 0, .ref q3, .ref q4, .ref q19, .ref q6, .ref q7, .ref q1, .ref q5, .int 1, .int (-1), .int 0, .ref q20, .ref q21, .ref q22, .ref q23, .ref q24, .ref q25, .ref q26, .ref q27, .int 0, .ref q28, .ref q9, .ref q10, .ref q29, .ref q30, .int 0, .ref q31, .ref q32, .ref q33, .ref q34, .int 0, .ref q35, .ref q36, .ref q37, .ref q38, .int 0, .int 0, .ref q39, .ref q40, .ref q41, .ref q42])), (q8, .inl (G.2.1, 242, .inl (fun _ => 0)))]) rfl (fun H locs w => ?_)
  refine lv_iinc (v := 1) (lv' := [(4, .int 1), (3, .int 6), (5, .int 0), (0, .ref q0), (1, .int x0), (2, .int x1)]) hx hb dX12_rows_105 hl (k := 0) rfl (by decide +kernel) (by decide) rfl (fun ls hl => ?_)
  refine lv_goto (tgt := 88) hx hb dX12_rows_108 (by decide) ?_
  refine lv_iload hx hb dX12_rows_88 (lv_at hl 0 rfl) ?_
  refine lv_aload_n hx hb dX12_rows_90 rfl (lv_at hl 3 rfl) ?_
  refine r_get C w 9 rfl fr_X12_322 rfl dX12_rows_91 ?_
  refine lv_icmp_ge (tgt := 111) hx hb dX12_rows_94 (by decide) (fun _ => ?_) (fun h => absurd (by decide) h)
  refine lv_iconst (v := 0) hx hb dX12_rows_111 (by decide) ?_
  refine lv_istore (lv' := [(4, .int 0), (3, .int 6), (5, .int 0), (0, .ref q0), (1, .int x0), (2, .int x1)]) hx hb dX12_rows_112 hl (by decide) rfl (fun ls hl => ?_)
  refine lv_iload hx hb dX12_rows_114 (lv_at hl 0 rfl) ?_
  refine lv_aload_n hx hb dX12_rows_116 rfl (lv_at hl 3 rfl) ?_
  refine r_get C w 9 rfl fr_X12_322 rfl dX12_rows_117 ?_
  refine lv_icmp_ge (tgt := 192) hx hb dX12_rows_120 (by decide) (fun h => absurd h (by decide)) (fun _ => ?_)
  refine lv_iconst (v := 0) hx hb dX12_rows_123 (by decide) ?_
  refine lv_istore (lv' := [(5, .int 0), (4, .int 0), (3, .int 6), (0, .ref q0), (1, .int x0), (2, .int x1)]) hx hb dX12_rows_124 hl (by decide) rfl (fun ls hl => ?_)
  refine lv_iload hx hb dX12_rows_126 (lv_at hl 0 rfl) ?_
  refine lv_aload_n hx hb dX12_rows_128 rfl (lv_at hl 3 rfl) ?_
  refine fin_i C w (run_V C w mv_X12_286 (k123_acts C.b0 q0 q8 q11 q12 q13 q14 q15 q16 q17 q2 q18 q3 q4 q19 q6 q7 q1 q5 q20 q21 q22 q23 q24 q25 q26 q27 q28 q9 q10 q29 q30 q31 q32 q33 q34 q35 q36 q37 q38 q39 q40 q41 q42 H.size) [9, 10] rfl rfl 9 rfl rfl (by decide) rfl hl.1 rfl (Nat.le_of_ble_eq_true rfl) dX12_rows_129 (cells2 := 0) (slots2 := 0) (by decide)) [9, 10] [0, 1, 2, 3, 4, 5, 6, 7, 8] rfl rfl (by decide) (cells2 := 0) (slots2 := 0) (by decide) (fun u11 H locs w => ?_)
  have w : Wd s G A [(q9, .inl (G.2.2.1, 3000, .inr (.inl (vp_updL (vp_updL (vp_updL (vp_updL (vp_updL (vp_updL (vp_updL (fun _ => 0) 0 1) 0 0) 0 0) 0 0) 0 0) 0 0) 0 0)))), (q10, .inl (G.2.2.1, 3000, .inr (.inl (fun _ => 0)))), (q1, .inl (G.2.1, 4096, .inl (upd (fun _ => (-1)) 0 0))), (q2, .inl (G.2.1, 57, .inl (fun _ => 0))), (q3, .inl (G.2.1, 8, .inl (fun _ => 0))), (q4, .inl (G.2.1, 24008, .inl (fun _ => 0))), (q5, .inl (G.2.1, 3000, .inl (upd (fun _ => 0) 0 (-1)))), (q6, .inl (G.2.1, 3000, .inl (upd (fun _ => 0) 0 (-1)))), (q7, .inl (G.2.1, 3000, .inl (upd (fun _ => 0) 0 (-1)))), (q0, .inr (12, [.int 0, .int 0, .int 0, .int 0, .int 0, .int 0, .int 0, .int (-1), .ref q11, .ref q8, .ref q12, .int 0, .ref q13, .ref q14, .ref q15, .ref q16, .ref q17, .ref q2, .ref q18, .int 0, .ref q3, .ref q4, .ref q19, .ref q6, .ref q7, .ref q1, .ref q5, .int 1, .int (-1), .int 0, .ref q20, .ref q21, .ref q22, .ref q23, .ref q24, .ref q25, .ref q26, .ref q27, .int 0, .ref q28, .ref q9, .ref q10, .ref q29, .ref q30, .int 0, .ref q31, .ref q32, .ref q33, .ref q34, .int 0, .ref q35, .ref q36, .ref q37, .ref q38, .int 0, .int 0, .ref q39, .ref q40, .ref q41, .ref q42])), (q8, .inl (G.2.1, 242, .inl (fun _ => 0)))] H locs := w
  refine lv_icmp_ge (tgt := 186) hx hb dX12_rows_132 (by decide) (fun _ => ?_) (fun h => absurd (by decide) h)
  refine lv_iinc (v := 1) (lv' := [(4, .int 1), (5, .int 0), (3, .int 6), (0, .ref q0), (1, .int x0), (2, .int x1)]) hx hb dX12_rows_186 hl (k := 1) rfl (by decide +kernel) (by decide) rfl (fun ls hl => ?_)
  refine lv_goto (tgt := 114) hx hb dX12_rows_189 (by decide) ?_
  refine lv_iload hx hb dX12_rows_114 (lv_at hl 0 rfl) ?_
  refine lv_aload_n hx hb dX12_rows_116 rfl (lv_at hl 3 rfl) ?_
  refine r_get C w 9 rfl fr_X12_322 rfl dX12_rows_117 ?_
  refine lv_icmp_ge (tgt := 192) hx hb dX12_rows_120 (by decide) (fun _ => ?_) (fun h => absurd (by decide) h)
  refine lv_iconst (v := 0) hx hb dX12_rows_192 (by decide) ?_
  refine lv_istore (lv' := [(4, .int 0), (5, .int 0), (3, .int 6), (0, .ref q0), (1, .int x0), (2, .int x1)]) hx hb dX12_rows_193 hl (by decide) rfl (fun ls hl => ?_)
  refine lv_iload hx hb dX12_rows_195 (lv_at hl 0 rfl) ?_
  refine lv_aload_n hx hb dX12_rows_197 rfl (lv_at hl 3 rfl) ?_
  refine r_get C w 9 rfl fr_X12_322 rfl dX12_rows_198 ?_
  refine lv_icmp_ge (tgt := 224) hx hb dX12_rows_201 (by decide) (fun h => absurd h (by decide)) (fun _ => ?_)
  refine lv_aload_n hx hb dX12_rows_204 rfl (lv_at hl 3 rfl) ?_
  refine r_get C w 9 rfl fr_X12_99 rfl dX12_rows_205 ?_
  refine lv_iload hx hb dX12_rows_208 (lv_at hl 0 rfl) ?_
  refine lv_aload_n hx hb dX12_rows_210 rfl (lv_at hl 3 rfl) ?_
  refine r_get C w 9 rfl fr_X12_103 rfl dX12_rows_211 ?_
  refine lv_iload hx hb dX12_rows_214 (lv_at hl 0 rfl) ?_
  refine r_lald C w 1 rfl (IX.of (k := 0) (by decide +kernel)) (v := 0) rfl dX12_rows_216 ?_
  refine r_last C w 0 rfl (IX.of (k := 0) (by decide +kernel)) (g := (vp_updL (vp_updL (vp_updL (vp_updL (vp_updL (vp_updL (vp_updL (vp_updL (fun _ => 0) 0 1) 0 0) 0 0) 0 0) 0 0) 0 0) 0 0) 0 0)) rfl dX12_rows_217 (ws2 := [(q9, .inl (G.2.2.1, 3000, .inr (.inl (vp_updL (vp_updL (vp_updL (vp_updL (vp_updL (vp_updL (vp_updL (vp_updL (fun _ => 0) 0 1) 0 0) 0 0) 0 0) 0 0) 0 0) 0 0) 0 0)))), (q10, .inl (G.2.2.1, 3000, .inr (.inl (fun _ => 0)))), (q1, .inl (G.2.1, 4096, .inl (upd (fun _ => (-1)) 0 0))), (q2, .inl (G.2.1, 57, .inl (fun _ => 0))), (q3, .inl (G.2.1, 8, .inl (fun _ => 0))), (q4, .inl (G.2.1, 24008, .inl (fun _ => 0))), (q5, .inl (G.2.1, 3000, .inl (upd (fun _ => 0) 0 (-1)))), (q6, .inl (G.2.1, 3000, .inl (upd (fun _ => 0) 0 (-1)))), (q7, .inl (G.2.1, 3000, .inl (upd (fun _ => 0) 0 (-1)))), (q0, .inr (12, [.int 0, .int 0, .int 0, .int 0, .int 0, .int 0, .int 0, .int (-1), .ref q11, .ref q8, .ref q12, .int 0, .ref q13, .ref q14, .ref q15, .ref q16, .ref q17, .ref q2, .ref q18, .int 0, .ref q3, .ref q4, .ref q19, .ref q6, .ref q7, .ref q1, .ref q5, .int 1, .int (-1), .int 0, .ref q20, .ref q21, .ref q22, .ref q23, .ref q24, .ref q25, .ref q26, .ref q27, .int 0, .ref q28, .ref q9, .ref q10, .ref q29, .ref q30, .int 0, .ref q31, .ref q32, .ref q33, .ref q34, .int 0, .ref q35, .ref q36, .ref q37, .ref q38, .int 0, .int 0, .ref q39, .ref q40, .ref q41, .ref q42])), (q8, .inl (G.2.1, 242, .inl (fun _ => 0)))]) rfl (fun H locs w => ?_)
  refine lv_iinc (v := 1) (lv' := [(4, .int 1), (5, .int 0), (3, .int 6), (0, .ref q0), (1, .int x0), (2, .int x1)]) hx hb dX12_rows_218 hl (k := 0) rfl (by decide +kernel) (by decide) rfl (fun ls hl => ?_)
  refine lv_goto (tgt := 195) hx hb dX12_rows_221 (by decide) ?_
  refine lv_iload hx hb dX12_rows_195 (lv_at hl 0 rfl) ?_
  refine lv_aload_n hx hb dX12_rows_197 rfl (lv_at hl 3 rfl) ?_
  refine r_get C w 9 rfl fr_X12_322 rfl dX12_rows_198 ?_
  refine lv_icmp_ge (tgt := 224) hx hb dX12_rows_201 (by decide) (fun _ => ?_) (fun h => absurd (by decide) h)
  refine lv_iinc (v := 7) (lv' := [(3, .int 7), (4, .int 1), (5, .int 0), (0, .ref q0), (1, .int x0), (2, .int x1)]) hx hb dX12_rows_224 hl (k := 2) rfl (by decide +kernel) (by decide) rfl (fun ls hl => ?_)
  refine lv_goto (tgt := 80) hx hb dX12_rows_227 (by decide) ?_
  refine lv_iload_n hx hb dX12_rows_80 rfl (lv_at hl 0 rfl) ?_
  refine lv_iload_n hx hb dX12_rows_81 rfl (lv_at hl 5 rfl) ?_
  refine lv_icmp_ge (tgt := 230) hx hb dX12_rows_82 (by decide) (fun h => absurd h (Int32.not_le.mpr h10)) (fun _ => ?_)
  refine lv_iconst (v := 0) hx hb dX12_rows_85 (by decide) ?_
  refine lv_istore (lv' := [(4, .int 0), (3, .int 7), (5, .int 0), (0, .ref q0), (1, .int x0), (2, .int x1)]) hx hb dX12_rows_86 hl (by decide) rfl (fun ls hl => ?_)
  refine lv_iload hx hb dX12_rows_88 (lv_at hl 0 rfl) ?_
  refine lv_aload_n hx hb dX12_rows_90 rfl (lv_at hl 3 rfl) ?_
  refine r_get C w 9 rfl fr_X12_322 rfl dX12_rows_91 ?_
  refine lv_icmp_ge (tgt := 111) hx hb dX12_rows_94 (by decide) (fun h => absurd h (by decide)) (fun _ => ?_)
  refine lv_aload_n hx hb dX12_rows_97 rfl (lv_at hl 3 rfl) ?_
  refine r_get C w 9 rfl fr_X12_103 rfl dX12_rows_98 ?_
  refine lv_iload hx hb dX12_rows_101 (lv_at hl 0 rfl) ?_
  refine lv_lconst (v := 0) hx hb dX12_rows_103 (by decide) ?_
  refine r_last C w 1 rfl (IX.of (k := 0) (by decide +kernel)) (g := (fun _ => 0)) (updL_c _ _) dX12_rows_104 (ws2 := [(q9, .inl (G.2.2.1, 3000, .inr (.inl (vp_updL (vp_updL (vp_updL (vp_updL (vp_updL (vp_updL (vp_updL (vp_updL (fun _ => 0) 0 1) 0 0) 0 0) 0 0) 0 0) 0 0) 0 0) 0 0)))), (q10, .inl (G.2.2.1, 3000, .inr (.inl (fun _ => 0)))), (q1, .inl (G.2.1, 4096, .inl (upd (fun _ => (-1)) 0 0))), (q2, .inl (G.2.1, 57, .inl (fun _ => 0))), (q3, .inl (G.2.1, 8, .inl (fun _ => 0))), (q4, .inl (G.2.1, 24008, .inl (fun _ => 0))), (q5, .inl (G.2.1, 3000, .inl (upd (fun _ => 0) 0 (-1)))), (q6, .inl (G.2.1, 3000, .inl (upd (fun _ => 0) 0 (-1)))), (q7, .inl (G.2.1, 3000, .inl (upd (fun _ => 0) 0 (-1)))), (q0, .inr (12, [.int 0, .int 0, .int 0, .int 0, .int 0, .int 0, .int 0, .int (-1), .ref q11, .ref q8, .ref q12, .int 0, .ref q13, .ref q14, .ref q15, .ref q16, .ref q17, .ref q2, .ref q18, .int 0, .ref q3, .ref q4, .ref q19, .ref q6, .ref q7, .ref q1, .ref q5, .int 1, .int (-1), .int 0, .ref q20, .ref q21, .ref q22, .ref q23, .ref q24, .ref q25, .ref q26, .ref q27, .int 0, .ref q28, .ref q9, .ref q10, .ref q29, .ref q30, .int 0, .ref q31, .ref q32, .ref q33, .ref q34, .int 0, .ref q35, .ref q36, .ref q37, .ref q38, .int 0, .int 0, .ref q39, .ref q40, .ref q41, .ref q42])), (q8, .inl (G.2.1, 242, .inl (fun _ => 0)))]) rfl (fun H locs w => ?_)
  refine lv_iinc (v := 1) (lv' := [(4, .int 1), (3, .int 7), (5, .int 0), (0, .ref q0), (1, .int x0), (2, .int x1)]) hx hb dX12_rows_105 hl (k := 0) rfl (by decide +kernel) (by decide) rfl (fun ls hl => ?_)
  refine lv_goto (tgt := 88) hx hb dX12_rows_108 (by decide) ?_
  refine lv_iload hx hb dX12_rows_88 (lv_at hl 0 rfl) ?_
  refine lv_aload_n hx hb dX12_rows_90 rfl (lv_at hl 3 rfl) ?_
  refine r_get C w 9 rfl fr_X12_322 rfl dX12_rows_91 ?_
  refine lv_icmp_ge (tgt := 111) hx hb dX12_rows_94 (by decide) (fun _ => ?_) (fun h => absurd (by decide) h)
  refine lv_iconst (v := 0) hx hb dX12_rows_111 (by decide) ?_
  refine lv_istore (lv' := [(4, .int 0), (3, .int 7), (5, .int 0), (0, .ref q0), (1, .int x0), (2, .int x1)]) hx hb dX12_rows_112 hl (by decide) rfl (fun ls hl => ?_)
  refine lv_iload hx hb dX12_rows_114 (lv_at hl 0 rfl) ?_
  refine lv_aload_n hx hb dX12_rows_116 rfl (lv_at hl 3 rfl) ?_
  refine r_get C w 9 rfl fr_X12_322 rfl dX12_rows_117 ?_
  refine lv_icmp_ge (tgt := 192) hx hb dX12_rows_120 (by decide) (fun h => absurd h (by decide)) (fun _ => ?_)
  refine lv_iconst (v := 0) hx hb dX12_rows_123 (by decide) ?_
  refine lv_istore (lv' := [(5, .int 0), (4, .int 0), (3, .int 7), (0, .ref q0), (1, .int x0), (2, .int x1)]) hx hb dX12_rows_124 hl (by decide) rfl (fun ls hl => ?_)
  refine lv_iload hx hb dX12_rows_126 (lv_at hl 0 rfl) ?_
  refine lv_aload_n hx hb dX12_rows_128 rfl (lv_at hl 3 rfl) ?_
  refine fin_i C w (run_V C w mv_X12_286 (k123_acts C.b0 q0 q8 q11 q12 q13 q14 q15 q16 q17 q2 q18 q3 q4 q19 q6 q7 q1 q5 q20 q21 q22 q23 q24 q25 q26 q27 q28 q9 q10 q29 q30 q31 q32 q33 q34 q35 q36 q37 q38 q39 q40 q41 q42 H.size) [9, 10] rfl rfl 9 rfl rfl (by decide) rfl hl.1 rfl (Nat.le_of_ble_eq_true rfl) dX12_rows_129 (cells2 := 0) (slots2 := 0) (by decide)) [9, 10] [0, 1, 2, 3, 4, 5, 6, 7, 8] rfl rfl (by decide) (cells2 := 0) (slots2 := 0) (by decide) (fun u12 H locs w => ?_)
  have w : Wd s G A [(q9, .inl (G.2.2.1, 3000, .inr (.inl (vp_updL (vp_updL (vp_updL (vp_updL (vp_updL (vp_updL (vp_updL (vp_updL (fun _ => 0) 0 1) 0 0) 0 0) 0 0) 0 0) 0 0) 0 0) 0 0)))), (q10, .inl (G.2.2.1, 3000, .inr (.inl (fun _ => 0)))), (q1, .inl (G.2.1, 4096, .inl (upd (fun _ => (-1)) 0 0))), (q2, .inl (G.2.1, 57, .inl (fun _ => 0))), (q3, .inl (G.2.1, 8, .inl (fun _ => 0))), (q4, .inl (G.2.1, 24008, .inl (fun _ => 0))), (q5, .inl (G.2.1, 3000, .inl (upd (fun _ => 0) 0 (-1)))), (q6, .inl (G.2.1, 3000, .inl (upd (fun _ => 0) 0 (-1)))), (q7, .inl (G.2.1, 3000, .inl (upd (fun _ => 0) 0 (-1)))), (q0, .inr (12, [.int 0, .int 0, .int 0, .int 0, .int 0, .int 0, .int 0, .int (-1), .ref q11, .ref q8, .ref q12, .int 0, .ref q13, .ref q14, .ref q15, .ref q16, .ref q17, .ref q2, .ref q18, .int 0, .ref q3, .ref q4, .ref q19, .ref q6, .ref q7, .ref q1, .ref q5, .int 1, .int (-1), .int 0, .ref q20, .ref q21, .ref q22, .ref q23, .ref q24, .ref q25, .ref q26, .ref q27, .int 0, .ref q28, .ref q9, .ref q10, .ref q29, .ref q30, .int 0, .ref q31, .ref q32, .ref q33, .ref q34, .int 0, .ref q35, .ref q36, .ref q37, .ref q38, .int 0, .int 0, .ref q39, .ref q40, .ref q41, .ref q42])), (q8, .inl (G.2.1, 242, .inl (fun _ => 0)))] H locs := w
  refine lv_icmp_ge (tgt := 186) hx hb dX12_rows_132 (by decide) (fun _ => ?_) (fun h => absurd (by decide) h)
  refine lv_iinc (v := 1) (lv' := [(4, .int 1), (5, .int 0), (3, .int 7), (0, .ref q0), (1, .int x0), (2, .int x1)]) hx hb dX12_rows_186 hl (k := 1) rfl (by decide +kernel) (by decide) rfl (fun ls hl => ?_)
  refine lv_goto (tgt := 114) hx hb dX12_rows_189 (by decide) ?_
  refine lv_iload hx hb dX12_rows_114 (lv_at hl 0 rfl) ?_
  refine lv_aload_n hx hb dX12_rows_116 rfl (lv_at hl 3 rfl) ?_
  refine r_get C w 9 rfl fr_X12_322 rfl dX12_rows_117 ?_
  refine lv_icmp_ge (tgt := 192) hx hb dX12_rows_120 (by decide) (fun _ => ?_) (fun h => absurd (by decide) h)
  refine lv_iconst (v := 0) hx hb dX12_rows_192 (by decide) ?_
  refine lv_istore (lv' := [(4, .int 0), (5, .int 0), (3, .int 7), (0, .ref q0), (1, .int x0), (2, .int x1)]) hx hb dX12_rows_193 hl (by decide) rfl (fun ls hl => ?_)
  refine lv_iload hx hb dX12_rows_195 (lv_at hl 0 rfl) ?_
  refine lv_aload_n hx hb dX12_rows_197 rfl (lv_at hl 3 rfl) ?_
  refine r_get C w 9 rfl fr_X12_322 rfl dX12_rows_198 ?_
  refine lv_icmp_ge (tgt := 224) hx hb dX12_rows_201 (by decide) (fun h => absurd h (by decide)) (fun _ => ?_)
  refine lv_aload_n hx hb dX12_rows_204 rfl (lv_at hl 3 rfl) ?_
  refine r_get C w 9 rfl fr_X12_99 rfl dX12_rows_205 ?_
  refine lv_iload hx hb dX12_rows_208 (lv_at hl 0 rfl) ?_
  refine lv_aload_n hx hb dX12_rows_210 rfl (lv_at hl 3 rfl) ?_
  refine r_get C w 9 rfl fr_X12_103 rfl dX12_rows_211 ?_
  refine lv_iload hx hb dX12_rows_214 (lv_at hl 0 rfl) ?_
  refine r_lald C w 1 rfl (IX.of (k := 0) (by decide +kernel)) (v := 0) rfl dX12_rows_216 ?_
  refine r_last C w 0 rfl (IX.of (k := 0) (by decide +kernel)) (g := (vp_updL (vp_updL (vp_updL (vp_updL (vp_updL (vp_updL (vp_updL (vp_updL (vp_updL (fun _ => 0) 0 1) 0 0) 0 0) 0 0) 0 0) 0 0) 0 0) 0 0) 0 0)) rfl dX12_rows_217 (ws2 := [(q9, .inl (G.2.2.1, 3000, .inr (.inl (vp_updL (vp_updL (vp_updL (vp_updL (vp_updL (vp_updL (vp_updL (vp_updL (vp_updL (fun _ => 0) 0 1) 0 0) 0 0) 0 0) 0 0) 0 0) 0 0) 0 0) 0 0)))), (q10, .inl (G.2.2.1, 3000, .inr (.inl (fun _ => 0)))), (q1, .inl (G.2.1, 4096, .inl (upd (fun _ => (-1)) 0 0))), (q2, .inl (G.2.1, 57, .inl (fun _ => 0))), (q3, .inl (G.2.1, 8, .inl (fun _ => 0))), (q4, .inl (G.2.1, 24008, .inl (fun _ => 0))), (q5, .inl (G.2.1, 3000, .inl (upd (fun _ => 0) 0 (-1)))), (q6, .inl (G.2.1, 3000, .inl (upd (fun _ => 0) 0 (-1)))), (q7, .inl (G.2.1, 3000, .inl (upd (fun _ => 0) 0 (-1)))), (q0, .inr (12, [.int 0, .int 0, .int 0, .int 0, .int 0, .int 0, .int 0, .int (-1), .ref q11, .ref q8, .ref q12, .int 0, .ref q13, .ref q14, .ref q15, .ref q16, .ref q17, .ref q2, .ref q18, .int 0, .ref q3, .ref q4, .ref q19, .ref q6, .ref q7, .ref q1, .ref q5, .int 1, .int (-1), .int 0, .ref q20, .ref q21, .ref q22, .ref q23, .ref q24, .ref q25, .ref q26, .ref q27, .int 0, .ref q28, .ref q9, .ref q10, .ref q29, .ref q30, .int 0, .ref q31, .ref q32, .ref q33, .ref q34, .int 0, .ref q35, .ref q36, .ref q37, .ref q38, .int 0, .int 0, .ref q39, .ref q40, .ref q41, .ref q42])), (q8, .inl (G.2.1, 242, .inl (fun _ => 0)))]) rfl (fun H locs w => ?_)
  refine lv_iinc (v := 1) (lv' := [(4, .int 1), (5, .int 0), (3, .int 7), (0, .ref q0), (1, .int x0), (2, .int x1)]) hx hb dX12_rows_218 hl (k := 0) rfl (by decide +kernel) (by decide) rfl (fun ls hl => ?_)
  refine lv_goto (tgt := 195) hx hb dX12_rows_221 (by decide) ?_
  refine lv_iload hx hb dX12_rows_195 (lv_at hl 0 rfl) ?_
  refine lv_aload_n hx hb dX12_rows_197 rfl (lv_at hl 3 rfl) ?_
  refine r_get C w 9 rfl fr_X12_322 rfl dX12_rows_198 ?_
  refine lv_icmp_ge (tgt := 224) hx hb dX12_rows_201 (by decide) (fun _ => ?_) (fun h => absurd (by decide) h)
  refine lv_iinc (v := 8) (lv' := [(3, .int 8), (4, .int 1), (5, .int 0), (0, .ref q0), (1, .int x0), (2, .int x1)]) hx hb dX12_rows_224 hl (k := 2) rfl (by decide +kernel) (by decide) rfl (fun ls hl => ?_)
  refine lv_goto (tgt := 80) hx hb dX12_rows_227 (by decide) ?_
  refine lv_iload_n hx hb dX12_rows_80 rfl (lv_at hl 0 rfl) ?_
  refine lv_iload_n hx hb dX12_rows_81 rfl (lv_at hl 5 rfl) ?_
  refine lv_icmp_ge (tgt := 230) hx hb dX12_rows_82 (by decide) (fun h => absurd h (Int32.not_le.mpr h11)) (fun _ => ?_)
  refine lv_iconst (v := 0) hx hb dX12_rows_85 (by decide) ?_
  refine lv_istore (lv' := [(4, .int 0), (3, .int 8), (5, .int 0), (0, .ref q0), (1, .int x0), (2, .int x1)]) hx hb dX12_rows_86 hl (by decide) rfl (fun ls hl => ?_)
  refine lv_iload hx hb dX12_rows_88 (lv_at hl 0 rfl) ?_
  refine lv_aload_n hx hb dX12_rows_90 rfl (lv_at hl 3 rfl) ?_
  refine r_get C w 9 rfl fr_X12_322 rfl dX12_rows_91 ?_
  refine lv_icmp_ge (tgt := 111) hx hb dX12_rows_94 (by decide) (fun h => absurd h (by decide)) (fun _ => ?_)
  refine lv_aload_n hx hb dX12_rows_97 rfl (lv_at hl 3 rfl) ?_
  refine r_get C w 9 rfl fr_X12_103 rfl dX12_rows_98 ?_
  refine lv_iload hx hb dX12_rows_101 (lv_at hl 0 rfl) ?_
  refine lv_lconst (v := 0) hx hb dX12_rows_103 (by decide) ?_
  refine r_last C w 1 rfl (IX.of (k := 0) (by decide +kernel)) (g := (fun _ => 0)) (updL_c _ _) dX12_rows_104 (ws2 := [(q9, .inl (G.2.2.1, 3000, .inr (.inl (vp_updL (vp_updL (vp_updL (vp_updL (vp_updL (vp_updL (vp_updL (vp_updL (vp_updL (fun _ => 0) 0 1) 0 0) 0 0) 0 0) 0 0) 0 0) 0 0) 0 0) 0 0)))), (q10, .inl (G.2.2.1, 3000, .inr (.inl (fun _ => 0)))), (q1, .inl (G.2.1, 4096, .inl (upd (fun _ => (-1)) 0 0))), (q2, .inl (G.2.1, 57, .inl (fun _ => 0))), (q3, .inl (G.2.1, 8, .inl (fun _ => 0))), (q4, .inl (G.2.1, 24008, .inl (fun _ => 0))), (q5, .inl (G.2.1, 3000, .inl (upd (fun _ => 0) 0 (-1)))), (q6, .inl (G.2.1, 3000, .inl (upd (fun _ => 0) 0 (-1)))), (q7, .inl (G.2.1, 3000, .inl (upd (fun _ => 0) 0 (-1)))), (q0, .inr (12, [.int 0, .int 0, .int 0, .int 0, .int 0, .int 0, .int 0, .int (-1), .ref q11, .ref q8, .ref q12, .int 0, .ref q13, .ref q14, .ref q15, .ref q16, .ref q17, .ref q2, .ref q18, .int 0, .ref q3, .ref q4, .ref q19, .ref q6, .ref q7, .ref q1, .ref q5, .int 1, .int (-1), .int 0, .ref q20, .ref q21, .ref q22, .ref q23, .ref q24, .ref q25, .ref q26, .ref q27, .int 0, .ref q28, .ref q9, .ref q10, .ref q29, .ref q30, .int 0, .ref q31, .ref q32, .ref q33, .ref q34, .int 0, .ref q35, .ref q36, .ref q37, .ref q38, .int 0, .int 0, .ref q39, .ref q40, .ref q41, .ref q42])), (q8, .inl (G.2.1, 242, .inl (fun _ => 0)))]) rfl (fun H locs w => ?_)
  refine lv_iinc (v := 1) (lv' := [(4, .int 1), (3, .int 8), (5, .int 0), (0, .ref q0), (1, .int x0), (2, .int x1)]) hx hb dX12_rows_105 hl (k := 0) rfl (by decide +kernel) (by decide) rfl (fun ls hl => ?_)
  refine lv_goto (tgt := 88) hx hb dX12_rows_108 (by decide) ?_
  refine lv_iload hx hb dX12_rows_88 (lv_at hl 0 rfl) ?_
  refine lv_aload_n hx hb dX12_rows_90 rfl (lv_at hl 3 rfl) ?_
  refine r_get C w 9 rfl fr_X12_322 rfl dX12_rows_91 ?_
  refine lv_icmp_ge (tgt := 111) hx hb dX12_rows_94 (by decide) (fun _ => ?_) (fun h => absurd (by decide) h)
  refine lv_iconst (v := 0) hx hb dX12_rows_111 (by decide) ?_
  refine lv_istore (lv' := [(4, .int 0), (3, .int 8), (5, .int 0), (0, .ref q0), (1, .int x0), (2, .int x1)]) hx hb dX12_rows_112 hl (by decide) rfl (fun ls hl => ?_)
  refine lv_iload hx hb dX12_rows_114 (lv_at hl 0 rfl) ?_
  refine lv_aload_n hx hb dX12_rows_116 rfl (lv_at hl 3 rfl) ?_
  refine r_get C w 9 rfl fr_X12_322 rfl dX12_rows_117 ?_
  refine lv_icmp_ge (tgt := 192) hx hb dX12_rows_120 (by decide) (fun h => absurd h (by decide)) (fun _ => ?_)
  refine lv_iconst (v := 0) hx hb dX12_rows_123 (by decide) ?_
  refine lv_istore (lv' := [(5, .int 0), (4, .int 0), (3, .int 8), (0, .ref q0), (1, .int x0), (2, .int x1)]) hx hb dX12_rows_124 hl (by decide) rfl (fun ls hl => ?_)
  refine lv_iload hx hb dX12_rows_126 (lv_at hl 0 rfl) ?_
  refine lv_aload_n hx hb dX12_rows_128 rfl (lv_at hl 3 rfl) ?_
  refine fin_i C w (run_V C w mv_X12_286 (k123_acts C.b0 q0 q8 q11 q12 q13 q14 q15 q16 q17 q2 q18 q3 q4 q19 q6 q7 q1 q5 q20 q21 q22 q23 q24 q25 q26 q27 q28 q9 q10 q29 q30 q31 q32 q33 q34 q35 q36 q37 q38 q39 q40 q41 q42 H.size) [9, 10] rfl rfl 9 rfl rfl (by decide) rfl hl.1 rfl (Nat.le_of_ble_eq_true rfl) dX12_rows_129 (cells2 := 0) (slots2 := 0) (by decide)) [9, 10] [0, 1, 2, 3, 4, 5, 6, 7, 8] rfl rfl (by decide) (cells2 := 0) (slots2 := 0) (by decide) (fun u13 H locs w => ?_)
  have w : Wd s G A [(q9, .inl (G.2.2.1, 3000, .inr (.inl (vp_updL (vp_updL (vp_updL (vp_updL (vp_updL (vp_updL (vp_updL (vp_updL (vp_updL (fun _ => 0) 0 1) 0 0) 0 0) 0 0) 0 0) 0 0) 0 0) 0 0) 0 0)))), (q10, .inl (G.2.2.1, 3000, .inr (.inl (fun _ => 0)))), (q1, .inl (G.2.1, 4096, .inl (upd (fun _ => (-1)) 0 0))), (q2, .inl (G.2.1, 57, .inl (fun _ => 0))), (q3, .inl (G.2.1, 8, .inl (fun _ => 0))), (q4, .inl (G.2.1, 24008, .inl (fun _ => 0))), (q5, .inl (G.2.1, 3000, .inl (upd (fun _ => 0) 0 (-1)))), (q6, .inl (G.2.1, 3000, .inl (upd (fun _ => 0) 0 (-1)))), (q7, .inl (G.2.1, 3000, .inl (upd (fun _ => 0) 0 (-1)))), (q0, .inr (12, [.int 0, .int 0, .int 0, .int 0, .int 0, .int 0, .int 0, .int (-1), .ref q11, .ref q8, .ref q12, .int 0, .ref q13, .ref q14, .ref q15, .ref q16, .ref q17, .ref q2, .ref q18, .int 0, .ref q3, .ref q4, .ref q19, .ref q6, .ref q7, .ref q1, .ref q5, .int 1, .int (-1), .int 0, .ref q20, .ref q21, .ref q22, .ref q23, .ref q24, .ref q25, .ref q26, .ref q27, .int 0, .ref q28, .ref q9, .ref q10, .ref q29, .ref q30, .int 0, .ref q31, .ref q32, .ref q33, .ref q34, .int 0, .ref q35, .ref q36, .ref q37, .ref q38, .int 0, .int 0, .ref q39, .ref q40, .ref q41, .ref q42])), (q8, .inl (G.2.1, 242, .inl (fun _ => 0)))] H locs := w
  refine lv_icmp_ge (tgt := 186) hx hb dX12_rows_132 (by decide) (fun _ => ?_) (fun h => absurd (by decide) h)
  refine lv_iinc (v := 1) (lv' := [(4, .int 1), (5, .int 0), (3, .int 8), (0, .ref q0), (1, .int x0), (2, .int x1)]) hx hb dX12_rows_186 hl (k := 1) rfl (by decide +kernel) (by decide) rfl (fun ls hl => ?_)
  refine lv_goto (tgt := 114) hx hb dX12_rows_189 (by decide) ?_
  refine lv_iload hx hb dX12_rows_114 (lv_at hl 0 rfl) ?_
  refine lv_aload_n hx hb dX12_rows_116 rfl (lv_at hl 3 rfl) ?_
  refine r_get C w 9 rfl fr_X12_322 rfl dX12_rows_117 ?_
  refine lv_icmp_ge (tgt := 192) hx hb dX12_rows_120 (by decide) (fun _ => ?_) (fun h => absurd (by decide) h)
  refine lv_iconst (v := 0) hx hb dX12_rows_192 (by decide) ?_
  refine lv_istore (lv' := [(4, .int 0), (5, .int 0), (3, .int 8), (0, .ref q0), (1, .int x0), (2, .int x1)]) hx hb dX12_rows_193 hl (by decide) rfl (fun ls hl => ?_)
  refine lv_iload hx hb dX12_rows_195 (lv_at hl 0 rfl) ?_
  refine lv_aload_n hx hb dX12_rows_197 rfl (lv_at hl 3 rfl) ?_
  refine r_get C w 9 rfl fr_X12_322 rfl dX12_rows_198 ?_
  refine lv_icmp_ge (tgt := 224) hx hb dX12_rows_201 (by decide) (fun h => absurd h (by decide)) (fun _ => ?_)
  refine lv_aload_n hx hb dX12_rows_204 rfl (lv_at hl 3 rfl) ?_
  refine r_get C w 9 rfl fr_X12_99 rfl dX12_rows_205 ?_
  refine lv_iload hx hb dX12_rows_208 (lv_at hl 0 rfl) ?_
  refine lv_aload_n hx hb dX12_rows_210 rfl (lv_at hl 3 rfl) ?_
  refine r_get C w 9 rfl fr_X12_103 rfl dX12_rows_211 ?_
  refine lv_iload hx hb dX12_rows_214 (lv_at hl 0 rfl) ?_
  refine r_lald C w 1 rfl (IX.of (k := 0) (by decide +kernel)) (v := 0) rfl dX12_rows_216 ?_
  refine r_last C w 0 rfl (IX.of (k := 0) (by decide +kernel)) (g := (vp_updL (vp_updL (vp_updL (vp_updL (vp_updL (vp_updL (vp_updL (vp_updL (vp_updL (vp_updL (fun _ => 0) 0 1) 0 0) 0 0) 0 0) 0 0) 0 0) 0 0) 0 0) 0 0) 0 0)) rfl dX12_rows_217 (ws2 := [(q9, .inl (G.2.2.1, 3000, .inr (.inl (vp_updL (vp_updL (vp_updL (vp_updL (vp_updL (vp_updL (vp_updL (vp_updL (vp_updL (vp_updL (fun _ => 0) 0 1) 0 0) 0 0) 0 0) 0 0) 0 0) 0 0) 0 0) 0 0) 0 0)))), (q10, .inl (G.2.2.1, 3000, .inr (.inl (fun _ => 0)))), (q1, .inl (G.2.1, 4096, .inl (upd (fun _ => (-1)) 0 0))), (q2, .inl (G.2.1, 57, .inl (fun _ => 0))), (q3, .inl (G.2.1, 8, .inl (fun _ => 0))), (q4, .inl (G.2.1, 24008, .inl (fun _ => 0))), (q5, .inl (G.2.1, 3000, .inl (upd (fun _ => 0) 0 (-1)))), (q6, .inl (G.2.1, 3000, .inl (upd (fun _ => 0) 0 (-1)))), (q7, .inl (G.2.1, 3000, .inl (upd (fun _ => 0) 0 (-1)))), (q0, .inr (12, [.int 0, .int 0, .int 0, .int 0, .int 0, .int 0, .int 0, .int (-1), .ref q11, .ref q8, .ref q12, .int 0, .ref q13, .ref q14, .ref q15, .ref q16, .ref q17, .ref q2, .ref q18, .int 0, .ref q3, .ref q4, .ref q19, .ref q6, .ref q7, .ref q1, .ref q5, .int 1, .int (-1), .int 0, .ref q20, .ref q21, .ref q22, .ref q23, .ref q24, .ref q25, .ref q26, .ref q27, .int 0, .ref q28, .ref q9, .ref q10, .ref q29, .ref q30, .int 0, .ref q31, .ref q32, .ref q33, .ref q34, .int 0, .ref q35, .ref q36, .ref q37, .ref q38, .int 0, .int 0, .ref q39, .ref q40, .ref q41, .ref q42])), (q8, .inl (G.2.1, 242, .inl (fun _ => 0)))]) rfl (fun H locs w => ?_)
  refine lv_iinc (v := 1) (lv' := [(4, .int 1), (5, .int 0), (3, .int 8), (0, .ref q0), (1, .int x0), (2, .int x1)]) hx hb dX12_rows_218 hl (k := 0) rfl (by decide +kernel) (by decide) rfl (fun ls hl => ?_)
  refine lv_goto (tgt := 195) hx hb dX12_rows_221 (by decide) ?_
  refine lv_iload hx hb dX12_rows_195 (lv_at hl 0 rfl) ?_
  refine lv_aload_n hx hb dX12_rows_197 rfl (lv_at hl 3 rfl) ?_
  refine r_get C w 9 rfl fr_X12_322 rfl dX12_rows_198 ?_
  refine lv_icmp_ge (tgt := 224) hx hb dX12_rows_201 (by decide) (fun _ => ?_) (fun h => absurd (by decide) h)
  refine lv_iinc (v := 9) (lv' := [(3, .int 9), (4, .int 1), (5, .int 0), (0, .ref q0), (1, .int x0), (2, .int x1)]) hx hb dX12_rows_224 hl (k := 2) rfl (by decide +kernel) (by decide) rfl (fun ls hl => ?_)
  refine lv_goto (tgt := 80) hx hb dX12_rows_227 (by decide) ?_
  refine lv_iload_n hx hb dX12_rows_80 rfl (lv_at hl 0 rfl) ?_
  refine lv_iload_n hx hb dX12_rows_81 rfl (lv_at hl 5 rfl) ?_
  refine lv_icmp_ge (tgt := 230) hx hb dX12_rows_82 (by decide) (fun h => absurd h (Int32.not_le.mpr h12)) (fun _ => ?_)
  refine lv_iconst (v := 0) hx hb dX12_rows_85 (by decide) ?_
  refine lv_istore (lv' := [(4, .int 0), (3, .int 9), (5, .int 0), (0, .ref q0), (1, .int x0), (2, .int x1)]) hx hb dX12_rows_86 hl (by decide) rfl (fun ls hl => ?_)
  refine lv_iload hx hb dX12_rows_88 (lv_at hl 0 rfl) ?_
  refine lv_aload_n hx hb dX12_rows_90 rfl (lv_at hl 3 rfl) ?_
  refine r_get C w 9 rfl fr_X12_322 rfl dX12_rows_91 ?_
  refine lv_icmp_ge (tgt := 111) hx hb dX12_rows_94 (by decide) (fun h => absurd h (by decide)) (fun _ => ?_)
  refine lv_aload_n hx hb dX12_rows_97 rfl (lv_at hl 3 rfl) ?_
  refine r_get C w 9 rfl fr_X12_103 rfl dX12_rows_98 ?_
  refine lv_iload hx hb dX12_rows_101 (lv_at hl 0 rfl) ?_
  refine lv_lconst (v := 0) hx hb dX12_rows_103 (by decide) ?_
  refine r_last C w 1 rfl (IX.of (k := 0) (by decide +kernel)) (g := (fun _ => 0)) (updL_c _ _) dX12_rows_104 (ws2 := [(q9, .inl (G.2.2.1, 3000, .inr (.inl (vp_updL (vp_updL (vp_updL (vp_updL (vp_updL (vp_updL (vp_updL (vp_updL (vp_updL (vp_updL (fun _ => 0) 0 1) 0 0) 0 0) 0 0) 0 0) 0 0) 0 0) 0 0) 0 0) 0 0)))), (q10, .inl (G.2.2.1, 3000, .inr (.inl (fun _ => 0)))), (q1, .inl (G.2.1, 4096, .inl (upd (fun _ => (-1)) 0 0))), (q2, .inl (G.2.1, 57, .inl (fun _ => 0))), (q3, .inl (G.2.1, 8, .inl (fun _ => 0))), (q4, .inl (G.2.1, 24008, .inl (fun _ => 0))), (q5, .inl (G.2.1, 3000, .inl (upd (fun _ => 0) 0 (-1)))), (q6, .inl (G.2.1, 3000, .inl (upd (fun _ => 0) 0 (-1)))), (q7, .inl (G.2.1, 3000, .inl (upd (fun _ => 0) 0 (-1)))), (q0, .inr (12, [.int 0, .int 0, .int 0, .int 0, .int 0, .int 0, .int 0, .int (-1), .ref q11, .ref q8, .ref q12, .int 0, .ref q13, .ref q14, .ref q15, .ref q16, .ref q17, .ref q2, .ref q18, .int 0, .ref q3, .ref q4, .ref q19, .ref q6, .ref q7, .ref q1, .ref q5, .int 1, .int (-1), .int 0, .ref q20, .ref q21, .ref q22, .ref q23, .ref q24, .ref q25, .ref q26, .ref q27, .int 0, .ref q28, .ref q9, .ref q10, .ref q29, .ref q30, .int 0, .ref q31, .ref q32, .ref q33, .ref q34, .int 0, .ref q35, .ref q36, .ref q37, .ref q38, .int 0, .int 0, .ref q39, .ref q40, .ref q41, .ref q42])), (q8, .inl (G.2.1, 242, .inl (fun _ => 0)))]) rfl (fun H locs w => ?_)
  refine lv_iinc (v := 1) (lv' := [(4, .int 1), (3, .int 9), (5, .int 0), (0, .ref q0), (1, .int x0), (2, .int x1)]) hx hb dX12_rows_105 hl (k := 0) rfl (by decide +kernel) (by decide) rfl (fun ls hl => ?_)
  refine lv_goto (tgt := 88) hx hb dX12_rows_108 (by decide) ?_
  refine lv_iload hx hb dX12_rows_88 (lv_at hl 0 rfl) ?_
  refine lv_aload_n hx hb dX12_rows_90 rfl (lv_at hl 3 rfl) ?_
  refine r_get C w 9 rfl fr_X12_322 rfl dX12_rows_91 ?_
  refine lv_icmp_ge (tgt := 111) hx hb dX12_rows_94 (by decide) (fun _ => ?_) (fun h => absurd (by decide) h)
  refine lv_iconst (v := 0) hx hb dX12_rows_111 (by decide) ?_
  refine lv_istore (lv' := [(4, .int 0), (3, .int 9), (5, .int 0), (0, .ref q0), (1, .int x0), (2, .int x1)]) hx hb dX12_rows_112 hl (by decide) rfl (fun ls hl => ?_)
  refine lv_iload hx hb dX12_rows_114 (lv_at hl 0 rfl) ?_
  refine lv_aload_n hx hb dX12_rows_116 rfl (lv_at hl 3 rfl) ?_
  refine r_get C w 9 rfl fr_X12_322 rfl dX12_rows_117 ?_
  refine lv_icmp_ge (tgt := 192) hx hb dX12_rows_120 (by decide) (fun h => absurd h (by decide)) (fun _ => ?_)
  refine lv_iconst (v := 0) hx hb dX12_rows_123 (by decide) ?_
  refine lv_istore (lv' := [(5, .int 0), (4, .int 0), (3, .int 9), (0, .ref q0), (1, .int x0), (2, .int x1)]) hx hb dX12_rows_124 hl (by decide) rfl (fun ls hl => ?_)
  refine lv_iload hx hb dX12_rows_126 (lv_at hl 0 rfl) ?_
  refine lv_aload_n hx hb dX12_rows_128 rfl (lv_at hl 3 rfl) ?_
  refine fin_i C w (run_V C w mv_X12_286 (k123_acts C.b0 q0 q8 q11 q12 q13 q14 q15 q16 q17 q2 q18 q3 q4 q19 q6 q7 q1 q5 q20 q21 q22 q23 q24 q25 q26 q27 q28 q9 q10 q29 q30 q31 q32 q33 q34 q35 q36 q37 q38 q39 q40 q41 q42 H.size) [9, 10] rfl rfl 9 rfl rfl (by decide) rfl hl.1 rfl (Nat.le_of_ble_eq_true rfl) dX12_rows_129 (cells2 := 0) (slots2 := 0) (by decide)) [9, 10] [0, 1, 2, 3, 4, 5, 6, 7, 8] rfl rfl (by decide) (cells2 := 0) (slots2 := 0) (by decide) (fun u14 H locs w => ?_)
  have w : Wd s G A [(q9, .inl (G.2.2.1, 3000, .inr (.inl (vp_updL (vp_updL (vp_updL (vp_updL (vp_updL (vp_updL (vp_updL (vp_updL (vp_updL (vp_updL (fun _ => 0) 0 1) 0 0) 0 0) 0 0) 0 0) 0 0) 0 0) 0 0) 0 0) 0 0)))), (q10, .inl (G.2.2.1, 3000, .inr (.inl (fun _ => 0)))), (q1, .inl (G.2.1, 4096, .inl (upd (fun _ => (-1)) 0 0))), (q2, .inl (G.2.1, 57, .inl (fun _ => 0))), (q3, .inl (G.2.1, 8, .inl (fun _ => 0))), (q4, .inl (G.2.1, 24008, .inl (fun _ => 0))), (q5, .inl (G.2.1, 3000, .inl (upd (fun _ => 0) 0 (-1)))), (q6, .inl (G.2.1, 3000, .inl (upd (fun _ => 0) 0 (-1)))), (q7, .inl (G.2.1, 3000, .inl (upd (fun _ => 0) 0 (-1)))), (q0, .inr (12, [.int 0, .int 0, .int 0, .int 0, .int 0, .int 0, .int 0, .int (-1), .ref q11, .ref q8, .ref q12, .int 0, .ref q13, .ref q14, .ref q15, .ref q16, .ref q17, .ref q2, .ref q18, .int 0, .ref q3, .ref q4, .ref q19, .ref q6, .ref q7, .ref q1, .ref q5, .int 1, .int (-1), .int 0, .ref q20, .ref q21, .ref q22, .ref q23, .ref q24, .ref q25, .ref q26, .ref q27, .int 0, .ref q28, .ref q9, .ref q10, .ref q29, .ref q30, .int 0, .ref q31, .ref q32, .ref q33, .ref q34, .int 0, .ref q35, .ref q36, .ref q37, .ref q38, .int 0, .int 0, .ref q39, .ref q40, .ref q41, .ref q42])), (q8, .inl (G.2.1, 242, .inl (fun _ => 0)))] H locs := w
  refine lv_icmp_ge (tgt := 186) hx hb dX12_rows_132 (by decide) (fun _ => ?_) (fun h => absurd (by decide) h)
  refine lv_iinc (v := 1) (lv' := [(4, .int 1), (5, .int 0), (3, .int 9), (0, .ref q0), (1, .int x0), (2, .int x1)]) hx hb dX12_rows_186 hl (k := 1) rfl (by decide +kernel) (by decide) rfl (fun ls hl => ?_)
  refine lv_goto (tgt := 114) hx hb dX12_rows_189 (by decide) ?_
  refine lv_iload hx hb dX12_rows_114 (lv_at hl 0 rfl) ?_
  refine lv_aload_n hx hb dX12_rows_116 rfl (lv_at hl 3 rfl) ?_
  refine r_get C w 9 rfl fr_X12_322 rfl dX12_rows_117 ?_
  refine lv_icmp_ge (tgt := 192) hx hb dX12_rows_120 (by decide) (fun _ => ?_) (fun h => absurd (by decide) h)
  refine lv_iconst (v := 0) hx hb dX12_rows_192 (by decide) ?_
  refine lv_istore (lv' := [(4, .int 0), (5, .int 0), (3, .int 9), (0, .ref q0), (1, .int x0), (2, .int x1)]) hx hb dX12_rows_193 hl (by decide) rfl (fun ls hl => ?_)
  refine lv_iload hx hb dX12_rows_195 (lv_at hl 0 rfl) ?_
  refine lv_aload_n hx hb dX12_rows_197 rfl (lv_at hl 3 rfl) ?_
  refine r_get C w 9 rfl fr_X12_322 rfl dX12_rows_198 ?_
  refine lv_icmp_ge (tgt := 224) hx hb dX12_rows_201 (by decide) (fun h => absurd h (by decide)) (fun _ => ?_)
  refine lv_aload_n hx hb dX12_rows_204 rfl (lv_at hl 3 rfl) ?_
  refine r_get C w 9 rfl fr_X12_99 rfl dX12_rows_205 ?_
  refine lv_iload hx hb dX12_rows_208 (lv_at hl 0 rfl) ?_
  refine lv_aload_n hx hb dX12_rows_210 rfl (lv_at hl 3 rfl) ?_
  refine r_get C w 9 rfl fr_X12_103 rfl dX12_rows_211 ?_
  refine lv_iload hx hb dX12_rows_214 (lv_at hl 0 rfl) ?_
  refine r_lald C w 1 rfl (IX.of (k := 0) (by decide +kernel)) (v := 0) rfl dX12_rows_216 ?_
  refine r_last C w 0 rfl (IX.of (k := 0) (by decide +kernel)) (g := (vp_updL (vp_updL (vp_updL (vp_updL (vp_updL (vp_updL (vp_updL (vp_updL (vp_updL (vp_updL (vp_updL (fun _ => 0) 0 1) 0 0) 0 0) 0 0) 0 0) 0 0) 0 0) 0 0) 0 0) 0 0) 0 0)) rfl dX12_rows_217 (ws2 := [(q9, .inl (G.2.2.1, 3000, .inr (.inl (vp_updL (vp_updL (vp_updL (vp_updL (vp_updL (vp_updL (vp_updL (vp_updL (vp_updL (vp_updL (vp_updL (fun _ => 0) 0 1) 0 0) 0 0) 0 0) 0 0) 0 0) 0 0) 0 0) 0 0) 0 0) 0 0)))), (q10, .inl (G.2.2.1, 3000, .inr (.inl (fun _ => 0)))), (q1, .inl (G.2.1, 4096, .inl (upd (fun _ => (-1)) 0 0))), (q2, .inl (G.2.1, 57, .inl (fun _ => 0))), (q3, .inl (G.2.1, 8, .inl (fun _ => 0))), (q4, .inl (G.2.1, 24008, .inl (fun _ => 0))), (q5, .inl (G.2.1, 3000, .inl (upd (fun _ => 0) 0 (-1)))), (q6, .inl (G.2.1, 3000, .inl (upd (fun _ => 0) 0 (-1)))), (q7, .inl (G.2.1, 3000, .inl (upd (fun _ => 0) 0 (-1)))), (q0, .inr (12, [.int 0, .int 0, .int 0, .int 0, .int 0, .int 0, .int 0, .int (-1), .ref q11, .ref q8, .ref q12, .int 0, .ref q13, .ref q14, .ref q15, .ref q16, .ref q17, .ref q2, .ref q18, .int 0, .ref q3, .ref q4, .ref q19, .ref q6, .ref q7, .ref q1, .ref q5, .int 1, .int (-1), .int 0, .ref q20, .ref q21, .ref q22, .ref q23, .ref q24, .ref q25, .ref q26, .ref q27, .int 0, .ref q28, .ref q9, .ref q10, .ref q29, .ref q30, .int 0, .ref q31, .ref q32, .ref q33, .ref q34, .int 0, .ref q35, .ref q36, .ref q37, .ref q38, .int 0, .int 0, .ref q39, .ref q40, .ref q41, .ref q42])), (q8, .inl (G.2.1, 242, .inl (fun _ => 0)))]) rfl (fun H locs w => ?_)
  refine lv_iinc (v := 1) (lv' := [(4, .int 1), (5, .int 0), (3, .int 9), (0, .ref q0), (1, .int x0), (2, .int x1)]) hx hb dX12_rows_218 hl (k := 0) rfl (by decide +kernel) (by decide) rfl (fun ls hl => ?_)
  refine lv_goto (tgt := 195) hx hb dX12_rows_221 (by decide) ?_
  refine lv_iload hx hb dX12_rows_195 (lv_at hl 0 rfl) ?_
  refine lv_aload_n hx hb dX12_rows_197 rfl (lv_at hl 3 rfl) ?_
  refine r_get C w 9 rfl fr_X12_322 rfl dX12_rows_198 ?_
  refine lv_icmp_ge (tgt := 224) hx hb dX12_rows_201 (by decide) (fun _ => ?_) (fun h => absurd (by decide) h)
  refine lv_iinc (v := 10) (lv' := [(3, .int 10), (4, .int 1), (5, .int 0), (0, .ref q0), (1, .int x0), (2, .int x1)]) hx hb dX12_rows_224 hl (k := 2) rfl (by decide +kernel) (by decide) rfl (fun ls hl => ?_)
  refine lv_goto (tgt := 80) hx hb dX12_rows_227 (by decide) ?_
  refine lv_iload_n hx hb dX12_rows_80 rfl (lv_at hl 0 rfl) ?_
  refine lv_iload_n hx hb dX12_rows_81 rfl (lv_at hl 5 rfl) ?_
  refine lv_icmp_ge (tgt := 230) hx hb dX12_rows_82 (by decide) (fun _ => ?_) (fun h => absurd (Int32.not_lt.mp h2) h)
  refine lv_lconst (v := 0) hx hb dX12_rows_230 (by decide) ?_
  refine lv_lstore_n (lv' := [(3, .long 0), (5, .int 0), (0, .ref q0), (1, .int x0), (2, .int x1)]) hx hb dX12_rows_231 rfl hl (by decide) rfl (fun ls hl => ?_)
  refine lv_iconst (v := 0) hx hb dX12_rows_232 (by decide) ?_
  refine lv_istore (lv' := [(5, .int 0), (3, .long 0), (0, .ref q0), (1, .int x0), (2, .int x1)]) hx hb dX12_rows_233 hl (by decide) rfl (fun ls hl => ?_)
  refine lv_iload hx hb dX12_rows_235 (lv_at hl 0 rfl) ?_
  refine lv_aload_n hx hb dX12_rows_237 rfl (lv_at hl 2 rfl) ?_
  refine r_get C w 9 rfl fr_X12_322 rfl dX12_rows_238 ?_
  refine lv_icmp_ge (tgt := 260) hx hb dX12_rows_241 (by decide) (fun h => absurd h (by decide)) (fun _ => ?_)
  refine lv_lload_n hx hb dX12_rows_244 rfl (lv_at hl 1 rfl) ?_
  refine lv_aload_n hx hb dX12_rows_245 rfl (lv_at hl 2 rfl) ?_
  refine r_get C w 9 rfl fr_X12_99 rfl dX12_rows_246 ?_
  refine lv_iload hx hb dX12_rows_249 (lv_at hl 0 rfl) ?_
  refine r_lald C w 0 rfl (IX.of (k := 0) (by decide +kernel)) (v := 0) rfl dX12_rows_251 ?_
  refine lv_ladd hx hb dX12_rows_252 ?_
  refine z_l (v := 0) (by decide +kernel) ?_
  refine lv_lstore_n (lv' := [(3, .long 0), (5, .int 0), (0, .ref q0), (1, .int x0), (2, .int x1)]) hx hb dX12_rows_253 rfl hl (by decide) rfl (fun ls hl => ?_)
  refine lv_iinc (v := 1) (lv' := [(5, .int 1), (3, .long 0), (0, .ref q0), (1, .int x0), (2, .int x1)]) hx hb dX12_rows_254 hl (k := 1) rfl (by decide +kernel) (by decide) rfl (fun ls hl => ?_)
  refine lv_goto (tgt := 235) hx hb dX12_rows_257 (by decide) ?_
  refine lv_iload hx hb dX12_rows_235 (lv_at hl 0 rfl) ?_
  refine lv_aload_n hx hb dX12_rows_237 rfl (lv_at hl 2 rfl) ?_
  refine r_get C w 9 rfl fr_X12_322 rfl dX12_rows_238 ?_
  refine lv_icmp_ge (tgt := 260) hx hb dX12_rows_241 (by decide) (fun _ => ?_) (fun h => absurd (by decide) h)
  refine lv_lload_n hx hb dX12_rows_260 rfl (lv_at hl 1 rfl) ?_
  exact e_l C hr w (fun _ => 0) [9, 2, 3, 4, 5, 6, 7, 8, 10, 0, 1] rfl rfl dX12_rows_261 (by decide) (by decide)
set_option maxRecDepth 100000 in
set_option maxHeartbeats 4000000 in
theorem k341_rowsOfLength {l : Launch} {s0 : State} {a0 : Array Value} {G : GT} (b0 : B0 l s0 a0 G) (q0 q1 q2 q3 q4 q5 q6 q7 q8 q9 q10 q11 q12 q13 q14 q15 q16 q17 q18 q19 q20 q21 q22 q23 q24 q25 q26 q27 q28 q29 q30 q31 q32 q33 q34 q35 q36 q37 q38 : Nat) (x0 : Int32) (h0 : 0 < x0) (h1 : 1 < x0) (h2 : 2 < x0) (h3 : 3 < x0) (h4 : 4 < x0) (h5 : 5 < x0) (h6 : 6 < x0) (h7 : 7 < x0) (h8 : 8 < x0) (h9 : ¬ 9 < x0) (sz : Nat) : Kl l s0 G yX6_rowsOfLength cX6_rowsOfLength 5 (some .long) { frames := 2, cells := 0, slots := 0, locals := 50 } [.ref q0, .int x0] [(q0, .inr (6, [.int (-1), .ref q3, .ref q7, .ref q8, .ref q9, .ref q10, .ref q11, .ref q12, .ref q13, .ref q14, .ref q15, .ref q16, .ref q17, .ref q18, .ref q1, .ref q2, .int 0, .int 0, .int 0, .int 0])), (q1, .inl (G.2.2.1, 3008, .inr (.inl (fun _ => 0)))), (q2, .inl (G.2.2.1, 3008, .inr (.inl (fun _ => 0)))), (q3, .inr (1, [.int 0, .ref q6, .ref q19, .ref q4, .ref q5, .ref q20, .ref q21, .ref q22, .int 1])), (q4, .inr (7, [.ref q23, .int 0, .int 1, .int 3008, .ref q24])), (q5, .inl (G.2.1, 3008, .inl (fun _ => 0))), (q6, .inr (2, [.int 0, .int 0, .ref q25, .ref q26, .ref q27, .ref q28, .ref q29, .ref q30, .ref q31, .ref q32, .ref q33, .ref q34, .ref q35, .ref q36, .ref q37, .ref q38, .int 0]))] sz 0 (fun u => [(q0, .inr (6, [.int (-1), .ref q3, .ref q7, .ref q8, .ref q9, .ref q10, .ref q11, .ref q12, .ref q13, .ref q14, .ref q15, .ref q16, .ref q17, .ref q18, .ref q2, .ref q1, .int 0, .int 0, .int 0, .int 0])), (q1, .inl (G.2.2.1, 3008, .inr (.inl (fun _ => 0)))), (q2, .inl (G.2.2.1, 3008, .inr (.inl (fun _ => 0)))), (q3, .inr (1, [.int 0, .ref q6, .ref q19, .ref q4, .ref q5, .ref q20, .ref q21, .ref q22, .int 1])), (q4, .inr (7, [.ref q23, .int 0, .int 1, .int 3008, .ref q24])), (q5, .inl (G.2.1, 3008, .inl (fun _ => 0))), (q6, .inr (2, [.int 0, .int 0, .ref q25, .ref q26, .ref q27, .ref q28, .ref q29, .ref q30, .ref q31, .ref q32, .ref q33, .ref q34, .ref q35, .ref q36, .ref q37, .ref q38, .int 0]))]) := by
  refine Kl.of b0 (own := RX6) (nm := "rowsOfLength") [(0, .ref q0), (1, .int x0)] rfl rfl (by decide +kernel) (Nat.le_of_ble_eq_true rfl) rfl ?_
  intro p e s m below meth c A C hr H locs w ls hl
  have hx := C.hx
  have hb := C.hb
  refine lv_aload_n hx hb dX6_rowsOfLength_0 rfl (lv_at hl 0 rfl) ?_
  refine r_get C w 0 rfl fr_X6_54 rfl dX6_rowsOfLength_1 ?_
  refine lv_lconst (v := 0) hx hb dX6_rowsOfLength_4 (by decide) ?_
  refine fin_v C w (run_S C w ms_X6_142 (k_fillJ C.b0 q1 3008 (by decide) (fun _ => 0) 0 H.size) [1] rfl rfl (by decide) rfl hl.1 rfl (Nat.le_of_ble_eq_true rfl) dX6_rowsOfLength_5 (cells2 := 0) (slots2 := 0) (by decide)) [1] [0, 2, 3, 4, 5, 6] rfl rfl (by decide) (cells2 := 0) (slots2 := 0) (by decide) (fun u1 H locs w => ?_)
  have w : Wd s G A [(q0, .inr (6, [.int (-1), .ref q3, .ref q7, .ref q8, .ref q9, .ref q10, .ref q11, .ref q12, .ref q13, .ref q14, .ref q15, .ref q16, .ref q17, .ref q18, .ref q1, .ref q2, .int 0, .int 0, .int 0, .int 0])), (q2, .inl (G.2.2.1, 3008, .inr (.inl (fun _ => 0)))), (q3, .inr (1, [.int 0, .ref q6, .ref q19, .ref q4, .ref q5, .ref q20, .ref q21, .ref q22, .int 1])), (q4, .inr (7, [.ref q23, .int 0, .int 1, .int 3008, .ref q24])), (q5, .inl (G.2.1, 3008, .inl (fun _ => 0))), (q6, .inr (2, [.int 0, .int 0, .ref q25, .ref q26, .ref q27, .ref q28, .ref q29, .ref q30, .ref q31, .ref q32, .ref q33, .ref q34, .ref q35, .ref q36, .ref q37, .ref q38, .int 0])), (q1, .inl (G.2.2.1, 3008, .inr (.inl (fun _ => 0))))] H locs := w
  refine lv_aload_n hx hb dX6_rowsOfLength_8 rfl (lv_at hl 0 rfl) ?_
  refine r_get C w 0 rfl fr_X6_54 rfl dX6_rowsOfLength_9 ?_
  refine lv_iconst (v := 0) hx hb dX6_rowsOfLength_12 (by decide) ?_
  refine lv_lconst (v := 1) hx hb dX6_rowsOfLength_13 (by decide) ?_
  refine r_last C w 6 rfl (IX.of (k := 0) (by decide +kernel)) (g := (vp_updL (fun _ => 0) 0 1)) rfl dX6_rowsOfLength_14 (ws2 := [(q0, .inr (6, [.int (-1), .ref q3, .ref q7, .ref q8, .ref q9, .ref q10, .ref q11, .ref q12, .ref q13, .ref q14, .ref q15, .ref q16, .ref q17, .ref q18, .ref q1, .ref q2, .int 0, .int 0, .int 0, .int 0])), (q2, .inl (G.2.2.1, 3008, .inr (.inl (fun _ => 0)))), (q3, .inr (1, [.int 0, .ref q6, .ref q19, .ref q4, .ref q5, .ref q20, .ref q21, .ref q22, .int 1])), (q4, .inr (7, [.ref q23, .int 0, .int 1, .int 3008, .ref q24])), (q5, .inl (G.2.1, 3008, .inl (fun _ => 0))), (q6, .inr (2, [.int 0, .int 0, .ref q25, .ref q26, .ref q27, .ref q28, .ref q29, .ref q30, .ref q31, .ref q32, .ref q33, .ref q34, .ref q35, .ref q36, .ref q37, .ref q38, .int 0])), (q1, .inl (G.2.2.1, 3008, .inr (.inl (vp_updL (fun _ => 0) 0 1))))]) rfl (fun H locs w => ?_)
  refine lv_lconst (v := 1) hx hb dX6_rowsOfLength_15 (by decide) ?_
  refine lv_lstore_n (lv' := [(2, .long 1), (0, .ref q0), (1, .int x0)]) hx hb dX6_rowsOfLength_16 rfl hl (by decide) rfl (fun ls hl => ?_)
  refine lv_iconst (v := 0) hx hb dX6_rowsOfLength_17 (by decide) ?_
  refine lv_istore (lv' := [(4, .int 0), (2, .long 1), (0, .ref q0), (1, .int x0)]) hx hb dX6_rowsOfLength_18 hl (by decide) rfl (fun ls hl => ?_)
  refine lv_iload hx hb dX6_rowsOfLength_20 (lv_at hl 0 rfl) ?_
  refine lv_iload_n hx hb dX6_rowsOfLength_22 rfl (lv_at hl 3 rfl) ?_
  refine lv_icmp_ge (tgt := 39) hx hb dX6_rowsOfLength_23 (by decide) (fun h => absurd h (Int32.not_le.mpr h0)) (fun _ => ?_)
  refine lv_aload_n hx hb dX6_rowsOfLength_26 rfl (lv_at hl 2 rfl) ?_
  refine lv_iload hx hb dX6_rowsOfLength_27 (lv_at hl 0 rfl) ?_
  refine fin_l C w (run_V C w mv_X6_145 (k276_lengthen C.b0 q0 q2 q3 q4 q5 q6 q7 q8 q9 q10 q11 q12 q13 q14 q15 q16 q17 q18 q1 q19 q20 q21 q22 q23 q24 q25 q26 q27 q28 q29 q30 q31 q32 q33 q34 q35 q36 q37 q38 H.size) [0, 1, 2, 3, 4, 5] rfl rfl 0 rfl rfl (by decide) rfl hl.1 rfl (Nat.le_of_ble_eq_true rfl) dX6_rowsOfLength_29 (cells2 := 0) (slots2 := 0) (by decide)) [0, 1, 2, 3, 4, 5] [6] rfl rfl (by decide) (cells2 := 0) (slots2 := 0) (by decide) (fun u2 H locs w => ?_)
  have w : Wd s G A [(q1, .inl (G.2.2.1, 3008, .inr (.inl (vp_updL (fun _ => 0) 0 1)))), (q0, .inr (6, [.int (-1), .ref q3, .ref q7, .ref q8, .ref q9, .ref q10, .ref q11, .ref q12, .ref q13, .ref q14, .ref q15, .ref q16, .ref q17, .ref q18, .ref q2, .ref q1, .int 0, .int 0, .int 0, .int 0])), (q2, .inl (G.2.2.1, 3008, .inr (.inl (fun _ => 0)))), (q3, .inr (1, [.int 0, .ref q6, .ref q19, .ref q4, .ref q5, .ref q20, .ref q21, .ref q22, .int 1])), (q4, .inr (7, [.ref q23, .int 0, .int 1, .int 3008, .ref q24])), (q5, .inl (G.2.1, 3008, .inl (fun _ => 0))), (q6, .inr (2, [.int 0, .int 0, .ref q25, .ref q26, .ref q27, .ref q28, .ref q29, .ref q30, .ref q31, .ref q32, .ref q33, .ref q34, .ref q35, .ref q36, .ref q37, .ref q38, .int 0]))] H locs := w
  refine lv_lstore_n (lv' := [(2, .long 0), (4, .int 0), (0, .ref q0), (1, .int x0)]) hx hb dX6_rowsOfLength_32 rfl hl (by decide) rfl (fun ls hl => ?_)
  refine lv_iinc (v := 1) (lv' := [(4, .int 1), (2, .long 0), (0, .ref q0), (1, .int x0)]) hx hb dX6_rowsOfLength_33 hl (k := 1) rfl (by decide +kernel) (by decide) rfl (fun ls hl => ?_)
  refine lv_goto (tgt := 20) hx hb dX6_rowsOfLength_36 (by decide) ?_
  refine lv_iload hx hb dX6_rowsOfLength_20 (lv_at hl 0 rfl) ?_
  refine lv_iload_n hx hb dX6_rowsOfLength_22 rfl (lv_at hl 3 rfl) ?_
  refine lv_icmp_ge (tgt := 39) hx hb dX6_rowsOfLength_23 (by decide) (fun h => absurd h (Int32.not_le.mpr h1)) (fun _ => ?_)
  refine lv_aload_n hx hb dX6_rowsOfLength_26 rfl (lv_at hl 2 rfl) ?_
  refine lv_iload hx hb dX6_rowsOfLength_27 (lv_at hl 0 rfl) ?_
  refine fin_l C w (run_V C w mv_X6_145 (k277_lengthen C.b0 q0 q1 q3 q4 q5 q6 q7 q8 q9 q10 q11 q12 q13 q14 q15 q16 q17 q18 q2 q19 q20 q21 q22 q23 q24 q25 q26 q27 q28 q29 q30 q31 q32 q33 q34 q35 q36 q37 q38 (vp_updL (fun _ => 0) 0 1) H.size) [1, 0, 3, 4, 5, 6] rfl rfl 1 rfl rfl (by decide) rfl hl.1 rfl (Nat.le_of_ble_eq_true rfl) dX6_rowsOfLength_29 (cells2 := 0) (slots2 := 0) (by decide)) [1, 0, 3, 4, 5, 6] [2] rfl rfl (by decide) (cells2 := 0) (slots2 := 0) (by decide) (fun u3 H locs w => ?_)
  have w : Wd s G A [(q2, .inl (G.2.2.1, 3008, .inr (.inl (fun _ => 0)))), (q0, .inr (6, [.int (-1), .ref q3, .ref q7, .ref q8, .ref q9, .ref q10, .ref q11, .ref q12, .ref q13, .ref q14, .ref q15, .ref q16, .ref q17, .ref q18, .ref q1, .ref q2, .int 0, .int 0, .int 0, .int 0])), (q1, .inl (G.2.2.1, 3008, .inr (.inl (fun _ => 0)))), (q3, .inr (1, [.int 0, .ref q6, .ref q19, .ref q4, .ref q5, .ref q20, .ref q21, .ref q22, .int 1])), (q4, .inr (7, [.ref q23, .int 0, .int 1, .int 3008, .ref q24])), (q5, .inl (G.2.1, 3008, .inl (fun _ => 0))), (q6, .inr (2, [.int 0, .int 0, .ref q25, .ref q26, .ref q27, .ref q28, .ref q29, .ref q30, .ref q31, .ref q32, .ref q33, .ref q34, .ref q35, .ref q36, .ref q37, .ref q38, .int 0]))] H locs := w
  refine lv_lstore_n (lv' := [(2, .long 0), (4, .int 1), (0, .ref q0), (1, .int x0)]) hx hb dX6_rowsOfLength_32 rfl hl (by decide) rfl (fun ls hl => ?_)
  refine lv_iinc (v := 2) (lv' := [(4, .int 2), (2, .long 0), (0, .ref q0), (1, .int x0)]) hx hb dX6_rowsOfLength_33 hl (k := 1) rfl (by decide +kernel) (by decide) rfl (fun ls hl => ?_)
  refine lv_goto (tgt := 20) hx hb dX6_rowsOfLength_36 (by decide) ?_
  refine lv_iload hx hb dX6_rowsOfLength_20 (lv_at hl 0 rfl) ?_
  refine lv_iload_n hx hb dX6_rowsOfLength_22 rfl (lv_at hl 3 rfl) ?_
  refine lv_icmp_ge (tgt := 39) hx hb dX6_rowsOfLength_23 (by decide) (fun h => absurd h (Int32.not_le.mpr h2)) (fun _ => ?_)
  refine lv_aload_n hx hb dX6_rowsOfLength_26 rfl (lv_at hl 2 rfl) ?_
  refine lv_iload hx hb dX6_rowsOfLength_27 (lv_at hl 0 rfl) ?_
  refine fin_l C w (run_V C w mv_X6_145 (k278_lengthen C.b0 q0 q2 q3 q4 q5 q6 q7 q8 q9 q10 q11 q12 q13 q14 q15 q16 q17 q18 q1 q19 q20 q21 q22 q23 q24 q25 q26 q27 q28 q29 q30 q31 q32 q33 q34 q35 q36 q37 q38 H.size) [1, 0, 3, 4, 5, 6] rfl rfl 1 rfl rfl (by decide) rfl hl.1 rfl (Nat.le_of_ble_eq_true rfl) dX6_rowsOfLength_29 (cells2 := 0) (slots2 := 0) (by decide)) [1, 0, 3, 4, 5, 6] [2] rfl rfl (by decide) (cells2 := 0) (slots2 := 0) (by decide) (fun u4 H locs w => ?_)
  have w : Wd s G A [(q1, .inl (G.2.2.1, 3008, .inr (.inl (fun _ => 0)))), (q0, .inr (6, [.int (-1), .ref q3, .ref q7, .ref q8, .ref q9, .ref q10, .ref q11, .ref q12, .ref q13, .ref q14, .ref q15, .ref q16, .ref q17, .ref q18, .ref q2, .ref q1, .int 0, .int 0, .int 0, .int 0])), (q2, .inl (G.2.2.1, 3008, .inr (.inl (fun _ => 0)))), (q3, .inr (1, [.int 0, .ref q6, .ref q19, .ref q4, .ref q5, .ref q20, .ref q21, .ref q22, .int 1])), (q4, .inr (7, [.ref q23, .int 0, .int 1, .int 3008, .ref q24])), (q5, .inl (G.2.1, 3008, .inl (fun _ => 0))), (q6, .inr (2, [.int 0, .int 0, .ref q25, .ref q26, .ref q27, .ref q28, .ref q29, .ref q30, .ref q31, .ref q32, .ref q33, .ref q34, .ref q35, .ref q36, .ref q37, .ref q38, .int 0]))] H locs := w
  refine lv_lstore_n (lv' := [(2, .long 0), (4, .int 2), (0, .ref q0), (1, .int x0)]) hx hb dX6_rowsOfLength_32 rfl hl (by decide) rfl (fun ls hl => ?_)
  refine lv_iinc (v := 3) (lv' := [(4, .int 3), (2, .long 0), (0, .ref q0), (1, .int x0)]) hx hb dX6_rowsOfLength_33 hl (k := 1) rfl (by decide +kernel) (by decide) rfl (fun ls hl => ?_)
  refine lv_goto (tgt := 20) hx hb dX6_rowsOfLength_36 (by decide) ?_
  refine lv_iload hx hb dX6_rowsOfLength_20 (lv_at hl 0 rfl) ?_
  refine lv_iload_n hx hb dX6_rowsOfLength_22 rfl (lv_at hl 3 rfl) ?_
  refine lv_icmp_ge (tgt := 39) hx hb dX6_rowsOfLength_23 (by decide) (fun h => absurd h (Int32.not_le.mpr h3)) (fun _ => ?_)
  refine lv_aload_n hx hb dX6_rowsOfLength_26 rfl (lv_at hl 2 rfl) ?_
  refine lv_iload hx hb dX6_rowsOfLength_27 (lv_at hl 0 rfl) ?_
  refine fin_l C w (run_V C w mv_X6_145 (k279_lengthen C.b0 q0 q1 q3 q4 q5 q6 q7 q8 q9 q10 q11 q12 q13 q14 q15 q16 q17 q18 q2 q19 q20 q21 q22 q23 q24 q25 q26 q27 q28 q29 q30 q31 q32 q33 q34 q35 q36 q37 q38 H.size) [1, 0, 3, 4, 5, 6] rfl rfl 1 rfl rfl (by decide) rfl hl.1 rfl (Nat.le_of_ble_eq_true rfl) dX6_rowsOfLength_29 (cells2 := 0) (slots2 := 0) (by decide)) [1, 0, 3, 4, 5, 6] [2] rfl rfl (by decide) (cells2 := 0) (slots2 := 0) (by decide) (fun u5 H locs w => ?_)
  have w : Wd s G A [(q2, .inl (G.2.2.1, 3008, .inr (.inl (fun _ => 0)))), (q0, .inr (6, [.int (-1), .ref q3, .ref q7, .ref q8, .ref q9, .ref q10, .ref q11, .ref q12, .ref q13, .ref q14, .ref q15, .ref q16, .ref q17, .ref q18, .ref q1, .ref q2, .int 0, .int 0, .int 0, .int 0])), (q1, .inl (G.2.2.1, 3008, .inr (.inl (fun _ => 0)))), (q3, .inr (1, [.int 0, .ref q6, .ref q19, .ref q4, .ref q5, .ref q20, .ref q21, .ref q22, .int 1])), (q4, .inr (7, [.ref q23, .int 0, .int 1, .int 3008, .ref q24])), (q5, .inl (G.2.1, 3008, .inl (fun _ => 0))), (q6, .inr (2, [.int 0, .int 0, .ref q25, .ref q26, .ref q27, .ref q28, .ref q29, .ref q30, .ref q31, .ref q32, .ref q33, .ref q34, .ref q35, .ref q36, .ref q37, .ref q38, .int 0]))] H locs := w
  refine lv_lstore_n (lv' := [(2, .long 0), (4, .int 3), (0, .ref q0), (1, .int x0)]) hx hb dX6_rowsOfLength_32 rfl hl (by decide) rfl (fun ls hl => ?_)
  refine lv_iinc (v := 4) (lv' := [(4, .int 4), (2, .long 0), (0, .ref q0), (1, .int x0)]) hx hb dX6_rowsOfLength_33 hl (k := 1) rfl (by decide +kernel) (by decide) rfl (fun ls hl => ?_)
  refine lv_goto (tgt := 20) hx hb dX6_rowsOfLength_36 (by decide) ?_
  refine lv_iload hx hb dX6_rowsOfLength_20 (lv_at hl 0 rfl) ?_
  refine lv_iload_n hx hb dX6_rowsOfLength_22 rfl (lv_at hl 3 rfl) ?_
  refine lv_icmp_ge (tgt := 39) hx hb dX6_rowsOfLength_23 (by decide) (fun h => absurd h (Int32.not_le.mpr h4)) (fun _ => ?_)
  refine lv_aload_n hx hb dX6_rowsOfLength_26 rfl (lv_at hl 2 rfl) ?_
  refine lv_iload hx hb dX6_rowsOfLength_27 (lv_at hl 0 rfl) ?_
  refine fin_l C w (run_V C w mv_X6_145 (k280_lengthen C.b0 q0 q2 q3 q4 q5 q6 q7 q8 q9 q10 q11 q12 q13 q14 q15 q16 q17 q18 q1 q19 q20 q21 q22 q23 q24 q25 q26 q27 q28 q29 q30 q31 q32 q33 q34 q35 q36 q37 q38 H.size) [1, 0, 3, 4, 5, 6] rfl rfl 1 rfl rfl (by decide) rfl hl.1 rfl (Nat.le_of_ble_eq_true rfl) dX6_rowsOfLength_29 (cells2 := 0) (slots2 := 0) (by decide)) [1, 0, 3, 4, 5, 6] [2] rfl rfl (by decide) (cells2 := 0) (slots2 := 0) (by decide) (fun u6 H locs w => ?_)
  have w : Wd s G A [(q1, .inl (G.2.2.1, 3008, .inr (.inl (fun _ => 0)))), (q0, .inr (6, [.int (-1), .ref q3, .ref q7, .ref q8, .ref q9, .ref q10, .ref q11, .ref q12, .ref q13, .ref q14, .ref q15, .ref q16, .ref q17, .ref q18, .ref q2, .ref q1, .int 0, .int 0, .int 0, .int 0])), (q2, .inl (G.2.2.1, 3008, .inr (.inl (fun _ => 0)))), (q3, .inr (1, [.int 0, .ref q6, .ref q19, .ref q4, .ref q5, .ref q20, .ref q21, .ref q22, .int 1])), (q4, .inr (7, [.ref q23, .int 0, .int 1, .int 3008, .ref q24])), (q5, .inl (G.2.1, 3008, .inl (fun _ => 0))), (q6, .inr (2, [.int 0, .int 0, .ref q25, .ref q26, .ref q27, .ref q28, .ref q29, .ref q30, .ref q31, .ref q32, .ref q33, .ref q34, .ref q35, .ref q36, .ref q37, .ref q38, .int 0]))] H locs := w
  refine lv_lstore_n (lv' := [(2, .long 0), (4, .int 4), (0, .ref q0), (1, .int x0)]) hx hb dX6_rowsOfLength_32 rfl hl (by decide) rfl (fun ls hl => ?_)
  refine lv_iinc (v := 5) (lv' := [(4, .int 5), (2, .long 0), (0, .ref q0), (1, .int x0)]) hx hb dX6_rowsOfLength_33 hl (k := 1) rfl (by decide +kernel) (by decide) rfl (fun ls hl => ?_)
  refine lv_goto (tgt := 20) hx hb dX6_rowsOfLength_36 (by decide) ?_
  refine lv_iload hx hb dX6_rowsOfLength_20 (lv_at hl 0 rfl) ?_
  refine lv_iload_n hx hb dX6_rowsOfLength_22 rfl (lv_at hl 3 rfl) ?_
  refine lv_icmp_ge (tgt := 39) hx hb dX6_rowsOfLength_23 (by decide) (fun h => absurd h (Int32.not_le.mpr h5)) (fun _ => ?_)
  refine lv_aload_n hx hb dX6_rowsOfLength_26 rfl (lv_at hl 2 rfl) ?_
  refine lv_iload hx hb dX6_rowsOfLength_27 (lv_at hl 0 rfl) ?_
  refine fin_l C w (run_V C w mv_X6_145 (k281_lengthen C.b0 q0 q1 q3 q4 q5 q6 q7 q8 q9 q10 q11 q12 q13 q14 q15 q16 q17 q18 q2 q19 q20 q21 q22 q23 q24 q25 q26 q27 q28 q29 q30 q31 q32 q33 q34 q35 q36 q37 q38 H.size) [1, 0, 3, 4, 5, 6] rfl rfl 1 rfl rfl (by decide) rfl hl.1 rfl (Nat.le_of_ble_eq_true rfl) dX6_rowsOfLength_29 (cells2 := 0) (slots2 := 0) (by decide)) [1, 0, 3, 4, 5, 6] [2] rfl rfl (by decide) (cells2 := 0) (slots2 := 0) (by decide) (fun u7 H locs w => ?_)
  have w : Wd s G A [(q2, .inl (G.2.2.1, 3008, .inr (.inl (fun _ => 0)))), (q0, .inr (6, [.int (-1), .ref q3, .ref q7, .ref q8, .ref q9, .ref q10, .ref q11, .ref q12, .ref q13, .ref q14, .ref q15, .ref q16, .ref q17, .ref q18, .ref q1, .ref q2, .int 0, .int 0, .int 0, .int 0])), (q1, .inl (G.2.2.1, 3008, .inr (.inl (fun _ => 0)))), (q3, .inr (1, [.int 0, .ref q6, .ref q19, .ref q4, .ref q5, .ref q20, .ref q21, .ref q22, .int 1])), (q4, .inr (7, [.ref q23, .int 0, .int 1, .int 3008, .ref q24])), (q5, .inl (G.2.1, 3008, .inl (fun _ => 0))), (q6, .inr (2, [.int 0, .int 0, .ref q25, .ref q26, .ref q27, .ref q28, .ref q29, .ref q30, .ref q31, .ref q32, .ref q33, .ref q34, .ref q35, .ref q36, .ref q37, .ref q38, .int 0]))] H locs := w
  refine lv_lstore_n (lv' := [(2, .long 0), (4, .int 5), (0, .ref q0), (1, .int x0)]) hx hb dX6_rowsOfLength_32 rfl hl (by decide) rfl (fun ls hl => ?_)
  refine lv_iinc (v := 6) (lv' := [(4, .int 6), (2, .long 0), (0, .ref q0), (1, .int x0)]) hx hb dX6_rowsOfLength_33 hl (k := 1) rfl (by decide +kernel) (by decide) rfl (fun ls hl => ?_)
  refine lv_goto (tgt := 20) hx hb dX6_rowsOfLength_36 (by decide) ?_
  refine lv_iload hx hb dX6_rowsOfLength_20 (lv_at hl 0 rfl) ?_
  refine lv_iload_n hx hb dX6_rowsOfLength_22 rfl (lv_at hl 3 rfl) ?_
  refine lv_icmp_ge (tgt := 39) hx hb dX6_rowsOfLength_23 (by decide) (fun h => absurd h (Int32.not_le.mpr h6)) (fun _ => ?_)
  refine lv_aload_n hx hb dX6_rowsOfLength_26 rfl (lv_at hl 2 rfl) ?_
  refine lv_iload hx hb dX6_rowsOfLength_27 (lv_at hl 0 rfl) ?_
  refine fin_l C w (run_V C w mv_X6_145 (k282_lengthen C.b0 q0 q2 q3 q4 q5 q6 q7 q8 q9 q10 q11 q12 q13 q14 q15 q16 q17 q18 q1 q19 q20 q21 q22 q23 q24 q25 q26 q27 q28 q29 q30 q31 q32 q33 q34 q35 q36 q37 q38 H.size) [1, 0, 3, 4, 5, 6] rfl rfl 1 rfl rfl (by decide) rfl hl.1 rfl (Nat.le_of_ble_eq_true rfl) dX6_rowsOfLength_29 (cells2 := 0) (slots2 := 0) (by decide)) [1, 0, 3, 4, 5, 6] [2] rfl rfl (by decide) (cells2 := 0) (slots2 := 0) (by decide) (fun u8 H locs w => ?_)
  have w : Wd s G A [(q1, .inl (G.2.2.1, 3008, .inr (.inl (fun _ => 0)))), (q0, .inr (6, [.int (-1), .ref q3, .ref q7, .ref q8, .ref q9, .ref q10, .ref q11, .ref q12, .ref q13, .ref q14, .ref q15, .ref q16, .ref q17, .ref q18, .ref q2, .ref q1, .int 0, .int 0, .int 0, .int 0])), (q2, .inl (G.2.2.1, 3008, .inr (.inl (fun _ => 0)))), (q3, .inr (1, [.int 0, .ref q6, .ref q19, .ref q4, .ref q5, .ref q20, .ref q21, .ref q22, .int 1])), (q4, .inr (7, [.ref q23, .int 0, .int 1, .int 3008, .ref q24])), (q5, .inl (G.2.1, 3008, .inl (fun _ => 0))), (q6, .inr (2, [.int 0, .int 0, .ref q25, .ref q26, .ref q27, .ref q28, .ref q29, .ref q30, .ref q31, .ref q32, .ref q33, .ref q34, .ref q35, .ref q36, .ref q37, .ref q38, .int 0]))] H locs := w
  refine lv_lstore_n (lv' := [(2, .long 0), (4, .int 6), (0, .ref q0), (1, .int x0)]) hx hb dX6_rowsOfLength_32 rfl hl (by decide) rfl (fun ls hl => ?_)
  refine lv_iinc (v := 7) (lv' := [(4, .int 7), (2, .long 0), (0, .ref q0), (1, .int x0)]) hx hb dX6_rowsOfLength_33 hl (k := 1) rfl (by decide +kernel) (by decide) rfl (fun ls hl => ?_)
  refine lv_goto (tgt := 20) hx hb dX6_rowsOfLength_36 (by decide) ?_
  refine lv_iload hx hb dX6_rowsOfLength_20 (lv_at hl 0 rfl) ?_
  refine lv_iload_n hx hb dX6_rowsOfLength_22 rfl (lv_at hl 3 rfl) ?_
  refine lv_icmp_ge (tgt := 39) hx hb dX6_rowsOfLength_23 (by decide) (fun h => absurd h (Int32.not_le.mpr h7)) (fun _ => ?_)
  refine lv_aload_n hx hb dX6_rowsOfLength_26 rfl (lv_at hl 2 rfl) ?_
  refine lv_iload hx hb dX6_rowsOfLength_27 (lv_at hl 0 rfl) ?_
  refine fin_l C w (run_V C w mv_X6_145 (k283_lengthen C.b0 q0 q1 q3 q4 q5 q6 q7 q8 q9 q10 q11 q12 q13 q14 q15 q16 q17 q18 q2 q19 q20 q21 q22 q23 q24 q25 q26 q27 q28 q29 q30 q31 q32 q33 q34 q35 q36 q37 q38 H.size) [1, 0, 3, 4, 5, 6] rfl rfl 1 rfl rfl (by decide) rfl hl.1 rfl (Nat.le_of_ble_eq_true rfl) dX6_rowsOfLength_29 (cells2 := 0) (slots2 := 0) (by decide)) [1, 0, 3, 4, 5, 6] [2] rfl rfl (by decide) (cells2 := 0) (slots2 := 0) (by decide) (fun u9 H locs w => ?_)
  have w : Wd s G A [(q2, .inl (G.2.2.1, 3008, .inr (.inl (fun _ => 0)))), (q0, .inr (6, [.int (-1), .ref q3, .ref q7, .ref q8, .ref q9, .ref q10, .ref q11, .ref q12, .ref q13, .ref q14, .ref q15, .ref q16, .ref q17, .ref q18, .ref q1, .ref q2, .int 0, .int 0, .int 0, .int 0])), (q1, .inl (G.2.2.1, 3008, .inr (.inl (fun _ => 0)))), (q3, .inr (1, [.int 0, .ref q6, .ref q19, .ref q4, .ref q5, .ref q20, .ref q21, .ref q22, .int 1])), (q4, .inr (7, [.ref q23, .int 0, .int 1, .int 3008, .ref q24])), (q5, .inl (G.2.1, 3008, .inl (fun _ => 0))), (q6, .inr (2, [.int 0, .int 0, .ref q25, .ref q26, .ref q27, .ref q28, .ref q29, .ref q30, .ref q31, .ref q32, .ref q33, .ref q34, .ref q35, .ref q36, .ref q37, .ref q38, .int 0]))] H locs := w
  refine lv_lstore_n (lv' := [(2, .long 0), (4, .int 7), (0, .ref q0), (1, .int x0)]) hx hb dX6_rowsOfLength_32 rfl hl (by decide) rfl (fun ls hl => ?_)
  refine lv_iinc (v := 8) (lv' := [(4, .int 8), (2, .long 0), (0, .ref q0), (1, .int x0)]) hx hb dX6_rowsOfLength_33 hl (k := 1) rfl (by decide +kernel) (by decide) rfl (fun ls hl => ?_)
  refine lv_goto (tgt := 20) hx hb dX6_rowsOfLength_36 (by decide) ?_
  refine lv_iload hx hb dX6_rowsOfLength_20 (lv_at hl 0 rfl) ?_
  refine lv_iload_n hx hb dX6_rowsOfLength_22 rfl (lv_at hl 3 rfl) ?_
  refine lv_icmp_ge (tgt := 39) hx hb dX6_rowsOfLength_23 (by decide) (fun h => absurd h (Int32.not_le.mpr h8)) (fun _ => ?_)
  refine lv_aload_n hx hb dX6_rowsOfLength_26 rfl (lv_at hl 2 rfl) ?_
  refine lv_iload hx hb dX6_rowsOfLength_27 (lv_at hl 0 rfl) ?_
  refine fin_l C w (run_V C w mv_X6_145 (k284_lengthen C.b0 q0 q2 q3 q4 q5 q6 q7 q8 q9 q10 q11 q12 q13 q14 q15 q16 q17 q18 q1 q19 q20 q21 q22 q23 q24 q25 q26 q27 q28 q29 q30 q31 q32 q33 q34 q35 q36 q37 q38 H.size) [1, 0, 3, 4, 5, 6] rfl rfl 1 rfl rfl (by decide) rfl hl.1 rfl (Nat.le_of_ble_eq_true rfl) dX6_rowsOfLength_29 (cells2 := 0) (slots2 := 0) (by decide)) [1, 0, 3, 4, 5, 6] [2] rfl rfl (by decide) (cells2 := 0) (slots2 := 0) (by decide) (fun u10 H locs w => ?_)
  have w : Wd s G A [(q1, .inl (G.2.2.1, 3008, .inr (.inl (fun _ => 0)))), (q0, .inr (6, [.int (-1), .ref q3, .ref q7, .ref q8, .ref q9, .ref q10, .ref q11, .ref q12, .ref q13, .ref q14, .ref q15, .ref q16, .ref q17, .ref q18, .ref q2, .ref q1, .int 0, .int 0, .int 0, .int 0])), (q2, .inl (G.2.2.1, 3008, .inr (.inl (fun _ => 0)))), (q3, .inr (1, [.int 0, .ref q6, .ref q19, .ref q4, .ref q5, .ref q20, .ref q21, .ref q22, .int 1])), (q4, .inr (7, [.ref q23, .int 0, .int 1, .int 3008, .ref q24])), (q5, .inl (G.2.1, 3008, .inl (fun _ => 0))), (q6, .inr (2, [.int 0, .int 0, .ref q25, .ref q26, .ref q27, .ref q28, .ref q29, .ref q30, .ref q31, .ref q32, .ref q33, .ref q34, .ref q35, .ref q36, .ref q37, .ref q38, .int 0]))] H locs := w
  refine lv_lstore_n (lv' := [(2, .long 0), (4, .int 8), (0, .ref q0), (1, .int x0)]) hx hb dX6_rowsOfLength_32 rfl hl (by decide) rfl (fun ls hl => ?_)
  refine lv_iinc (v := 9) (lv' := [(4, .int 9), (2, .long 0), (0, .ref q0), (1, .int x0)]) hx hb dX6_rowsOfLength_33 hl (k := 1) rfl (by decide +kernel) (by decide) rfl (fun ls hl => ?_)
  refine lv_goto (tgt := 20) hx hb dX6_rowsOfLength_36 (by decide) ?_
  refine lv_iload hx hb dX6_rowsOfLength_20 (lv_at hl 0 rfl) ?_
  refine lv_iload_n hx hb dX6_rowsOfLength_22 rfl (lv_at hl 3 rfl) ?_
  refine lv_icmp_ge (tgt := 39) hx hb dX6_rowsOfLength_23 (by decide) (fun _ => ?_) (fun h => absurd (Int32.not_lt.mp h9) h)
  refine lv_lload_n hx hb dX6_rowsOfLength_39 rfl (lv_at hl 1 rfl) ?_
  exact e_l C hr w (fun _ => 0) [1, 0, 2, 3, 4, 5, 6] rfl rfl dX6_rowsOfLength_40 (by decide) (by decide)
set_option maxRecDepth 100000 in
set_option maxHeartbeats 4000000 in
theorem k342_rows {l : Launch} {s0 : State} {a0 : Array Value} {G : GT} (b0 : B0 l s0 a0 G) (q0 q1 q2 q3 q4 q5 q6 q7 q8 q9 q10 q11 q12 q13 q14 q15 q16 q17 q18 q19 q20 q21 q22 q23 q24 q25 q26 q27 : Nat) (x0 : Int32) (x1 : Int32) (h0 : 0 < x1) (h1 : 1 < x1) (h2 : 2 < x1) (h3 : ¬ 20 < x1) (h4 : 3 < x1) (h5 : ¬ 3000 < x0) (h6 : 4 < x1) (h7 : 5 < x1) (h8 : 6 < x1) (h9 : 7 < x1) (h10 : 8 < x1) (h11 : ¬ 9 < x1) (h12 : ¬ x0 < 1) (h13 : ¬ x1 < 0) (sz : Nat) : Kl l s0 G yX11_rows cX11_rows 4 (some .long) { frames := 4, cells := 24, slots := 104590, locals := 168 } [.ref q0, .int x0, .int x1] [(q0, .inr (11, [.ref q4, .ref q5, .ref q1, .ref q6, .ref q7, .ref q8, .ref q9, .ref q10, .ref q2, .ref q11, .int 0, .int (-1), .int 0, .int 0, .null, .null, .null, .null, .null])), (q1, .inr (5, [.ref q3, .ref q12, .ref q13, .int 0])), (q2, .inr (2, [.int 0, .int 0, .ref q14, .ref q15, .ref q16, .ref q17, .ref q18, .ref q19, .ref q20, .ref q21, .ref q22, .ref q23, .ref q24, .ref q25, .ref q26, .ref q27, .int 0])), (q3, .inl (G.2.1, 8, .inl (fun _ => 0)))] sz 0 (fun u => [(q0, .inr (11, [.ref q4, .ref q5, .ref q1, .ref q6, .ref q7, .ref q8, .ref q9, .ref q10, .ref q2, .ref q11, .int 0, .int (-1), .int 0, .int 0, .ref (u 0), .ref (u 9), .null, .null, .null])), (q1, .inr (5, [.ref q3, .ref q12, .ref q13, .int 0])), (q2, .inr (2, [.int 0, .int 0, .ref q14, .ref q15, .ref q16, .ref q17, .ref q18, .ref q19, .ref q20, .ref q21, .ref q22, .ref q23, .ref q24, .ref q25, .ref q26, .ref q27, .int 0])), (q3, .inl (G.2.1, 8, .inl (fun _ => 0))), ((u 0), .inr (1, [.int 0, .ref q2, .ref (u 1), .ref (u 2), .ref (u 5), .ref (u 6), .ref (u 7), .ref (u 8), .int 1])), ((u 1), .inl (G.2.1, 24064, .inl (fun _ => 0))), ((u 2), .inr (7, [.ref (u 3), .int 0, .int 1, .int 3008, .ref (u 4)])), ((u 3), .inl (G.2.1, 24064, .inl (fun _ => 0))), ((u 4), .inl (G.2.1, 8192, .inl (upd (fun _ => (-1)) 7 0))), ((u 5), .inl (G.2.1, 3008, .inl (fun _ => 0))), ((u 6), .inl (G.2.1, 3008, .inl (upd (fun _ => 0) 0 (-1)))), ((u 7), .inl (G.2.1, 3008, .inl (upd (fun _ => 0) 0 (-1)))), ((u 8), .inl (G.2.1, 8, .inl (fun _ => 0))), ((u 9), .inr (6, [.int (-1), .ref (u 0), .ref (u 10), .ref (u 11), .ref (u 12), .ref (u 13), .ref (u 14), .ref (u 15), .ref (u 16), .ref (u 17), .ref (u 18), .ref (u 19), .ref (u 20), .ref (u 21), .ref (u 23), .ref (u 22), .int 0, .int 0, .int 0, .int 0])), ((u 10), .inl (G.2.1, 3008, .inl (fun _ => 0))), ((u 11), .inl (G.2.1, 3008, .inl (fun _ => 0))), ((u 12), .inl (G.2.1, 3008, .inl (fun _ => 0))), ((u 13), .inl (G.2.1, 3008, .inl (fun _ => 0))), ((u 14), .inl (G.2.1, 3008, .inl (fun _ => 0))), ((u 15), .inl (G.2.1, 3008, .inl (fun _ => 0))), ((u 16), .inl (G.2.1, 3008, .inl (fun _ => 0))), ((u 17), .inl (G.2.1, 3008, .inl (fun _ => 0))), ((u 18), .inl (G.2.1, 3008, .inl (fun _ => 0))), ((u 19), .inl (G.2.1, 3008, .inl (fun _ => 0))), ((u 20), .inl (G.2.1, 3008, .inl (fun _ => 0))), ((u 21), .inl (G.2.1, 100, .inl (fun _ => 0))), ((u 22), .inl (G.2.2.1, 3008, .inr (.inl (fun _ => 0)))), ((u 23), .inl (G.2.2.1, 3008, .inr (.inl (fun _ => 0))))]) := by
  refine Kl.of b0 (own := RX11) (nm := "rows") [(0, .ref q0), (1, .int x0), (2, .int x1)] rfl rfl (by decide +kernel) (Nat.le_of_ble_eq_true rfl) rfl ?_
  intro p e s m below meth c A C hr H locs w ls hl
  have hx := C.hx
  have hb := C.hb
  refine lv_iload_n hx hb dX11_rows_0 rfl (lv_at hl 1 rfl) ?_
  refine fin_v C w (run_S C w ms_X11_161 (k106_needMost C.b0 x0 h5 h12 H.size) [] rfl rfl (by decide) rfl hl.1 rfl (Nat.le_of_ble_eq_true rfl) dX11_rows_1 (cells2 := 0) (slots2 := 0) (by decide)) [] [0, 1, 2, 3] rfl rfl (by decide) (cells2 := 0) (slots2 := 0) (by decide) (fun u1 H locs w => ?_)
  have w : Wd s G A [(q0, .inr (11, [.ref q4, .ref q5, .ref q1, .ref q6, .ref q7, .ref q8, .ref q9, .ref q10, .ref q2, .ref q11, .int 0, .int (-1), .int 0, .int 0, .null, .null, .null, .null, .null])), (q1, .inr (5, [.ref q3, .ref q12, .ref q13, .int 0])), (q2, .inr (2, [.int 0, .int 0, .ref q14, .ref q15, .ref q16, .ref q17, .ref q18, .ref q19, .ref q20, .ref q21, .ref q22, .ref q23, .ref q24, .ref q25, .ref q26, .ref q27, .int 0])), (q3, .inl (G.2.1, 8, .inl (fun _ => 0)))] H locs := w
  refine lv_iload_n hx hb dX11_rows_4 rfl (lv_at hl 2 rfl) ?_
  refine lv_iconst (v := 0) hx hb dX11_rows_5 (by decide) ?_
  refine lv_bipush (v := 20) hx hb dX11_rows_6 (by decide) ?_
  refine fin_v C w (run_S C w ms_X11_72 (k275_needWithin C.b0 x1 h3 h13 H.size) [] rfl rfl (by decide) rfl hl.1 rfl (Nat.le_of_ble_eq_true rfl) dX11_rows_8 (cells2 := 0) (slots2 := 0) (by decide)) [] [0, 1, 2, 3] rfl rfl (by decide) (cells2 := 0) (slots2 := 0) (by decide) (fun u2 H locs w => ?_)
  have w : Wd s G A [(q0, .inr (11, [.ref q4, .ref q5, .ref q1, .ref q6, .ref q7, .ref q8, .ref q9, .ref q10, .ref q2, .ref q11, .int 0, .int (-1), .int 0, .int 0, .null, .null, .null, .null, .null])), (q1, .inr (5, [.ref q3, .ref q12, .ref q13, .int 0])), (q2, .inr (2, [.int 0, .int 0, .ref q14, .ref q15, .ref q16, .ref q17, .ref q18, .ref q19, .ref q20, .ref q21, .ref q22, .ref q23, .ref q24, .ref q25, .ref q26, .ref q27, .int 0])), (q3, .inl (G.2.1, 8, .inl (fun _ => 0)))] H locs := w
  refine lv_aload_n hx hb dX11_rows_11 rfl (lv_at hl 0 rfl) ?_
  refine lv_iload_n hx hb dX11_rows_12 rfl (lv_at hl 1 rfl) ?_
  refine fin_r C w (run_V C w mv_X11_164 (k114_explored C.b0 q0 q1 q2 q3 q4 q5 q6 q7 q8 q9 q10 q11 q12 q13 q14 q15 q16 q17 q18 q19 q20 q21 q22 q23 q24 q25 q26 q27 x0 h12 H.size) [0, 1, 2, 3] rfl rfl 0 rfl rfl (by decide) rfl hl.1 rfl (Nat.le_of_ble_eq_true rfl) dX11_rows_13 (cells2 := 9) (slots2 := 65366) (by decide)) [0, 1, 2, 3] [] rfl rfl (by decide) (cells2 := 9) (slots2 := 65366) (by decide) (fun u3 H locs w => ?_)
  have w : Wd s G A [(q0, .inr (11, [.ref q4, .ref q5, .ref q1, .ref q6, .ref q7, .ref q8, .ref q9, .ref q10, .ref q2, .ref q11, .int 0, .int (-1), .int 0, .int 0, .ref (u3 0), .null, .null, .null, .null])), (q1, .inr (5, [.ref q3, .ref q12, .ref q13, .int 0])), (q2, .inr (2, [.int 0, .int 0, .ref q14, .ref q15, .ref q16, .ref q17, .ref q18, .ref q19, .ref q20, .ref q21, .ref q22, .ref q23, .ref q24, .ref q25, .ref q26, .ref q27, .int 0])), (q3, .inl (G.2.1, 8, .inl (fun _ => 0))), ((u3 0), .inr (1, [.int 0, .ref q2, .ref (u3 1), .ref (u3 2), .ref (u3 5), .ref (u3 6), .ref (u3 7), .ref (u3 8), .int 1])), ((u3 1), .inl (G.2.1, 24064, .inl (fun _ => 0))), ((u3 2), .inr (7, [.ref (u3 3), .int 0, .int 1, .int 3008, .ref (u3 4)])), ((u3 3), .inl (G.2.1, 24064, .inl (fun _ => 0))), ((u3 4), .inl (G.2.1, 8192, .inl (upd (fun _ => (-1)) 7 0))), ((u3 5), .inl (G.2.1, 3008, .inl (fun _ => 0))), ((u3 6), .inl (G.2.1, 3008, .inl (upd (fun _ => 0) 0 (-1)))), ((u3 7), .inl (G.2.1, 3008, .inl (upd (fun _ => 0) 0 (-1)))), ((u3 8), .inl (G.2.1, 8, .inl (fun _ => 0)))] H locs := w
  refine lv_astore_n (lv' := [(3, .ref (u3 0)), (0, .ref q0), (1, .int x0), (2, .int x1)]) hx hb dX11_rows_16 rfl hl (by decide) rfl (fun ls hl => ?_)
  refine lv_aload_n hx hb dX11_rows_17 rfl (lv_at hl 0 rfl) ?_
  refine lv_iload_n hx hb dX11_rows_18 rfl (lv_at hl 2 rfl) ?_
  refine fin_i C w (run_V C w mv_X11_168 (k115_isBeyond C.b0 (u3 0) (u3 2) q2 (u3 1) (u3 5) (u3 6) (u3 7) (u3 8) (u3 3) (u3 4) x0 h12 H.size) [4, 6] rfl rfl 4 rfl rfl (by decide) rfl hl.1 rfl (Nat.le_of_ble_eq_true rfl) dX11_rows_19 (cells2 := 9) (slots2 := 65366) (by decide)) [4, 6] [0, 1, 2, 3, 5, 7, 8, 9, 10, 11, 12] rfl rfl (by decide) (cells2 := 9) (slots2 := 65366) (by decide) (fun u4 H locs w => ?_)
  have w : Wd s G A [(q0, .inr (11, [.ref q4, .ref q5, .ref q1, .ref q6, .ref q7, .ref q8, .ref q9, .ref q10, .ref q2, .ref q11, .int 0, .int (-1), .int 0, .int 0, .ref (u3 0), .null, .null, .null, .null])), (q1, .inr (5, [.ref q3, .ref q12, .ref q13, .int 0])), (q2, .inr (2, [.int 0, .int 0, .ref q14, .ref q15, .ref q16, .ref q17, .ref q18, .ref q19, .ref q20, .ref q21, .ref q22, .ref q23, .ref q24, .ref q25, .ref q26, .ref q27, .int 0])), (q3, .inl (G.2.1, 8, .inl (fun _ => 0))), ((u3 1), .inl (G.2.1, 24064, .inl (fun _ => 0))), ((u3 3), .inl (G.2.1, 24064, .inl (fun _ => 0))), ((u3 4), .inl (G.2.1, 8192, .inl (upd (fun _ => (-1)) 7 0))), ((u3 5), .inl (G.2.1, 3008, .inl (fun _ => 0))), ((u3 6), .inl (G.2.1, 3008, .inl (upd (fun _ => 0) 0 (-1)))), ((u3 7), .inl (G.2.1, 3008, .inl (upd (fun _ => 0) 0 (-1)))), ((u3 8), .inl (G.2.1, 8, .inl (fun _ => 0))), ((u3 0), .inr (1, [.int 0, .ref q2, .ref (u3 1), .ref (u3 2), .ref (u3 5), .ref (u3 6), .ref (u3 7), .ref (u3 8), .int 1])), ((u3 2), .inr (7, [.ref (u3 3), .int 0, .int 1, .int 3008, .ref (u3 4)]))] H locs := w
  refine lv_if_eq (tgt := 31) hx hb dX11_rows_22 (by decide) (fun _ => ?_) (fun h => absurd (by decide) h)
  refine lv_aload_n hx hb dX11_rows_31 rfl (lv_at hl 1 rfl) ?_
  refine lv_aload_n hx hb dX11_rows_32 rfl (lv_at hl 0 rfl) ?_
  refine fin_r C w (run_V C w mv_X11_215 (k167_studied C.b0 q0 (u3 0) q4 q5 q1 q6 q7 q8 q9 q10 q2 q11 H.size) [0] rfl rfl 0 rfl rfl (by decide) rfl hl.1 rfl (Nat.le_of_ble_eq_true rfl) dX11_rows_33 (cells2 := 24) (slots2 := 104590) (by decide)) [0] [1, 2, 3, 4, 5, 6, 7, 8, 9, 10, 11, 12] rfl rfl (by decide) (cells2 := 24) (slots2 := 104590) (by decide) (fun u5 H locs w => ?_)
  have w : Wd s G A [(q1, .inr (5, [.ref q3, .ref q12, .ref q13, .int 0])), (q2, .inr (2, [.int 0, .int 0, .ref q14, .ref q15, .ref q16, .ref q17, .ref q18, .ref q19, .ref q20, .ref q21, .ref q22, .ref q23, .ref q24, .ref q25, .ref q26, .ref q27, .int 0])), (q3, .inl (G.2.1, 8, .inl (fun _ => 0))), ((u3 1), .inl (G.2.1, 24064, .inl (fun _ => 0))), ((u3 3), .inl (G.2.1, 24064, .inl (fun _ => 0))), ((u3 4), .inl (G.2.1, 8192, .inl (upd (fun _ => (-1)) 7 0))), ((u3 5), .inl (G.2.1, 3008, .inl (fun _ => 0))), ((u3 6), .inl (G.2.1, 3008, .inl (upd (fun _ => 0) 0 (-1)))), ((u3 7), .inl (G.2.1, 3008, .inl (upd (fun _ => 0) 0 (-1)))), ((u3 8), .inl (G.2.1, 8, .inl (fun _ => 0))), ((u3 0), .inr (1, [.int 0, .ref q2, .ref (u3 1), .ref (u3 2), .ref (u3 5), .ref (u3 6), .ref (u3 7), .ref (u3 8), .int 1])), ((u3 2), .inr (7, [.ref (u3 3), .int 0, .int 1, .int 3008, .ref (u3 4)])), (q0, .inr (11, [.ref q4, .ref q5, .ref q1, .ref q6, .ref q7, .ref q8, .ref q9, .ref q10, .ref q2, .ref q11, .int 0, .int (-1), .int 0, .int 0, .ref (u3 0), .ref (u5 0), .null, .null, .null])), ((u5 0), .inr (6, [.int (-1), .ref (u3 0), .ref (u5 1), .ref (u5 2), .ref (u5 3), .ref (u5 4), .ref (u5 5), .ref (u5 6), .ref (u5 7), .ref (u5 8), .ref (u5 9), .ref (u5 10), .ref (u5 11), .ref (u5 12), .ref (u5 13), .ref (u5 14), .int 0, .int 0, .int 0, .int 0])), ((u5 1), .inl (G.2.1, 3008, .inl (fun _ => 0))), ((u5 2), .inl (G.2.1, 3008, .inl (fun _ => 0))), ((u5 3), .inl (G.2.1, 3008, .inl (fun _ => 0))), ((u5 4), .inl (G.2.1, 3008, .inl (fun _ => 0))), ((u5 5), .inl (G.2.1, 3008, .inl (fun _ => 0))), ((u5 6), .inl (G.2.1, 3008, .inl (fun _ => 0))), ((u5 7), .inl (G.2.1, 3008, .inl (fun _ => 0))), ((u5 8), .inl (G.2.1, 3008, .inl (fun _ => 0))), ((u5 9), .inl (G.2.1, 3008, .inl (fun _ => 0))), ((u5 10), .inl (G.2.1, 3008, .inl (fun _ => 0))), ((u5 11), .inl (G.2.1, 3008, .inl (fun _ => 0))), ((u5 12), .inl (G.2.1, 100, .inl (fun _ => 0))), ((u5 13), .inl (G.2.2.1, 3008, .inr (.inl (fun _ => 0)))), ((u5 14), .inl (G.2.2.1, 3008, .inr (.inl (fun _ => 0))))] H locs := w
  refine lv_iload_n hx hb dX11_rows_36 rfl (lv_at hl 3 rfl) ?_
  refine fin_l C w (run_V C w mv_X11_224 (k341_rowsOfLength C.b0 (u5 0) (u5 13) (u5 14) (u3 0) (u3 2) (u3 5) q2 (u5 1) (u5 2) (u5 3) (u5 4) (u5 5) (u5 6) (u5 7) (u5 8) (u5 9) (u5 10) (u5 11) (u5 12) (u3 1) (u3 6) (u3 7) (u3 8) (u3 3) (u3 4) q14 q15 q16 q17 q18 q19 q20 q21 q22 q23 q24 q25 q26 q27 x1 h0 h1 h2 h4 h6 h7 h8 h9 h10 h11 H.size) [13, 26, 27, 10, 11, 6, 1] rfl rfl 13 rfl rfl (by decide) rfl hl.1 rfl (Nat.le_of_ble_eq_true rfl) dX11_rows_37 (cells2 := 24) (slots2 := 104590) (by decide)) [13, 26, 27, 10, 11, 6, 1] [0, 2, 3, 4, 5, 7, 8, 9, 12, 14, 15, 16, 17, 18, 19, 20, 21, 22, 23, 24, 25] rfl rfl (by decide) (cells2 := 24) (slots2 := 104590) (by decide) (fun u6 H locs w => ?_)
  have w : Wd s G A [(q1, .inr (5, [.ref q3, .ref q12, .ref q13, .int 0])), (q3, .inl (G.2.1, 8, .inl (fun _ => 0))), ((u3 1), .inl (G.2.1, 24064, .inl (fun _ => 0))), ((u3 3), .inl (G.2.1, 24064, .inl (fun _ => 0))), ((u3 4), .inl (G.2.1, 8192, .inl (upd (fun _ => (-1)) 7 0))), ((u3 6), .inl (G.2.1, 3008, .inl (upd (fun _ => 0) 0 (-1)))), ((u3 7), .inl (G.2.1, 3008, .inl (upd (fun _ => 0) 0 (-1)))), ((u3 8), .inl (G.2.1, 8, .inl (fun _ => 0))), (q0, .inr (11, [.ref q4, .ref q5, .ref q1, .ref q6, .ref q7, .ref q8, .ref q9, .ref q10, .ref q2, .ref q11, .int 0, .int (-1), .int 0, .int 0, .ref (u3 0), .ref (u5 0), .null, .null, .null])), ((u5 1), .inl (G.2.1, 3008, .inl (fun _ => 0))), ((u5 2), .inl (G.2.1, 3008, .inl (fun _ => 0))), ((u5 3), .inl (G.2.1, 3008, .inl (fun _ => 0))), ((u5 4), .inl (G.2.1, 3008, .inl (fun _ => 0))), ((u5 5), .inl (G.2.1, 3008, .inl (fun _ => 0))), ((u5 6), .inl (G.2.1, 3008, .inl (fun _ => 0))), ((u5 7), .inl (G.2.1, 3008, .inl (fun _ => 0))), ((u5 8), .inl (G.2.1, 3008, .inl (fun _ => 0))), ((u5 9), .inl (G.2.1, 3008, .inl (fun _ => 0))), ((u5 10), .inl (G.2.1, 3008, .inl (fun _ => 0))), ((u5 11), .inl (G.2.1, 3008, .inl (fun _ => 0))), ((u5 12), .inl (G.2.1, 100, .inl (fun _ => 0))), ((u5 0), .inr (6, [.int (-1), .ref (u3 0), .ref (u5 1), .ref (u5 2), .ref (u5 3), .ref (u5 4), .ref (u5 5), .ref (u5 6), .ref (u5 7), .ref (u5 8), .ref (u5 9), .ref (u5 10), .ref (u5 11), .ref (u5 12), .ref (u5 14), .ref (u5 13), .int 0, .int 0, .int 0, .int 0])), ((u5 13), .inl (G.2.2.1, 3008, .inr (.inl (fun _ => 0)))), ((u5 14), .inl (G.2.2.1, 3008, .inr (.inl (fun _ => 0)))), ((u3 0), .inr (1, [.int 0, .ref q2, .ref (u3 1), .ref (u3 2), .ref (u3 5), .ref (u3 6), .ref (u3 7), .ref (u3 8), .int 1])), ((u3 2), .inr (7, [.ref (u3 3), .int 0, .int 1, .int 3008, .ref (u3 4)])), ((u3 5), .inl (G.2.1, 3008, .inl (fun _ => 0))), (q2, .inr (2, [.int 0, .int 0, .ref q14, .ref q15, .ref q16, .ref q17, .ref q18, .ref q19, .ref q20, .ref q21, .ref q22, .ref q23, .ref q24, .ref q25, .ref q26, .ref q27, .int 0]))] H locs := w
  exact e_l C hr w (fun k => [(u3 0), (u3 1), (u3 2), (u3 3), (u3 4), (u3 5), (u3 6), (u3 7), (u3 8), (u5 0), (u5 1), (u5 2), (u5 3), (u5 4), (u5 5), (u5 6), (u5 7), (u5 8), (u5 9), (u5 10), (u5 11), (u5 12), (u5 13), (u5 14)].getD k 0) [8, 0, 27, 1, 24, 2, 25, 3, 4, 26, 5, 6, 7, 21, 9, 10, 11, 12, 13, 14, 15, 16, 17, 18, 19, 20, 22, 23] rfl rfl dX11_rows_40 (by decide) (by decide)
set_option maxRecDepth 100000 in
set_option maxHeartbeats 4000000 in
theorem k343_rows {l : Launch} {s0 : State} {a0 : Array Value} {G : GT} (b0 : B0 l s0 a0 G) (q0 q1 q2 q3 q4 q5 q6 q7 q8 q9 q10 q11 q12 q13 q14 q15 q16 q17 q18 q19 q20 q21 q22 q23 q24 q25 q26 q27 q28 : Nat) (x0 : Int32) (x1 : Int32) (h0 : 0 < x1) (h1 : 1 < x1) (h2 : 2 < x1) (h3 : ¬ 20 < x1) (h4 : 3 < x1) (h5 : ¬ 3000 < x0) (h6 : 4 < x1) (h7 : 5 < x1) (h8 : 6 < x1) (h9 : 7 < x1) (h10 : 8 < x1) (h11 : ¬ 9 < x1) (h12 : ¬ x0 < 1) (h13 : ¬ x1 < 0) (sz : Nat) : Kh l s0 G yL_rows cL_rows 5 (some .int) [(0, 9, 12, 13)] { frames := 5, cells := 24, slots := 104590, locals := 191 } [.ref q0, .int x0, .int x1, .ref q4] [(q0, .inr (11, [.ref q5, .ref q6, .ref q1, .ref q7, .ref q8, .ref q9, .ref q10, .ref q11, .ref q2, .ref q12, .int 0, .int (-1), .int 0, .int 0, .null, .null, .null, .null, .null])), (q1, .inr (5, [.ref q3, .ref q13, .ref q14, .int 0])), (q2, .inr (2, [.int 0, .int 0, .ref q15, .ref q16, .ref q17, .ref q18, .ref q19, .ref q20, .ref q21, .ref q22, .ref q23, .ref q24, .ref q25, .ref q26, .ref q27, .ref q28, .int 0])), (q3, .inl (G.2.1, 8, .inl (fun _ => 0))), (q4, .inl (G.2.2.1, 1, .inr (.inl (fun _ => 0))))] sz 0 (fun u => [(q0, .inr (11, [.ref q5, .ref q6, .ref q1, .ref q7, .ref q8, .ref q9, .ref q10, .ref q11, .ref q2, .ref q12, .int 0, .int (-1), .int 0, .int 0, .ref (u 0), .ref (u 9), .null, .null, .null])), (q1, .inr (5, [.ref q3, .ref q13, .ref q14, .int 0])), (q2, .inr (2, [.int 0, .int 0, .ref q15, .ref q16, .ref q17, .ref q18, .ref q19, .ref q20, .ref q21, .ref q22, .ref q23, .ref q24, .ref q25, .ref q26, .ref q27, .ref q28, .int 0])), (q3, .inl (G.2.1, 8, .inl (fun _ => 0))), (q4, .inl (G.2.2.1, 1, .inr (.inl (fun _ => 0)))), ((u 0), .inr (1, [.int 0, .ref q2, .ref (u 1), .ref (u 2), .ref (u 5), .ref (u 6), .ref (u 7), .ref (u 8), .int 1])), ((u 1), .inl (G.2.1, 24064, .inl (fun _ => 0))), ((u 2), .inr (7, [.ref (u 3), .int 0, .int 1, .int 3008, .ref (u 4)])), ((u 3), .inl (G.2.1, 24064, .inl (fun _ => 0))), ((u 4), .inl (G.2.1, 8192, .inl (upd (fun _ => (-1)) 7 0))), ((u 5), .inl (G.2.1, 3008, .inl (fun _ => 0))), ((u 6), .inl (G.2.1, 3008, .inl (upd (fun _ => 0) 0 (-1)))), ((u 7), .inl (G.2.1, 3008, .inl (upd (fun _ => 0) 0 (-1)))), ((u 8), .inl (G.2.1, 8, .inl (fun _ => 0))), ((u 9), .inr (6, [.int (-1), .ref (u 0), .ref (u 10), .ref (u 11), .ref (u 12), .ref (u 13), .ref (u 14), .ref (u 15), .ref (u 16), .ref (u 17), .ref (u 18), .ref (u 19), .ref (u 20), .ref (u 21), .ref (u 23), .ref (u 22), .int 0, .int 0, .int 0, .int 0])), ((u 10), .inl (G.2.1, 3008, .inl (fun _ => 0))), ((u 11), .inl (G.2.1, 3008, .inl (fun _ => 0))), ((u 12), .inl (G.2.1, 3008, .inl (fun _ => 0))), ((u 13), .inl (G.2.1, 3008, .inl (fun _ => 0))), ((u 14), .inl (G.2.1, 3008, .inl (fun _ => 0))), ((u 15), .inl (G.2.1, 3008, .inl (fun _ => 0))), ((u 16), .inl (G.2.1, 3008, .inl (fun _ => 0))), ((u 17), .inl (G.2.1, 3008, .inl (fun _ => 0))), ((u 18), .inl (G.2.1, 3008, .inl (fun _ => 0))), ((u 19), .inl (G.2.1, 3008, .inl (fun _ => 0))), ((u 20), .inl (G.2.1, 3008, .inl (fun _ => 0))), ((u 21), .inl (G.2.1, 100, .inl (fun _ => 0))), ((u 22), .inl (G.2.2.1, 3008, .inr (.inl (fun _ => 0)))), ((u 23), .inl (G.2.2.1, 3008, .inr (.inl (fun _ => 0))))]) := by
  refine Kh.of b0 (own := RL) (nm := "rows") [(0, .ref q0), (1, .int x0), (2, .int x1), (3, .ref q4)] rfl rfl (by decide +kernel) (Nat.le_of_ble_eq_true rfl) rfl ?_
  intro p e s m below meth c A C hr ht H locs w ls hl
  have hx := C.hx
  have hb := C.hb
  refine lv_aload_n hx hb dL_rows_0 rfl (lv_at hl 3 rfl) ?_
  refine lv_iconst (v := 0) hx hb dL_rows_1 (by decide) ?_
  refine lv_aload_n hx hb dL_rows_2 rfl (lv_at hl 0 rfl) ?_
  refine lv_iload_n hx hb dL_rows_3 rfl (lv_at hl 1 rfl) ?_
  refine lv_iload_n hx hb dL_rows_4 rfl (lv_at hl 2 rfl) ?_
  refine fin_l C w (run_V C w mv_L_77 (k342_rows C.b0 q0 q1 q2 q3 q5 q6 q7 q8 q9 q10 q11 q12 q13 q14 q15 q16 q17 q18 q19 q20 q21 q22 q23 q24 q25 q26 q27 q28 x0 x1 h0 h1 h2 h3 h4 h5 h6 h7 h8 h9 h10 h11 h12 h13 H.size) [0, 1, 2, 3] rfl rfl 0 rfl rfl (by decide) rfl hl.1 rfl (Nat.le_of_ble_eq_true rfl) dL_rows_5 (cells2 := 24) (slots2 := 104590) (by decide)) [0, 1, 2, 3] [4] rfl rfl (by decide) (cells2 := 24) (slots2 := 104590) (by decide) (fun u1 H locs w => ?_)
  have w : Wd s G A [(q4, .inl (G.2.2.1, 1, .inr (.inl (fun _ => 0)))), (q0, .inr (11, [.ref q5, .ref q6, .ref q1, .ref q7, .ref q8, .ref q9, .ref q10, .ref q11, .ref q2, .ref q12, .int 0, .int (-1), .int 0, .int 0, .ref (u1 0), .ref (u1 9), .null, .null, .null])), (q1, .inr (5, [.ref q3, .ref q13, .ref q14, .int 0])), (q2, .inr (2, [.int 0, .int 0, .ref q15, .ref q16, .ref q17, .ref q18, .ref q19, .ref q20, .ref q21, .ref q22, .ref q23, .ref q24, .ref q25, .ref q26, .ref q27, .ref q28, .int 0])), (q3, .inl (G.2.1, 8, .inl (fun _ => 0))), ((u1 0), .inr (1, [.int 0, .ref q2, .ref (u1 1), .ref (u1 2), .ref (u1 5), .ref (u1 6), .ref (u1 7), .ref (u1 8), .int 1])), ((u1 1), .inl (G.2.1, 24064, .inl (fun _ => 0))), ((u1 2), .inr (7, [.ref (u1 3), .int 0, .int 1, .int 3008, .ref (u1 4)])), ((u1 3), .inl (G.2.1, 24064, .inl (fun _ => 0))), ((u1 4), .inl (G.2.1, 8192, .inl (upd (fun _ => (-1)) 7 0))), ((u1 5), .inl (G.2.1, 3008, .inl (fun _ => 0))), ((u1 6), .inl (G.2.1, 3008, .inl (upd (fun _ => 0) 0 (-1)))), ((u1 7), .inl (G.2.1, 3008, .inl (upd (fun _ => 0) 0 (-1)))), ((u1 8), .inl (G.2.1, 8, .inl (fun _ => 0))), ((u1 9), .inr (6, [.int (-1), .ref (u1 0), .ref (u1 10), .ref (u1 11), .ref (u1 12), .ref (u1 13), .ref (u1 14), .ref (u1 15), .ref (u1 16), .ref (u1 17), .ref (u1 18), .ref (u1 19), .ref (u1 20), .ref (u1 21), .ref (u1 23), .ref (u1 22), .int 0, .int 0, .int 0, .int 0])), ((u1 10), .inl (G.2.1, 3008, .inl (fun _ => 0))), ((u1 11), .inl (G.2.1, 3008, .inl (fun _ => 0))), ((u1 12), .inl (G.2.1, 3008, .inl (fun _ => 0))), ((u1 13), .inl (G.2.1, 3008, .inl (fun _ => 0))), ((u1 14), .inl (G.2.1, 3008, .inl (fun _ => 0))), ((u1 15), .inl (G.2.1, 3008, .inl (fun _ => 0))), ((u1 16), .inl (G.2.1, 3008, .inl (fun _ => 0))), ((u1 17), .inl (G.2.1, 3008, .inl (fun _ => 0))), ((u1 18), .inl (G.2.1, 3008, .inl (fun _ => 0))), ((u1 19), .inl (G.2.1, 3008, .inl (fun _ => 0))), ((u1 20), .inl (G.2.1, 3008, .inl (fun _ => 0))), ((u1 21), .inl (G.2.1, 100, .inl (fun _ => 0))), ((u1 22), .inl (G.2.2.1, 3008, .inr (.inl (fun _ => 0)))), ((u1 23), .inl (G.2.2.1, 3008, .inr (.inl (fun _ => 0))))] H locs := w
  refine r_last C w 0 rfl (IX.of (k := 0) (by decide +kernel)) (g := (fun _ => 0)) (updL_c _ _) dL_rows_8 (ws2 := [(q4, .inl (G.2.2.1, 1, .inr (.inl (fun _ => 0)))), (q0, .inr (11, [.ref q5, .ref q6, .ref q1, .ref q7, .ref q8, .ref q9, .ref q10, .ref q11, .ref q2, .ref q12, .int 0, .int (-1), .int 0, .int 0, .ref (u1 0), .ref (u1 9), .null, .null, .null])), (q1, .inr (5, [.ref q3, .ref q13, .ref q14, .int 0])), (q2, .inr (2, [.int 0, .int 0, .ref q15, .ref q16, .ref q17, .ref q18, .ref q19, .ref q20, .ref q21, .ref q22, .ref q23, .ref q24, .ref q25, .ref q26, .ref q27, .ref q28, .int 0])), (q3, .inl (G.2.1, 8, .inl (fun _ => 0))), ((u1 0), .inr (1, [.int 0, .ref q2, .ref (u1 1), .ref (u1 2), .ref (u1 5), .ref (u1 6), .ref (u1 7), .ref (u1 8), .int 1])), ((u1 1), .inl (G.2.1, 24064, .inl (fun _ => 0))), ((u1 2), .inr (7, [.ref (u1 3), .int 0, .int 1, .int 3008, .ref (u1 4)])), ((u1 3), .inl (G.2.1, 24064, .inl (fun _ => 0))), ((u1 4), .inl (G.2.1, 8192, .inl (upd (fun _ => (-1)) 7 0))), ((u1 5), .inl (G.2.1, 3008, .inl (fun _ => 0))), ((u1 6), .inl (G.2.1, 3008, .inl (upd (fun _ => 0) 0 (-1)))), ((u1 7), .inl (G.2.1, 3008, .inl (upd (fun _ => 0) 0 (-1)))), ((u1 8), .inl (G.2.1, 8, .inl (fun _ => 0))), ((u1 9), .inr (6, [.int (-1), .ref (u1 0), .ref (u1 10), .ref (u1 11), .ref (u1 12), .ref (u1 13), .ref (u1 14), .ref (u1 15), .ref (u1 16), .ref (u1 17), .ref (u1 18), .ref (u1 19), .ref (u1 20), .ref (u1 21), .ref (u1 23), .ref (u1 22), .int 0, .int 0, .int 0, .int 0])), ((u1 10), .inl (G.2.1, 3008, .inl (fun _ => 0))), ((u1 11), .inl (G.2.1, 3008, .inl (fun _ => 0))), ((u1 12), .inl (G.2.1, 3008, .inl (fun _ => 0))), ((u1 13), .inl (G.2.1, 3008, .inl (fun _ => 0))), ((u1 14), .inl (G.2.1, 3008, .inl (fun _ => 0))), ((u1 15), .inl (G.2.1, 3008, .inl (fun _ => 0))), ((u1 16), .inl (G.2.1, 3008, .inl (fun _ => 0))), ((u1 17), .inl (G.2.1, 3008, .inl (fun _ => 0))), ((u1 18), .inl (G.2.1, 3008, .inl (fun _ => 0))), ((u1 19), .inl (G.2.1, 3008, .inl (fun _ => 0))), ((u1 20), .inl (G.2.1, 3008, .inl (fun _ => 0))), ((u1 21), .inl (G.2.1, 100, .inl (fun _ => 0))), ((u1 22), .inl (G.2.2.1, 3008, .inr (.inl (fun _ => 0)))), ((u1 23), .inl (G.2.2.1, 3008, .inr (.inl (fun _ => 0))))]) rfl (fun H locs w => ?_)
  refine lv_goto (tgt := 16) hx hb dL_rows_9 (by decide) ?_
  refine lv_iconst (v := 0) hx hb dL_rows_16 (by decide) ?_
  exact e_i C hr w (fun k => [(u1 0), (u1 1), (u1 2), (u1 3), (u1 4), (u1 5), (u1 6), (u1 7), (u1 8), (u1 9), (u1 10), (u1 11), (u1 12), (u1 13), (u1 14), (u1 15), (u1 16), (u1 17), (u1 18), (u1 19), (u1 20), (u1 21), (u1 22), (u1 23)].getD k 0) [1, 2, 3, 4, 0, 5, 6, 7, 8, 9, 10, 11, 12, 13, 14, 15, 16, 17, 18, 19, 20, 21, 22, 23, 24, 25, 26, 27, 28] rfl rfl rfl dL_rows_17 (by decide) (by decide)
set_option maxRecDepth 100000 in
set_option maxHeartbeats 4000000 in
theorem k344_rows {l : Launch} {s0 : State} {a0 : Array Value} {G : GT} (b0 : B0 l s0 a0 G) (q0 q1 q2 q3 q4 q5 q6 q7 q8 q9 q10 q11 q12 q13 q14 q15 q16 q17 q18 q19 q20 q21 q22 q23 q24 q25 q26 q27 q28 q29 q30 q31 q32 q33 q34 q35 q36 q37 q38 q39 q40 q41 q42 : Nat) (x0 : Int32) (x1 : Int32) (h0 : 0 < x1) (h1 : 1 < x1) (h2 : 2 < x1) (h3 : ¬ 20 < x1) (h4 : 3 < x1) (h5 : ¬ 3000 < x0) (h6 : 4 < x1) (h7 : 5 < x1) (h8 : 6 < x1) (h9 : 7 < x1) (h10 : 8 < x1) (h11 : ¬ 9 < x1) (h12 : ¬ x0 < 1) (h13 : ¬ x1 < 0) (sz : Nat) : Kl l s0 G yX12_rows cX12_rows 6 (some .long) { frames := 3, cells := 0, slots := 0, locals := 72 } [.ref q0, .int x0, .int x1] [(q0, .inr (12, [.int 0, .int 0, .int 0, .int 0, .int 0, .int 0, .int 0, .int (-1), .ref q11, .ref q8, .ref q12, .int 0, .ref q13, .ref q14, .ref q15, .ref q16, .ref q17, .ref q2, .ref q18, .int 0, .ref q3, .ref q4, .ref q19, .ref q6, .ref q7, .ref q1, .ref q5, .int 0, .int (-1), .int 0, .ref q20, .ref q21, .ref q22, .ref q23, .ref q24, .ref q25, .ref q26, .ref q27, .int 0, .ref q28, .ref q9, .ref q10, .ref q29, .ref q30, .int 0, .ref q31, .ref q32, .ref q33, .ref q34, .int 0, .ref q35, .ref q36, .ref q37, .ref q38, .int 0, .int 0, .ref q39, .ref q40, .ref q41, .ref q42])), (q1, .inl (G.2.1, 4096, .inl (fun _ => 0))), (q2, .inl (G.2.1, 57, .inl (fun _ => 0))), (q3, .inl (G.2.1, 8, .inl (fun _ => 0))), (q4, .inl (G.2.1, 24008, .inl (fun _ => 0))), (q5, .inl (G.2.1, 3000, .inl (fun _ => 0))), (q6, .inl (G.2.1, 3000, .inl (fun _ => 0))), (q7, .inl (G.2.1, 3000, .inl (fun _ => 0))), (q8, .inl (G.2.1, 242, .inl (fun _ => 0))), (q9, .inl (G.2.2.1, 3000, .inr (.inl (fun _ => 0)))), (q10, .inl (G.2.2.1, 3000, .inr (.inl (fun _ => 0))))] sz 0 (fun u => [(q0, .inr (12, [.int 0, .int 0, .int 0, .int 0, .int 0, .int 0, .int 0, .int (-1), .ref q11, .ref q8, .ref q12, .int 0, .ref q13, .ref q14, .ref q15, .ref q16, .ref q17, .ref q2, .ref q18, .int 0, .ref q3, .ref q4, .ref q19, .ref q6, .ref q7, .ref q1, .ref q5, .int 1, .int (-1), .int 0, .ref q20, .ref q21, .ref q22, .ref q23, .ref q24, .ref q25, .ref q26, .ref q27, .int 0, .ref q28, .ref q9, .ref q10, .ref q29, .ref q30, .int 0, .ref q31, .ref q32, .ref q33, .ref q34, .int 0, .ref q35, .ref q36, .ref q37, .ref q38, .int 0, .int 0, .ref q39, .ref q40, .ref q41, .ref q42])), (q1, .inl (G.2.1, 4096, .inl (upd (fun _ => (-1)) 0 0))), (q2, .inl (G.2.1, 57, .inl (fun _ => 0))), (q3, .inl (G.2.1, 8, .inl (fun _ => 0))), (q4, .inl (G.2.1, 24008, .inl (fun _ => 0))), (q5, .inl (G.2.1, 3000, .inl (upd (fun _ => 0) 0 (-1)))), (q6, .inl (G.2.1, 3000, .inl (upd (fun _ => 0) 0 (-1)))), (q7, .inl (G.2.1, 3000, .inl (upd (fun _ => 0) 0 (-1)))), (q8, .inl (G.2.1, 242, .inl (fun _ => 0))), (q9, .inl (G.2.2.1, 3000, .inr (.inl (vp_updL (vp_updL (vp_updL (vp_updL (vp_updL (vp_updL (vp_updL (vp_updL (vp_updL (vp_updL (fun _ => 0) 0 1) 0 0) 0 0) 0 0) 0 0) 0 0) 0 0) 0 0) 0 0) 0 0)))), (q10, .inl (G.2.2.1, 3000, .inr (.inl (fun _ => 0))))]) := by
  refine Kl.of b0 (own := RX12) (nm := "rows") [(0, .ref q0), (1, .int x0), (2, .int x1)] rfl rfl (by decide +kernel) (Nat.le_of_ble_eq_true rfl) rfl ?_
  intro p e s m below meth c A C hr H locs w ls hl
  have hx := C.hx
  have hb := C.hb
  refine lv_aload_n hx hb dX12_rows_0 rfl (lv_at hl 0 rfl) ?_
  refine lv_iconst (v := 0) hx hb dX12_rows_1 (by decide) ?_
  refine r_put C w 0 rfl fl_X12_1 (Nat.le_of_ble_eq_true rfl) rfl rfl dX12_rows_2 (ws2 := [(q0, .inr (12, [.int 0, .int 0, .int 0, .int 0, .int 0, .int 0, .int 0, .int (-1), .ref q11, .ref q8, .ref q12, .int 0, .ref q13, .ref q14, .ref q15, .ref q16, .ref q17, .ref q2, .ref q18, .int 0, .ref q3, .ref q4, .ref q19, .ref q6, .ref q7, .ref q1, .ref q5, .int 0, .int (-1), .int 0, .ref q20, .ref q21, .ref q22, .ref q23, .ref q24, .ref q25, .ref q26, .ref q27, .int 0, .ref q28, .ref q9, .ref q10, .ref q29, .ref q30, .int 0, .ref q31, .ref q32, .ref q33, .ref q34, .int 0, .ref q35, .ref q36, .ref q37, .ref q38, .int 0, .int 0, .ref q39, .ref q40, .ref q41, .ref q42])), (q1, .inl (G.2.1, 4096, .inl (fun _ => 0))), (q2, .inl (G.2.1, 57, .inl (fun _ => 0))), (q3, .inl (G.2.1, 8, .inl (fun _ => 0))), (q4, .inl (G.2.1, 24008, .inl (fun _ => 0))), (q5, .inl (G.2.1, 3000, .inl (fun _ => 0))), (q6, .inl (G.2.1, 3000, .inl (fun _ => 0))), (q7, .inl (G.2.1, 3000, .inl (fun _ => 0))), (q8, .inl (G.2.1, 242, .inl (fun _ => 0))), (q9, .inl (G.2.2.1, 3000, .inr (.inl (fun _ => 0)))), (q10, .inl (G.2.2.1, 3000, .inr (.inl (fun _ => 0))))]) rfl (fun H locs w => ?_)
  refine lv_aload_n hx hb dX12_rows_5 rfl (lv_at hl 0 rfl) ?_
  refine lv_iload_n hx hb dX12_rows_6 rfl (lv_at hl 1 rfl) ?_
  refine lv_iconst (v := 1) hx hb dX12_rows_7 (by decide) ?_
  refine fin_i C w (run_V C w mv_X12_336 (k120_isMost C.b0 q0 q11 q8 q12 q13 q14 q15 q16 q17 q2 q18 q3 q4 q19 q6 q7 q1 q5 q20 q21 q22 q23 q24 q25 q26 q27 q28 q9 q10 q29 q30 q31 q32 q33 q34 q35 q36 q37 q38 q39 q40 q41 q42 x0 h5 h12 H.size) [0] rfl rfl 0 rfl rfl (by decide) rfl hl.1 rfl (Nat.le_of_ble_eq_true rfl) dX12_rows_8 (cells2 := 0) (slots2 := 0) (by decide)) [0] [1, 2, 3, 4, 5, 6, 7, 8, 9, 10] rfl rfl (by decide) (cells2 := 0) (slots2 := 0) (by decide) (fun u1 H locs w => ?_)
  have w : Wd s G A [(q1, .inl (G.2.1, 4096, .inl (fun _ => 0))), (q2, .inl (G.2.1, 57, .inl (fun _ => 0))), (q3, .inl (G.2.1, 8, .inl (fun _ => 0))), (q4, .inl (G.2.1, 24008, .inl (fun _ => 0))), (q5, .inl (G.2.1, 3000, .inl (fun _ => 0))), (q6, .inl (G.2.1, 3000, .inl (fun _ => 0))), (q7, .inl (G.2.1, 3000, .inl (fun _ => 0))), (q8, .inl (G.2.1, 242, .inl (fun _ => 0))), (q9, .inl (G.2.2.1, 3000, .inr (.inl (fun _ => 0)))), (q10, .inl (G.2.2.1, 3000, .inr (.inl (fun _ => 0)))), (q0, .inr (12, [.int 0, .int 0, .int 0, .int 0, .int 0, .int 0, .int 0, .int (-1), .ref q11, .ref q8, .ref q12, .int 0, .ref q13, .ref q14, .ref q15, .ref q16, .ref q17, .ref q2, .ref q18, .int 0, .ref q3, .ref q4, .ref q19, .ref q6, .ref q7, .ref q1, .ref q5, .int 0, .int (-1), .int 0, .ref q20, .ref q21, .ref q22, .ref q23, .ref q24, .ref q25, .ref q26, .ref q27, .int 0, .ref q28, .ref q9, .ref q10, .ref q29, .ref q30, .int 0, .ref q31, .ref q32, .ref q33, .ref q34, .int 0, .ref q35, .ref q36, .ref q37, .ref q38, .int 0, .int 0, .ref q39, .ref q40, .ref q41, .ref q42]))] H locs := w
  refine lv_if_eq (tgt := 29) hx hb dX12_rows_11 (by decide) (fun h => absurd h (by decide)) (fun _ => ?_)
  refine lv_aload_n hx hb dX12_rows_14 rfl (lv_at hl 0 rfl) ?_
  refine lv_iload_n hx hb dX12_rows_15 rfl (lv_at hl 2 rfl) ?_
  refine lv_iconst (v := 0) hx hb dX12_rows_16 (by decide) ?_
  refine lv_bipush (v := 20) hx hb dX12_rows_17 (by decide) ?_
  refine fin_i C w (run_S C w ms_X12_289 (k299_within C.b0 x1 h3 h13 H.size) [] rfl rfl (by decide) rfl hl.1 rfl (Nat.le_of_ble_eq_true rfl) dX12_rows_19 (cells2 := 0) (slots2 := 0) (by decide)) [] [0, 1, 2, 3, 4, 5, 6, 7, 8, 9, 10] rfl rfl (by decide) (cells2 := 0) (slots2 := 0) (by decide) (fun u2 H locs w => ?_)
  have w : Wd s G A [(q1, .inl (G.2.1, 4096, .inl (fun _ => 0))), (q2, .inl (G.2.1, 57, .inl (fun _ => 0))), (q3, .inl (G.2.1, 8, .inl (fun _ => 0))), (q4, .inl (G.2.1, 24008, .inl (fun _ => 0))), (q5, .inl (G.2.1, 3000, .inl (fun _ => 0))), (q6, .inl (G.2.1, 3000, .inl (fun _ => 0))), (q7, .inl (G.2.1, 3000, .inl (fun _ => 0))), (q8, .inl (G.2.1, 242, .inl (fun _ => 0))), (q9, .inl (G.2.2.1, 3000, .inr (.inl (fun _ => 0)))), (q10, .inl (G.2.2.1, 3000, .inr (.inl (fun _ => 0)))), (q0, .inr (12, [.int 0, .int 0, .int 0, .int 0, .int 0, .int 0, .int 0, .int (-1), .ref q11, .ref q8, .ref q12, .int 0, .ref q13, .ref q14, .ref q15, .ref q16, .ref q17, .ref q2, .ref q18, .int 0, .ref q3, .ref q4, .ref q19, .ref q6, .ref q7, .ref q1, .ref q5, .int 0, .int (-1), .int 0, .ref q20, .ref q21, .ref q22, .ref q23, .ref q24, .ref q25, .ref q26, .ref q27, .int 0, .ref q28, .ref q9, .ref q10, .ref q29, .ref q30, .int 0, .ref q31, .ref q32, .ref q33, .ref q34, .int 0, .ref q35, .ref q36, .ref q37, .ref q38, .int 0, .int 0, .ref q39, .ref q40, .ref q41, .ref q42]))] H locs := w
  refine lv_iconst (v := 1) hx hb dX12_rows_22 (by decide) ?_
  refine fin_i C w (run_V C w mv_X12_267 (k32_may C.b0 q0 q11 q8 q12 q13 q14 q15 q16 q17 q2 q18 q3 q4 q19 q6 q7 q1 q5 q20 q21 q22 q23 q24 q25 q26 q27 q28 q9 q10 q29 q30 q31 q32 q33 q34 q35 q36 q37 q38 q39 q40 q41 q42 H.size) [10] rfl rfl 10 rfl rfl (by decide) rfl hl.1 rfl (Nat.le_of_ble_eq_true rfl) dX12_rows_23 (cells2 := 0) (slots2 := 0) (by decide)) [10] [0, 1, 2, 3, 4, 5, 6, 7, 8, 9] rfl rfl (by decide) (cells2 := 0) (slots2 := 0) (by decide) (fun u3 H locs w => ?_)
  have w : Wd s G A [(q1, .inl (G.2.1, 4096, .inl (fun _ => 0))), (q2, .inl (G.2.1, 57, .inl (fun _ => 0))), (q3, .inl (G.2.1, 8, .inl (fun _ => 0))), (q4, .inl (G.2.1, 24008, .inl (fun _ => 0))), (q5, .inl (G.2.1, 3000, .inl (fun _ => 0))), (q6, .inl (G.2.1, 3000, .inl (fun _ => 0))), (q7, .inl (G.2.1, 3000, .inl (fun _ => 0))), (q8, .inl (G.2.1, 242, .inl (fun _ => 0))), (q9, .inl (G.2.2.1, 3000, .inr (.inl (fun _ => 0)))), (q10, .inl (G.2.2.1, 3000, .inr (.inl (fun _ => 0)))), (q0, .inr (12, [.int 0, .int 0, .int 0, .int 0, .int 0, .int 0, .int 0, .int (-1), .ref q11, .ref q8, .ref q12, .int 0, .ref q13, .ref q14, .ref q15, .ref q16, .ref q17, .ref q2, .ref q18, .int 0, .ref q3, .ref q4, .ref q19, .ref q6, .ref q7, .ref q1, .ref q5, .int 0, .int (-1), .int 0, .ref q20, .ref q21, .ref q22, .ref q23, .ref q24, .ref q25, .ref q26, .ref q27, .int 0, .ref q28, .ref q9, .ref q10, .ref q29, .ref q30, .int 0, .ref q31, .ref q32, .ref q33, .ref q34, .int 0, .ref q35, .ref q36, .ref q37, .ref q38, .int 0, .int 0, .ref q39, .ref q40, .ref q41, .ref q42]))] H locs := w
  refine lv_if_ne (tgt := 31) hx hb dX12_rows_26 (by decide) (fun _ => ?_) (fun h => h.elim (by decide))
  refine lv_aload_n hx hb dX12_rows_31 rfl (lv_at hl 0 rfl) ?_
  refine lv_iload_n hx hb dX12_rows_32 rfl (lv_at hl 1 rfl) ?_
  refine fin_v C w (run_V C w mv_X12_339 (k124_explores C.b0 q0 q1 q2 q3 q4 q5 q6 q7 q8 q11 q12 q13 q14 q15 q16 q17 q18 q19 q20 q21 q22 q23 q24 q25 q26 q27 q28 q9 q10 q29 q30 q31 q32 q33 q34 q35 q36 q37 q38 q39 q40 q41 q42 x0 H.size) [10, 0, 1, 2, 3, 4, 5, 6, 7] rfl rfl 10 rfl rfl (by decide) rfl hl.1 rfl (Nat.le_of_ble_eq_true rfl) dX12_rows_33 (cells2 := 0) (slots2 := 0) (by decide)) [10, 0, 1, 2, 3, 4, 5, 6, 7] [8, 9] rfl rfl (by decide) (cells2 := 0) (slots2 := 0) (by decide) (fun u4 H locs w => ?_)
  have w : Wd s G A [(q9, .inl (G.2.2.1, 3000, .inr (.inl (fun _ => 0)))), (q10, .inl (G.2.2.1, 3000, .inr (.inl (fun _ => 0)))), (q0, .inr (12, [.int 0, .int 0, .int 0, .int 0, .int 0, .int 0, .int 0, .int (-1), .ref q11, .ref q8, .ref q12, .int 0, .ref q13, .ref q14, .ref q15, .ref q16, .ref q17, .ref q2, .ref q18, .int 0, .ref q3, .ref q4, .ref q19, .ref q6, .ref q7, .ref q1, .ref q5, .int 1, .int (-1), .int 0, .ref q20, .ref q21, .ref q22, .ref q23, .ref q24, .ref q25, .ref q26, .ref q27, .int 0, .ref q28, .ref q9, .ref q10, .ref q29, .ref q30, .int 0, .ref q31, .ref q32, .ref q33, .ref q34, .int 0, .ref q35, .ref q36, .ref q37, .ref q38, .int 0, .int 0, .ref q39, .ref q40, .ref q41, .ref q42])), (q1, .inl (G.2.1, 4096, .inl (upd (fun _ => (-1)) 0 0))), (q2, .inl (G.2.1, 57, .inl (fun _ => 0))), (q3, .inl (G.2.1, 8, .inl (fun _ => 0))), (q4, .inl (G.2.1, 24008, .inl (fun _ => 0))), (q5, .inl (G.2.1, 3000, .inl (upd (fun _ => 0) 0 (-1)))), (q6, .inl (G.2.1, 3000, .inl (upd (fun _ => 0) 0 (-1)))), (q7, .inl (G.2.1, 3000, .inl (upd (fun _ => 0) 0 (-1)))), (q8, .inl (G.2.1, 242, .inl (fun _ => 0)))] H locs := w
  refine lv_aload_n hx hb dX12_rows_36 rfl (lv_at hl 0 rfl) ?_
  refine r_get C w 2 rfl fr_X12_325 rfl dX12_rows_37 ?_
  refine lv_if_eq (tgt := 47) hx hb dX12_rows_40 (by decide) (fun _ => ?_) (fun h => absurd (by decide) h)
  refine lv_iconst (v := 0) hx hb dX12_rows_47 (by decide) ?_
  refine lv_istore_n (lv' := [(3, .int 0), (0, .ref q0), (1, .int x0), (2, .int x1)]) hx hb dX12_rows_48 rfl hl (by decide) rfl (fun ls hl => ?_)
  refine lv_iload_n hx hb dX12_rows_49 rfl (lv_at hl 0 rfl) ?_
  refine lv_aload_n hx hb dX12_rows_50 rfl (lv_at hl 1 rfl) ?_
  refine r_get C w 2 rfl fr_X12_322 rfl dX12_rows_51 ?_
  refine lv_icmp_ge (tgt := 78) hx hb dX12_rows_54 (by decide) (fun h => absurd h (by decide)) (fun _ => ?_)
  refine lv_aload_n hx hb dX12_rows_57 rfl (lv_at hl 1 rfl) ?_
  refine r_get C w 2 rfl fr_X12_99 rfl dX12_rows_58 ?_
  refine lv_iload_n hx hb dX12_rows_61 rfl (lv_at hl 0 rfl) ?_
  refine lv_iload_n hx hb dX12_rows_62 rfl (lv_at hl 0 rfl) ?_
  refine lv_if_ne (tgt := 70) hx hb dX12_rows_63 (by decide) (fun h => absurd (by decide) h) (fun _ => ?_)
  refine lv_lconst (v := 1) hx hb dX12_rows_66 (by decide) ?_
  refine lv_goto (tgt := 71) hx hb dX12_rows_67 (by decide) ?_
  refine r_last C w 0 rfl (IX.of (k := 0) (by decide +kernel)) (g := (vp_updL (fun _ => 0) 0 1)) rfl dX12_rows_71 (ws2 := [(q9, .inl (G.2.2.1, 3000, .inr (.inl (vp_updL (fun _ => 0) 0 1)))), (q10, .inl (G.2.2.1, 3000, .inr (.inl (fun _ => 0)))), (q0, .inr (12, [.int 0, .int 0, .int 0, .int 0, .int 0, .int 0, .int 0, .int (-1), .ref q11, .ref q8, .ref q12, .int 0, .ref q13, .ref q14, .ref q15, .ref q16, .ref q17, .ref q2, .ref q18, .int 0, .ref q3, .ref q4, .ref q19, .ref q6, .ref q7, .ref q1, .ref q5, .int 1, .int (-1), .int 0, .ref q20, .ref q21, .ref q22, .ref q23, .ref q24, .ref q25, .ref q26, .ref q27, .int 0, .ref q28, .ref q9, .ref q10, .ref q29, .ref q30, .int 0, .ref q31, .ref q32, .ref q33, .ref q34, .int 0, .ref q35, .ref q36, .ref q37, .ref q38, .int 0, .int 0, .ref q39, .ref q40, .ref q41, .ref q42])), (q1, .inl (G.2.1, 4096, .inl (upd (fun _ => (-1)) 0 0))), (q2, .inl (G.2.1, 57, .inl (fun _ => 0))), (q3, .inl (G.2.1, 8, .inl (fun _ => 0))), (q4, .inl (G.2.1, 24008, .inl (fun _ => 0))), (q5, .inl (G.2.1, 3000, .inl (upd (fun _ => 0) 0 (-1)))), (q6, .inl (G.2.1, 3000, .inl (upd (fun _ => 0) 0 (-1)))), (q7, .inl (G.2.1, 3000, .inl (upd (fun _ => 0) 0 (-1)))), (q8, .inl (G.2.1, 242, .inl (fun _ => 0)))]) rfl (fun H locs w => ?_)
  refine lv_iinc (v := 1) (lv' := [(3, .int 1), (0, .ref q0), (1, .int x0), (2, .int x1)]) hx hb dX12_rows_72 hl (k := 0) rfl (by decide +kernel) (by decide) rfl (fun ls hl => ?_)
  refine lv_goto (tgt := 49) hx hb dX12_rows_75 (by decide) ?_
  refine lv_iload_n hx hb dX12_rows_49 rfl (lv_at hl 0 rfl) ?_
  refine lv_aload_n hx hb dX12_rows_50 rfl (lv_at hl 1 rfl) ?_
  refine r_get C w 2 rfl fr_X12_322 rfl dX12_rows_51 ?_
  refine lv_icmp_ge (tgt := 78) hx hb dX12_rows_54 (by decide) (fun _ => ?_) (fun h => absurd (by decide) h)
  refine lv_iconst (v := 0) hx hb dX12_rows_78 (by decide) ?_
  refine lv_istore_n (lv' := [(3, .int 0), (0, .ref q0), (1, .int x0), (2, .int x1)]) hx hb dX12_rows_79 rfl hl (by decide) rfl (fun ls hl => ?_)
  refine lv_iload_n hx hb dX12_rows_80 rfl (lv_at hl 0 rfl) ?_
  refine lv_iload_n hx hb dX12_rows_81 rfl (lv_at hl 3 rfl) ?_
  refine lv_icmp_ge (tgt := 230) hx hb dX12_rows_82 (by decide) (fun h => absurd h (Int32.not_le.mpr h0)) (fun _ => ?_)
  refine lv_iconst (v := 0) hx hb dX12_rows_85 (by decide) ?_
  refine lv_istore (lv' := [(4, .int 0), (3, .int 0), (0, .ref q0), (1, .int x0), (2, .int x1)]) hx hb dX12_rows_86 hl (by decide) rfl (fun ls hl => ?_)
  refine lv_iload hx hb dX12_rows_88 (lv_at hl 0 rfl) ?_
  refine lv_aload_n hx hb dX12_rows_90 rfl (lv_at hl 2 rfl) ?_
  refine r_get C w 2 rfl fr_X12_322 rfl dX12_rows_91 ?_
  refine lv_icmp_ge (tgt := 111) hx hb dX12_rows_94 (by decide) (fun h => absurd h (by decide)) (fun _ => ?_)
  refine lv_aload_n hx hb dX12_rows_97 rfl (lv_at hl 2 rfl) ?_
  refine r_get C w 2 rfl fr_X12_103 rfl dX12_rows_98 ?_
  refine lv_iload hx hb dX12_rows_101 (lv_at hl 0 rfl) ?_
  refine lv_lconst (v := 0) hx hb dX12_rows_103 (by decide) ?_
  refine r_last C w 1 rfl (IX.of (k := 0) (by decide +kernel)) (g := (fun _ => 0)) (updL_c _ _) dX12_rows_104 (ws2 := [(q9, .inl (G.2.2.1, 3000, .inr (.inl (vp_updL (fun _ => 0) 0 1)))), (q10, .inl (G.2.2.1, 3000, .inr (.inl (fun _ => 0)))), (q0, .inr (12, [.int 0, .int 0, .int 0, .int 0, .int 0, .int 0, .int 0, .int (-1), .ref q11, .ref q8, .ref q12, .int 0, .ref q13, .ref q14, .ref q15, .ref q16, .ref q17, .ref q2, .ref q18, .int 0, .ref q3, .ref q4, .ref q19, .ref q6, .ref q7, .ref q1, .ref q5, .int 1, .int (-1), .int 0, .ref q20, .ref q21, .ref q22, .ref q23, .ref q24, .ref q25, .ref q26, .ref q27, .int 0, .ref q28, .ref q9, .ref q10, .ref q29, .ref q30, .int 0, .ref q31, .ref q32, .ref q33, .ref q34, .int 0, .ref q35, .ref q36, .ref q37, .ref q38, .int 0, .int 0, .ref q39, .ref q40, .ref q41, .ref q42])), (q1, .inl (G.2.1, 4096, .inl (upd (fun _ => (-1)) 0 0))), (q2, .inl (G.2.1, 57, .inl (fun _ => 0))), (q3, .inl (G.2.1, 8, .inl (fun _ => 0))), (q4, .inl (G.2.1, 24008, .inl (fun _ => 0))), (q5, .inl (G.2.1, 3000, .inl (upd (fun _ => 0) 0 (-1)))), (q6, .inl (G.2.1, 3000, .inl (upd (fun _ => 0) 0 (-1)))), (q7, .inl (G.2.1, 3000, .inl (upd (fun _ => 0) 0 (-1)))), (q8, .inl (G.2.1, 242, .inl (fun _ => 0)))]) rfl (fun H locs w => ?_)
  refine lv_iinc (v := 1) (lv' := [(4, .int 1), (3, .int 0), (0, .ref q0), (1, .int x0), (2, .int x1)]) hx hb dX12_rows_105 hl (k := 0) rfl (by decide +kernel) (by decide) rfl (fun ls hl => ?_)
  refine lv_goto (tgt := 88) hx hb dX12_rows_108 (by decide) ?_
  refine lv_iload hx hb dX12_rows_88 (lv_at hl 0 rfl) ?_
  refine lv_aload_n hx hb dX12_rows_90 rfl (lv_at hl 2 rfl) ?_
  refine r_get C w 2 rfl fr_X12_322 rfl dX12_rows_91 ?_
  refine lv_icmp_ge (tgt := 111) hx hb dX12_rows_94 (by decide) (fun _ => ?_) (fun h => absurd (by decide) h)
  refine lv_iconst (v := 0) hx hb dX12_rows_111 (by decide) ?_
  refine lv_istore (lv' := [(4, .int 0), (3, .int 0), (0, .ref q0), (1, .int x0), (2, .int x1)]) hx hb dX12_rows_112 hl (by decide) rfl (fun ls hl => ?_)
  refine lv_iload hx hb dX12_rows_114 (lv_at hl 0 rfl) ?_
  refine lv_aload_n hx hb dX12_rows_116 rfl (lv_at hl 2 rfl) ?_
  refine r_get C w 2 rfl fr_X12_322 rfl dX12_rows_117 ?_
  refine lv_icmp_ge (tgt := 192) hx hb dX12_rows_120 (by decide) (fun h => absurd h (by decide)) (fun _ => ?_)
  refine lv_iconst (v := 0) hx hb dX12_rows_123 (by decide) ?_
  refine lv_istore (lv' := [(5, .int 0), (4, .int 0), (3, .int 0), (0, .ref q0), (1, .int x0), (2, .int x1)]) hx hb dX12_rows_124 hl (by decide) rfl (fun ls hl => ?_)
  refine lv_iload hx hb dX12_rows_126 (lv_at hl 0 rfl) ?_
  refine lv_aload_n hx hb dX12_rows_128 rfl (lv_at hl 3 rfl) ?_
  refine fin_i C w (run_V C w mv_X12_286 (k123_acts C.b0 q0 q8 q11 q12 q13 q14 q15 q16 q17 q2 q18 q3 q4 q19 q6 q7 q1 q5 q20 q21 q22 q23 q24 q25 q26 q27 q28 q9 q10 q29 q30 q31 q32 q33 q34 q35 q36 q37 q38 q39 q40 q41 q42 H.size) [2, 10] rfl rfl 2 rfl rfl (by decide) rfl hl.1 rfl (Nat.le_of_ble_eq_true rfl) dX12_rows_129 (cells2 := 0) (slots2 := 0) (by decide)) [2, 10] [0, 1, 3, 4, 5, 6, 7, 8, 9] rfl rfl (by decide) (cells2 := 0) (slots2 := 0) (by decide) (fun u5 H locs w => ?_)
  have w : Wd s G A [(q9, .inl (G.2.2.1, 3000, .inr (.inl (vp_updL (fun _ => 0) 0 1)))), (q10, .inl (G.2.2.1, 3000, .inr (.inl (fun _ => 0)))), (q1, .inl (G.2.1, 4096, .inl (upd (fun _ => (-1)) 0 0))), (q2, .inl (G.2.1, 57, .inl (fun _ => 0))), (q3, .inl (G.2.1, 8, .inl (fun _ => 0))), (q4, .inl (G.2.1, 24008, .inl (fun _ => 0))), (q5, .inl (G.2.1, 3000, .inl (upd (fun _ => 0) 0 (-1)))), (q6, .inl (G.2.1, 3000, .inl (upd (fun _ => 0) 0 (-1)))), (q7, .inl (G.2.1, 3000, .inl (upd (fun _ => 0) 0 (-1)))), (q0, .inr (12, [.int 0, .int 0, .int 0, .int 0, .int 0, .int 0, .int 0, .int (-1), .ref q11, .ref q8, .ref q12, .int 0, .ref q13, .ref q14, .ref q15, .ref q16, .ref q17, .ref q2, .ref q18, .int 0, .ref q3, .ref q4, .ref q19, .ref q6, .ref q7, .ref q1, .ref q5, .int 1, .int (-1), .int 0, .ref q20, .ref q21, .ref q22, .ref q23, .ref q24, .ref q25, .ref q26, .ref q27, .int 0, .ref q28, .ref q9, .ref q10, .ref q29, .ref q30, .int 0, .ref q31, .ref q32, .ref q33, .ref q34, .int 0, .ref q35, .ref q36, .ref q37, .ref q38, .int 0, .int 0, .ref q39, .ref q40, .ref q41, .ref q42])), (q8, .inl (G.2.1, 242, .inl (fun _ => 0)))] H locs := w
  refine lv_icmp_ge (tgt := 186) hx hb dX12_rows_132 (by decide) (fun _ => ?_) (fun h => absurd (by decide) h)
  refine lv_iinc (v := 1) (lv' := [(4, .int 1), (5, .int 0), (3, .int 0), (0, .ref q0), (1, .int x0), (2, .int x1)]) hx hb dX12_rows_186 hl (k := 1) rfl (by decide +kernel) (by decide) rfl (fun ls hl => ?_)
  refine lv_goto (tgt := 114) hx hb dX12_rows_189 (by decide) ?_
  refine lv_iload hx hb dX12_rows_114 (lv_at hl 0 rfl) ?_
  refine lv_aload_n hx hb dX12_rows_116 rfl (lv_at hl 3 rfl) ?_
  refine r_get C w 9 rfl fr_X12_322 rfl dX12_rows_117 ?_
  refine lv_icmp_ge (tgt := 192) hx hb dX12_rows_120 (by decide) (fun _ => ?_) (fun h => absurd (by decide) h)
  refine lv_iconst (v := 0) hx hb dX12_rows_192 (by decide) ?_
  refine lv_istore (lv' := [(4, .int 0), (5, .int 0), (3, .int 0), (0, .ref q0), (1, .int x0), (2, .int x1)]) hx hb dX12_rows_193 hl (by decide) rfl (fun ls hl => ?_)
  refine lv_iload hx hb dX12_rows_195 (lv_at hl 0 rfl) ?_
  refine lv_aload_n hx hb dX12_rows_197 rfl (lv_at hl 3 rfl) ?_
  refine r_get C w 9 rfl fr_X12_322 rfl dX12_rows_198 ?_
  refine lv_icmp_ge (tgt := 224) hx hb dX12_rows_201 (by decide) (fun h => absurd h (by decide)) (fun _ => ?_)
  refine lv_aload_n hx hb dX12_rows_204 rfl (lv_at hl 3 rfl) ?_
  refine r_get C w 9 rfl fr_X12_99 rfl dX12_rows_205 ?_
  refine lv_iload hx hb dX12_rows_208 (lv_at hl 0 rfl) ?_
  refine lv_aload_n hx hb dX12_rows_210 rfl (lv_at hl 3 rfl) ?_
  refine r_get C w 9 rfl fr_X12_103 rfl dX12_rows_211 ?_
  refine lv_iload hx hb dX12_rows_214 (lv_at hl 0 rfl) ?_
  refine r_lald C w 1 rfl (IX.of (k := 0) (by decide +kernel)) (v := 0) rfl dX12_rows_216 ?_
  refine r_last C w 0 rfl (IX.of (k := 0) (by decide +kernel)) (g := (vp_updL (vp_updL (fun _ => 0) 0 1) 0 0)) rfl dX12_rows_217 (ws2 := [(q9, .inl (G.2.2.1, 3000, .inr (.inl (vp_updL (vp_updL (fun _ => 0) 0 1) 0 0)))), (q10, .inl (G.2.2.1, 3000, .inr (.inl (fun _ => 0)))), (q1, .inl (G.2.1, 4096, .inl (upd (fun _ => (-1)) 0 0))), (q2, .inl (G.2.1, 57, .inl (fun _ => 0))), (q3, .inl (G.2.1, 8, .inl (fun _ => 0))), (q4, .inl (G.2.1, 24008, .inl (fun _ => 0))), (q5, .inl (G.2.1, 3000, .inl (upd (fun _ => 0) 0 (-1)))), (q6, .inl (G.2.1, 3000, .inl (upd (fun _ => 0) 0 (-1)))), (q7, .inl (G.2.1, 3000, .inl (upd (fun _ => 0) 0 (-1)))), (q0, .inr (12, [.int 0, .int 0, .int 0, .int 0, .int 0, .int 0, .int 0, .int (-1), .ref q11, .ref q8, .ref q12, .int 0, .ref q13, .ref q14, .ref q15, .ref q16, .ref q17, .ref q2, .ref q18, .int 0, .ref q3, .ref q4, .ref q19, .ref q6, .ref q7, .ref q1, .ref q5, .int 1, .int (-1), .int 0, .ref q20, .ref q21, .ref q22, .ref q23, .ref q24, .ref q25, .ref q26, .ref q27, .int 0, .ref q28, .ref q9, .ref q10, .ref q29, .ref q30, .int 0, .ref q31, .ref q32, .ref q33, .ref q34, .int 0, .ref q35, .ref q36, .ref q37, .ref q38, .int 0, .int 0, .ref q39, .ref q40, .ref q41, .ref q42])), (q8, .inl (G.2.1, 242, .inl (fun _ => 0)))]) rfl (fun H locs w => ?_)
  refine lv_iinc (v := 1) (lv' := [(4, .int 1), (5, .int 0), (3, .int 0), (0, .ref q0), (1, .int x0), (2, .int x1)]) hx hb dX12_rows_218 hl (k := 0) rfl (by decide +kernel) (by decide) rfl (fun ls hl => ?_)
  refine lv_goto (tgt := 195) hx hb dX12_rows_221 (by decide) ?_
  refine lv_iload hx hb dX12_rows_195 (lv_at hl 0 rfl) ?_
  refine lv_aload_n hx hb dX12_rows_197 rfl (lv_at hl 3 rfl) ?_
  refine r_get C w 9 rfl fr_X12_322 rfl dX12_rows_198 ?_
  refine lv_icmp_ge (tgt := 224) hx hb dX12_rows_201 (by decide) (fun _ => ?_) (fun h => absurd (by decide) h)
  refine lv_iinc (v := 1) (lv' := [(3, .int 1), (4, .int 1), (5, .int 0), (0, .ref q0), (1, .int x0), (2, .int x1)]) hx hb dX12_rows_224 hl (k := 2) rfl (by decide +kernel) (by decide) rfl (fun ls hl => ?_)
  refine lv_goto (tgt := 80) hx hb dX12_rows_227 (by decide) ?_
  refine lv_iload_n hx hb dX12_rows_80 rfl (lv_at hl 0 rfl) ?_
  refine lv_iload_n hx hb dX12_rows_81 rfl (lv_at hl 5 rfl) ?_
  refine lv_icmp_ge (tgt := 230) hx hb dX12_rows_82 (by decide) (fun h => absurd h (Int32.not_le.mpr h1)) (fun _ => ?_)
  refine lv_iconst (v := 0) hx hb dX12_rows_85 (by decide) ?_
  refine lv_istore (lv' := [(4, .int 0), (3, .int 1), (5, .int 0), (0, .ref q0), (1, .int x0), (2, .int x1)]) hx hb dX12_rows_86 hl (by decide) rfl (fun ls hl => ?_)
  refine lv_iload hx hb dX12_rows_88 (lv_at hl 0 rfl) ?_
  refine lv_aload_n hx hb dX12_rows_90 rfl (lv_at hl 3 rfl) ?_
  refine r_get C w 9 rfl fr_X12_322 rfl dX12_rows_91 ?_
  refine lv_icmp_ge (tgt := 111) hx hb dX12_rows_94 (by decide) (fun h => absurd h (by decide)) (fun _ => ?_)
  refine lv_aload_n hx hb dX12_rows_97 rfl (lv_at hl 3 rfl) ?_
  refine r_get C w 9 rfl fr_X12_103 rfl dX12_rows_98 ?_
  refine lv_iload hx hb dX12_rows_101 (lv_at hl 0 rfl) ?_
  refine lv_lconst (v := 0) hx hb dX12_rows_103 (by decide) ?_
  refine r_last C w 1 rfl (IX.of (k := 0) (by decide +kernel)) (g := (fun _ => 0)) (updL_c _ _) dX12_rows_104 (ws2 := [(q9, .inl (G.2.2.1, 3000, .inr (.inl (vp_updL (vp_updL (fun _ => 0) 0 1) 0 0)))), (q10, .inl (G.2.2.1, 3000, .inr (.inl (fun _ => 0)))), (q1, .inl (G.2.1, 4096, .inl (upd (fun _ => (-1)) 0 0))), (q2, .inl (G.2.1, 57, .inl (fun _ => 0))), (q3, .inl (G.2.1, 8, .inl (fun _ => 0))), (q4, .inl (G.2.1, 24008, .inl (fun _ => 0))), (q5, .inl (G.2.1, 3000, .inl (upd (fun _ => 0) 0 (-1)))), (q6, .inl (G.2.1, 3000, .inl (upd (fun _ => 0) 0 (-1)))), (q7, .inl (G.2.1, 3000, .inl (upd (fun _ => 0) 0 (-1)))), (q0, .inr (12, [.int 0, .int 0, .int 0, .int 0, .int 0, .int 0, .int 0, .int (-1), .ref q11, .ref q8, .ref q12, .int 0, .ref q13, .ref q14, .ref q15, .ref q16, .ref q17, .ref q2, .ref q18, .int 0, .ref q3, .ref q4, .ref q19, .ref q6, .ref q7, .ref q1, .ref q5, .int 1, .int (-1), .int 0, .ref q20, .ref q21, .ref q22, .ref q23, .ref q24, .ref q25, .ref q26, .ref q27, .int 0, .ref q28, .ref q9, .ref q10, .ref q29, .ref q30, .int 0, .ref q31, .ref q32, .ref q33, .ref q34, .int 0, .ref q35, .ref q36, .ref q37, .ref q38, .int 0, .int 0, .ref q39, .ref q40, .ref q41, .ref q42])), (q8, .inl (G.2.1, 242, .inl (fun _ => 0)))]) rfl (fun H locs w => ?_)
  refine lv_iinc (v := 1) (lv' := [(4, .int 1), (3, .int 1), (5, .int 0), (0, .ref q0), (1, .int x0), (2, .int x1)]) hx hb dX12_rows_105 hl (k := 0) rfl (by decide +kernel) (by decide) rfl (fun ls hl => ?_)
  refine lv_goto (tgt := 88) hx hb dX12_rows_108 (by decide) ?_
  refine lv_iload hx hb dX12_rows_88 (lv_at hl 0 rfl) ?_
  refine lv_aload_n hx hb dX12_rows_90 rfl (lv_at hl 3 rfl) ?_
  refine r_get C w 9 rfl fr_X12_322 rfl dX12_rows_91 ?_
  refine lv_icmp_ge (tgt := 111) hx hb dX12_rows_94 (by decide) (fun _ => ?_) (fun h => absurd (by decide) h)
  refine lv_iconst (v := 0) hx hb dX12_rows_111 (by decide) ?_
  refine lv_istore (lv' := [(4, .int 0), (3, .int 1), (5, .int 0), (0, .ref q0), (1, .int x0), (2, .int x1)]) hx hb dX12_rows_112 hl (by decide) rfl (fun ls hl => ?_)
  refine lv_iload hx hb dX12_rows_114 (lv_at hl 0 rfl) ?_
  refine lv_aload_n hx hb dX12_rows_116 rfl (lv_at hl 3 rfl) ?_
  refine r_get C w 9 rfl fr_X12_322 rfl dX12_rows_117 ?_
  refine lv_icmp_ge (tgt := 192) hx hb dX12_rows_120 (by decide) (fun h => absurd h (by decide)) (fun _ => ?_)
  refine lv_iconst (v := 0) hx hb dX12_rows_123 (by decide) ?_
  refine lv_istore (lv' := [(5, .int 0), (4, .int 0), (3, .int 1), (0, .ref q0), (1, .int x0), (2, .int x1)]) hx hb dX12_rows_124 hl (by decide) rfl (fun ls hl => ?_)
  refine lv_iload hx hb dX12_rows_126 (lv_at hl 0 rfl) ?_
  refine lv_aload_n hx hb dX12_rows_128 rfl (lv_at hl 3 rfl) ?_
  refine fin_i C w (run_V C w mv_X12_286 (k123_acts C.b0 q0 q8 q11 q12 q13 q14 q15 q16 q17 q2 q18 q3 q4 q19 q6 q7 q1 q5 q20 q21 q22 q23 q24 q25 q26 q27 q28 q9 q10 q29 q30 q31 q32 q33 q34 q35 q36 q37 q38 q39 q40 q41 q42 H.size) [9, 10] rfl rfl 9 rfl rfl (by decide) rfl hl.1 rfl (Nat.le_of_ble_eq_true rfl) dX12_rows_129 (cells2 := 0) (slots2 := 0) (by decide)) [9, 10] [0, 1, 2, 3, 4, 5, 6, 7, 8] rfl rfl (by decide) (cells2 := 0) (slots2 := 0) (by decide) (fun u6 H locs w => ?_)
  have w : Wd s G A [(q9, .inl (G.2.2.1, 3000, .inr (.inl (vp_updL (vp_updL (fun _ => 0) 0 1) 0 0)))), (q10, .inl (G.2.2.1, 3000, .inr (.inl (fun _ => 0)))), (q1, .inl (G.2.1, 4096, .inl (upd (fun _ => (-1)) 0 0))), (q2, .inl (G.2.1, 57, .inl (fun _ => 0))), (q3, .inl (G.2.1, 8, .inl (fun _ => 0))), (q4, .inl (G.2.1, 24008, .inl (fun _ => 0))), (q5, .inl (G.2.1, 3000, .inl (upd (fun _ => 0) 0 (-1)))), (q6, .inl (G.2.1, 3000, .inl (upd (fun _ => 0) 0 (-1)))), (q7, .inl (G.2.1, 3000, .inl (upd (fun _ => 0) 0 (-1)))), (q0, .inr (12, [.int 0, .int 0, .int 0, .int 0, .int 0, .int 0, .int 0, .int (-1), .ref q11, .ref q8, .ref q12, .int 0, .ref q13, .ref q14, .ref q15, .ref q16, .ref q17, .ref q2, .ref q18, .int 0, .ref q3, .ref q4, .ref q19, .ref q6, .ref q7, .ref q1, .ref q5, .int 1, .int (-1), .int 0, .ref q20, .ref q21, .ref q22, .ref q23, .ref q24, .ref q25, .ref q26, .ref q27, .int 0, .ref q28, .ref q9, .ref q10, .ref q29, .ref q30, .int 0, .ref q31, .ref q32, .ref q33, .ref q34, .int 0, .ref q35, .ref q36, .ref q37, .ref q38, .int 0, .int 0, .ref q39, .ref q40, .ref q41, .ref q42])), (q8, .inl (G.2.1, 242, .inl (fun _ => 0)))] H locs := w
  refine lv_icmp_ge (tgt := 186) hx hb dX12_rows_132 (by decide) (fun _ => ?_) (fun h => absurd (by decide) h)
  refine lv_iinc (v := 1) (lv' := [(4, .int 1), (5, .int 0), (3, .int 1), (0, .ref q0), (1, .int x0), (2, .int x1)]) hx hb dX12_rows_186 hl (k := 1) rfl (by decide +kernel) (by decide) rfl (fun ls hl => ?_)
  refine lv_goto (tgt := 114) hx hb dX12_rows_189 (by decide) ?_
  refine lv_iload hx hb dX12_rows_114 (lv_at hl 0 rfl) ?_
  refine lv_aload_n hx hb dX12_rows_116 rfl (lv_at hl 3 rfl) ?_
  refine r_get C w 9 rfl fr_X12_322 rfl dX12_rows_117 ?_
  refine lv_icmp_ge (tgt := 192) hx hb dX12_rows_120 (by decide) (fun _ => ?_) (fun h => absurd (by decide) h)
  refine lv_iconst (v := 0) hx hb dX12_rows_192 (by decide) ?_
  refine lv_istore (lv' := [(4, .int 0), (5, .int 0), (3, .int 1), (0, .ref q0), (1, .int x0), (2, .int x1)]) hx hb dX12_rows_193 hl (by decide) rfl (fun ls hl => ?_)
  refine lv_iload hx hb dX12_rows_195 (lv_at hl 0 rfl) ?_
  refine lv_aload_n hx hb dX12_rows_197 rfl (lv_at hl 3 rfl) ?_
  refine r_get C w 9 rfl fr_X12_322 rfl dX12_rows_198 ?_
  refine lv_icmp_ge (tgt := 224) hx hb dX12_rows_201 (by decide) (fun h => absurd h (by decide)) (fun _ => ?_)
  refine lv_aload_n hx hb dX12_rows_204 rfl (lv_at hl 3 rfl) ?_
  refine r_get C w 9 rfl fr_X12_99 rfl dX12_rows_205 ?_
  refine lv_iload hx hb dX12_rows_208 (lv_at hl 0 rfl) ?_
  refine lv_aload_n hx hb dX12_rows_210 rfl (lv_at hl 3 rfl) ?_
  refine r_get C w 9 rfl fr_X12_103 rfl dX12_rows_211 ?_
  refine lv_iload hx hb dX12_rows_214 (lv_at hl 0 rfl) ?_
  refine r_lald C w 1 rfl (IX.of (k := 0) (by decide +kernel)) (v := 0) rfl dX12_rows_216 ?_
  refine r_last C w 0 rfl (IX.of (k := 0) (by decide +kernel)) (g := (vp_updL (vp_updL (vp_updL (fun _ => 0) 0 1) 0 0) 0 0)) rfl dX12_rows_217 (ws2 := [(q9, .inl (G.2.2.1, 3000, .inr (.inl (vp_updL (vp_updL (vp_updL (fun _ => 0) 0 1) 0 0) 0 0)))), (q10, .inl (G.2.2.1, 3000, .inr (.inl (fun _ => 0)))), (q1, .inl (G.2.1, 4096, .inl (upd (fun _ => (-1)) 0 0))), (q2, .inl (G.2.1, 57, .inl (fun _ => 0))), (q3, .inl (G.2.1, 8, .inl (fun _ => 0))), (q4, .inl (G.2.1, 24008, .inl (fun _ => 0))), (q5, .inl (G.2.1, 3000, .inl (upd (fun _ => 0) 0 (-1)))), (q6, .inl (G.2.1, 3000, .inl (upd (fun _ => 0) 0 (-1)))), (q7, .inl (G.2.1, 3000, .inl (upd (fun _ => 0) 0 (-1)))), (q0, .inr (12, [.int 0, .int 0, .int 0, .int 0, .int 0, .int 0, .int 0, .int (-1), .ref q11, .ref q8, .ref q12, .int 0, .ref q13, .ref q14, .ref q15, .ref q16, .ref q17, .ref q2, .ref q18, .int 0, .ref q3, .ref q4, .ref q19, .ref q6, .ref q7, .ref q1, .ref q5, .int 1, .int (-1), .int 0, .ref q20, .ref q21, .ref q22, .ref q23, .ref q24, .ref q25, .ref q26, .ref q27, .int 0, .ref q28, .ref q9, .ref q10, .ref q29, .ref q30, .int 0, .ref q31, .ref q32, .ref q33, .ref q34, .int 0, .ref q35, .ref q36, .ref q37, .ref q38, .int 0, .int 0, .ref q39, .ref q40, .ref q41, .ref q42])), (q8, .inl (G.2.1, 242, .inl (fun _ => 0)))]) rfl (fun H locs w => ?_)
  refine lv_iinc (v := 1) (lv' := [(4, .int 1), (5, .int 0), (3, .int 1), (0, .ref q0), (1, .int x0), (2, .int x1)]) hx hb dX12_rows_218 hl (k := 0) rfl (by decide +kernel) (by decide) rfl (fun ls hl => ?_)
  refine lv_goto (tgt := 195) hx hb dX12_rows_221 (by decide) ?_
  refine lv_iload hx hb dX12_rows_195 (lv_at hl 0 rfl) ?_
  refine lv_aload_n hx hb dX12_rows_197 rfl (lv_at hl 3 rfl) ?_
  refine r_get C w 9 rfl fr_X12_322 rfl dX12_rows_198 ?_
  refine lv_icmp_ge (tgt := 224) hx hb dX12_rows_201 (by decide) (fun _ => ?_) (fun h => absurd (by decide) h)
  refine lv_iinc (v := 2) (lv' := [(3, .int 2), (4, .int 1), (5, .int 0), (0, .ref q0), (1, .int x0), (2, .int x1)]) hx hb dX12_rows_224 hl (k := 2) rfl (by decide +kernel) (by decide) rfl (fun ls hl => ?_)
  refine lv_goto (tgt := 80) hx hb dX12_rows_227 (by decide) ?_
  refine lv_iload_n hx hb dX12_rows_80 rfl (lv_at hl 0 rfl) ?_
  refine lv_iload_n hx hb dX12_rows_81 rfl (lv_at hl 5 rfl) ?_
  refine lv_icmp_ge (tgt := 230) hx hb dX12_rows_82 (by decide) (fun h => absurd h (Int32.not_le.mpr h2)) (fun _ => ?_)
  refine lv_iconst (v := 0) hx hb dX12_rows_85 (by decide) ?_
  refine lv_istore (lv' := [(4, .int 0), (3, .int 2), (5, .int 0), (0, .ref q0), (1, .int x0), (2, .int x1)]) hx hb dX12_rows_86 hl (by decide) rfl (fun ls hl => ?_)
  refine lv_iload hx hb dX12_rows_88 (lv_at hl 0 rfl) ?_
  refine lv_aload_n hx hb dX12_rows_90 rfl (lv_at hl 3 rfl) ?_
  refine r_get C w 9 rfl fr_X12_322 rfl dX12_rows_91 ?_
  refine lv_icmp_ge (tgt := 111) hx hb dX12_rows_94 (by decide) (fun h => absurd h (by decide)) (fun _ => ?_)
  refine lv_aload_n hx hb dX12_rows_97 rfl (lv_at hl 3 rfl) ?_
  refine r_get C w 9 rfl fr_X12_103 rfl dX12_rows_98 ?_
  refine lv_iload hx hb dX12_rows_101 (lv_at hl 0 rfl) ?_
  refine lv_lconst (v := 0) hx hb dX12_rows_103 (by decide) ?_
  refine r_last C w 1 rfl (IX.of (k := 0) (by decide +kernel)) (g := (fun _ => 0)) (updL_c _ _) dX12_rows_104 (ws2 := [(q9, .inl (G.2.2.1, 3000, .inr (.inl (vp_updL (vp_updL (vp_updL (fun _ => 0) 0 1) 0 0) 0 0)))), (q10, .inl (G.2.2.1, 3000, .inr (.inl (fun _ => 0)))), (q1, .inl (G.2.1, 4096, .inl (upd (fun _ => (-1)) 0 0))), (q2, .inl (G.2.1, 57, .inl (fun _ => 0))), (q3, .inl (G.2.1, 8, .inl (fun _ => 0))), (q4, .inl (G.2.1, 24008, .inl (fun _ => 0))), (q5, .inl (G.2.1, 3000, .inl (upd (fun _ => 0) 0 (-1)))), (q6, .inl (G.2.1, 3000, .inl (upd (fun _ => 0) 0 (-1)))), (q7, .inl (G.2.1, 3000, .inl (upd (fun _ => 0) 0 (-1)))), (q0, .inr (12, [.int 0, .int 0, .int 0, .int 0, .int 0, .int 0, .int 0, .int (-1), .ref q11, .ref q8, .ref q12, .int 0, .ref q13, .ref q14, .ref q15, .ref q16, .ref q17, .ref q2, .ref q18, .int 0, .ref q3, .ref q4, .ref q19, .ref q6, .ref q7, .ref q1, .ref q5, .int 1, .int (-1), .int 0, .ref q20, .ref q21, .ref q22, .ref q23, .ref q24, .ref q25, .ref q26, .ref q27, .int 0, .ref q28, .ref q9, .ref q10, .ref q29, .ref q30, .int 0, .ref q31, .ref q32, .ref q33, .ref q34, .int 0, .ref q35, .ref q36, .ref q37, .ref q38, .int 0, .int 0, .ref q39, .ref q40, .ref q41, .ref q42])), (q8, .inl (G.2.1, 242, .inl (fun _ => 0)))]) rfl (fun H locs w => ?_)
  refine lv_iinc (v := 1) (lv' := [(4, .int 1), (3, .int 2), (5, .int 0), (0, .ref q0), (1, .int x0), (2, .int x1)]) hx hb dX12_rows_105 hl (k := 0) rfl (by decide +kernel) (by decide) rfl (fun ls hl => ?_)
  refine lv_goto (tgt := 88) hx hb dX12_rows_108 (by decide) ?_
  refine lv_iload hx hb dX12_rows_88 (lv_at hl 0 rfl) ?_
  refine lv_aload_n hx hb dX12_rows_90 rfl (lv_at hl 3 rfl) ?_
  refine r_get C w 9 rfl fr_X12_322 rfl dX12_rows_91 ?_
  refine lv_icmp_ge (tgt := 111) hx hb dX12_rows_94 (by decide) (fun _ => ?_) (fun h => absurd (by decide) h)
  refine lv_iconst (v := 0) hx hb dX12_rows_111 (by decide) ?_
  refine lv_istore (lv' := [(4, .int 0), (3, .int 2), (5, .int 0), (0, .ref q0), (1, .int x0), (2, .int x1)]) hx hb dX12_rows_112 hl (by decide) rfl (fun ls hl => ?_)
  refine lv_iload hx hb dX12_rows_114 (lv_at hl 0 rfl) ?_
  refine lv_aload_n hx hb dX12_rows_116 rfl (lv_at hl 3 rfl) ?_
  refine r_get C w 9 rfl fr_X12_322 rfl dX12_rows_117 ?_
  refine lv_icmp_ge (tgt := 192) hx hb dX12_rows_120 (by decide) (fun h => absurd h (by decide)) (fun _ => ?_)
  refine lv_iconst (v := 0) hx hb dX12_rows_123 (by decide) ?_
  refine lv_istore (lv' := [(5, .int 0), (4, .int 0), (3, .int 2), (0, .ref q0), (1, .int x0), (2, .int x1)]) hx hb dX12_rows_124 hl (by decide) rfl (fun ls hl => ?_)
  refine lv_iload hx hb dX12_rows_126 (lv_at hl 0 rfl) ?_
  refine lv_aload_n hx hb dX12_rows_128 rfl (lv_at hl 3 rfl) ?_
  refine fin_i C w (run_V C w mv_X12_286 (k123_acts C.b0 q0 q8 q11 q12 q13 q14 q15 q16 q17 q2 q18 q3 q4 q19 q6 q7 q1 q5 q20 q21 q22 q23 q24 q25 q26 q27 q28 q9 q10 q29 q30 q31 q32 q33 q34 q35 q36 q37 q38 q39 q40 q41 q42 H.size) [9, 10] rfl rfl 9 rfl rfl (by decide) rfl hl.1 rfl (Nat.le_of_ble_eq_true rfl) dX12_rows_129 (cells2 := 0) (slots2 := 0) (by decide)) [9, 10] [0, 1, 2, 3, 4, 5, 6, 7, 8] rfl rfl (by decide) (cells2 := 0) (slots2 := 0) (by decide) (fun u7 H locs w => ?_)
  have w : Wd s G A [(q9, .inl (G.2.2.1, 3000, .inr (.inl (vp_updL (vp_updL (vp_updL (fun _ => 0) 0 1) 0 0) 0 0)))), (q10, .inl (G.2.2.1, 3000, .inr (.inl (fun _ => 0)))), (q1, .inl (G.2.1, 4096, .inl (upd (fun _ => (-1)) 0 0))), (q2, .inl (G.2.1, 57, .inl (fun _ => 0))), (q3, .inl (G.2.1, 8, .inl (fun _ => 0))), (q4, .inl (G.2.1, 24008, .inl (fun _ => 0))), (q5, .inl (G.2.1, 3000, .inl (upd (fun _ => 0) 0 (-1)))), (q6, .inl (G.2.1, 3000, .inl (upd (fun _ => 0) 0 (-1)))), (q7, .inl (G.2.1, 3000, .inl (upd (fun _ => 0) 0 (-1)))), (q0, .inr (12, [.int 0, .int 0, .int 0, .int 0, .int 0, .int 0, .int 0, .int (-1), .ref q11, .ref q8, .ref q12, .int 0, .ref q13, .ref q14, .ref q15, .ref q16, .ref q17, .ref q2, .ref q18, .int 0, .ref q3, .ref q4, .ref q19, .ref q6, .ref q7, .ref q1, .ref q5, .int 1, .int (-1), .int 0, .ref q20, .ref q21, .ref q22, .ref q23, .ref q24, .ref q25, .ref q26, .ref q27, .int 0, .ref q28, .ref q9, .ref q10, .ref q29, .ref q30, .int 0, .ref q31, .ref q32, .ref q33, .ref q34, .int 0, .ref q35, .ref q36, .ref q37, .ref q38, .int 0, .int 0, .ref q39, .ref q40, .ref q41, .ref q42])), (q8, .inl (G.2.1, 242, .inl (fun _ => 0)))] H locs := w
  refine lv_icmp_ge (tgt := 186) hx hb dX12_rows_132 (by decide) (fun _ => ?_) (fun h => absurd (by decide) h)
  refine lv_iinc (v := 1) (lv' := [(4, .int 1), (5, .int 0), (3, .int 2), (0, .ref q0), (1, .int x0), (2, .int x1)]) hx hb dX12_rows_186 hl (k := 1) rfl (by decide +kernel) (by decide) rfl (fun ls hl => ?_)
  refine lv_goto (tgt := 114) hx hb dX12_rows_189 (by decide) ?_
  refine lv_iload hx hb dX12_rows_114 (lv_at hl 0 rfl) ?_
  refine lv_aload_n hx hb dX12_rows_116 rfl (lv_at hl 3 rfl) ?_
  refine r_get C w 9 rfl fr_X12_322 rfl dX12_rows_117 ?_
  refine lv_icmp_ge (tgt := 192) hx hb dX12_rows_120 (by decide) (fun _ => ?_) (fun h => absurd (by decide) h)
  refine lv_iconst (v := 0) hx hb dX12_rows_192 (by decide) ?_
  refine lv_istore (lv' := [(4, .int 0), (5, .int 0), (3, .int 2), (0, .ref q0), (1, .int x0), (2, .int x1)]) hx hb dX12_rows_193 hl (by decide) rfl (fun ls hl => ?_)
  refine lv_iload hx hb dX12_rows_195 (lv_at hl 0 rfl) ?_
  refine lv_aload_n hx hb dX12_rows_197 rfl (lv_at hl 3 rfl) ?_
  refine r_get C w 9 rfl fr_X12_322 rfl dX12_rows_198 ?_
  refine lv_icmp_ge (tgt := 224) hx hb dX12_rows_201 (by decide) (fun h => absurd h (by decide)) (fun _ => ?_)
  refine lv_aload_n hx hb dX12_rows_204 rfl (lv_at hl 3 rfl) ?_
  refine r_get C w 9 rfl fr_X12_99 rfl dX12_rows_205 ?_
  refine lv_iload hx hb dX12_rows_208 (lv_at hl 0 rfl) ?_
  refine lv_aload_n hx hb dX12_rows_210 rfl (lv_at hl 3 rfl) ?_
  refine r_get C w 9 rfl fr_X12_103 rfl dX12_rows_211 ?_
  refine lv_iload hx hb dX12_rows_214 (lv_at hl 0 rfl) ?_
  refine r_lald C w 1 rfl (IX.of (k := 0) (by decide +kernel)) (v := 0) rfl dX12_rows_216 ?_
  refine r_last C w 0 rfl (IX.of (k := 0) (by decide +kernel)) (g := (vp_updL (vp_updL (vp_updL (vp_updL (fun _ => 0) 0 1) 0 0) 0 0) 0 0)) rfl dX12_rows_217 (ws2 := [(q9, .inl (G.2.2.1, 3000, .inr (.inl (vp_updL (vp_updL (vp_updL (vp_updL (fun _ => 0) 0 1) 0 0) 0 0) 0 0)))), (q10, .inl (G.2.2.1, 3000, .inr (.inl (fun _ => 0)))), (q1, .inl (G.2.1, 4096, .inl (upd (fun _ => (-1)) 0 0))), (q2, .inl (G.2.1, 57, .inl (fun _ => 0))), (q3, .inl (G.2.1, 8, .inl (fun _ => 0))), (q4, .inl (G.2.1, 24008, .inl (fun _ => 0))), (q5, .inl (G.2.1, 3000, .inl (upd (fun _ => 0) 0 (-1)))), (q6, .inl (G.2.1, 3000, .inl (upd (fun _ => 0) 0 (-1)))), (q7, .inl (G.2.1, 3000, .inl (upd (fun _ => 0) 0 (-1)))), (q0, .inr (12, [.int 0, .int 0, .int 0, .int 0, .int 0, .int 0, .int 0, .int (-1), .ref q11, .ref q8, .ref q12, .int 0, .ref q13, .ref q14, .ref q15, .ref q16, .ref q17, .ref q2, .ref q18, .int 0, .ref q3, .ref q4, .ref q19, .ref q6, .ref q7, .ref q1, .ref q5, .int 1, .int (-1), .int 0, .ref q20, .ref q21, .ref q22, .ref q23, .ref q24, .ref q25, .ref q26, .ref q27, .int 0, .ref q28, .ref q9, .ref q10, .ref q29, .ref q30, .int 0, .ref q31, .ref q32, .ref q33, .ref q34, .int 0, .ref q35, .ref q36, .ref q37, .ref q38, .int 0, .int 0, .ref q39, .ref q40, .ref q41, .ref q42])), (q8, .inl (G.2.1, 242, .inl (fun _ => 0)))]) rfl (fun H locs w => ?_)
  refine lv_iinc (v := 1) (lv' := [(4, .int 1), (5, .int 0), (3, .int 2), (0, .ref q0), (1, .int x0), (2, .int x1)]) hx hb dX12_rows_218 hl (k := 0) rfl (by decide +kernel) (by decide) rfl (fun ls hl => ?_)
  refine lv_goto (tgt := 195) hx hb dX12_rows_221 (by decide) ?_
  refine lv_iload hx hb dX12_rows_195 (lv_at hl 0 rfl) ?_
  refine lv_aload_n hx hb dX12_rows_197 rfl (lv_at hl 3 rfl) ?_
  refine r_get C w 9 rfl fr_X12_322 rfl dX12_rows_198 ?_
  refine lv_icmp_ge (tgt := 224) hx hb dX12_rows_201 (by decide) (fun _ => ?_) (fun h => absurd (by decide) h)
  refine lv_iinc (v := 3) (lv' := [(3, .int 3), (4, .int 1), (5, .int 0), (0, .ref q0), (1, .int x0), (2, .int x1)]) hx hb dX12_rows_224 hl (k := 2) rfl (by decide +kernel) (by decide) rfl (fun ls hl => ?_)
  refine lv_goto (tgt := 80) hx hb dX12_rows_227 (by decide) ?_
  refine lv_iload_n hx hb dX12_rows_80 rfl (lv_at hl 0 rfl) ?_
  refine lv_iload_n hx hb dX12_rows_81 rfl (lv_at hl 5 rfl) ?_
  refine lv_icmp_ge (tgt := 230) hx hb dX12_rows_82 (by decide) (fun h => absurd h (Int32.not_le.mpr h4)) (fun _ => ?_)
  refine lv_iconst (v := 0) hx hb dX12_rows_85 (by decide) ?_
  refine lv_istore (lv' := [(4, .int 0), (3, .int 3), (5, .int 0), (0, .ref q0), (1, .int x0), (2, .int x1)]) hx hb dX12_rows_86 hl (by decide) rfl (fun ls hl => ?_)
  refine lv_iload hx hb dX12_rows_88 (lv_at hl 0 rfl) ?_
  refine lv_aload_n hx hb dX12_rows_90 rfl (lv_at hl 3 rfl) ?_
  refine r_get C w 9 rfl fr_X12_322 rfl dX12_rows_91 ?_
  refine lv_icmp_ge (tgt := 111) hx hb dX12_rows_94 (by decide) (fun h => absurd h (by decide)) (fun _ => ?_)
  refine lv_aload_n hx hb dX12_rows_97 rfl (lv_at hl 3 rfl) ?_
  refine r_get C w 9 rfl fr_X12_103 rfl dX12_rows_98 ?_
  refine lv_iload hx hb dX12_rows_101 (lv_at hl 0 rfl) ?_
  refine lv_lconst (v := 0) hx hb dX12_rows_103 (by decide) ?_
  refine r_last C w 1 rfl (IX.of (k := 0) (by decide +kernel)) (g := (fun _ => 0)) (updL_c _ _) dX12_rows_104 (ws2 := [(q9, .inl (G.2.2.1, 3000, .inr (.inl (vp_updL (vp_updL (vp_updL (vp_updL (fun _ => 0) 0 1) 0 0) 0 0) 0 0)))), (q10, .inl (G.2.2.1, 3000, .inr (.inl (fun _ => 0)))), (q1, .inl (G.2.1, 4096, .inl (upd (fun _ => (-1)) 0 0))), (q2, .inl (G.2.1, 57, .inl (fun _ => 0))), (q3, .inl (G.2.1, 8, .inl (fun _ => 0))), (q4, .inl (G.2.1, 24008, .inl (fun _ => 0))), (q5, .inl (G.2.1, 3000, .inl (upd (fun _ => 0) 0 (-1)))), (q6, .inl (G.2.1, 3000, .inl (upd (fun _ => 0) 0 (-1)))), (q7, .inl (G.2.1, 3000, .inl (upd (fun _ => 0) 0 (-1)))), (q0, .inr (12, [.int 0, .int 0, .int 0, .int 0, .int 0, .int 0, .int 0, .int (-1), .ref q11, .ref q8, .ref q12, .int 0, .ref q13, .ref q14, .ref q15, .ref q16, .ref q17, .ref q2, .ref q18, .int 0, .ref q3, .ref q4, .ref q19, .ref q6, .ref q7, .ref q1, .ref q5, .int 1, .int (-1), .int 0, .ref q20, .ref q21, .ref q22, .ref q23, .ref q24, .ref q25, .ref q26, .ref q27, .int 0, .ref q28, .ref q9, .ref q10, .ref q29, .ref q30, .int 0, .ref q31, .ref q32, .ref q33, .ref q34, .int 0, .ref q35, .ref q36, .ref q37, .ref q38, .int 0, .int 0, .ref q39, .ref q40, .ref q41, .ref q42])), (q8, .inl (G.2.1, 242, .inl (fun _ => 0)))]) rfl (fun H locs w => ?_)
  refine lv_iinc (v := 1) (lv' := [(4, .int 1), (3, .int 3), (5, .int 0), (0, .ref q0), (1, .int x0), (2, .int x1)]) hx hb dX12_rows_105 hl (k := 0) rfl (by decide +kernel) (by decide) rfl (fun ls hl => ?_)
  refine lv_goto (tgt := 88) hx hb dX12_rows_108 (by decide) ?_
  refine lv_iload hx hb dX12_rows_88 (lv_at hl 0 rfl) ?_
  refine lv_aload_n hx hb dX12_rows_90 rfl (lv_at hl 3 rfl) ?_
  refine r_get C w 9 rfl fr_X12_322 rfl dX12_rows_91 ?_
  refine lv_icmp_ge (tgt := 111) hx hb dX12_rows_94 (by decide) (fun _ => ?_) (fun h => absurd (by decide) h)
  refine lv_iconst (v := 0) hx hb dX12_rows_111 (by decide) ?_
  refine lv_istore (lv' := [(4, .int 0), (3, .int 3), (5, .int 0), (0, .ref q0), (1, .int x0), (2, .int x1)]) hx hb dX12_rows_112 hl (by decide) rfl (fun ls hl => ?_)
  refine lv_iload hx hb dX12_rows_114 (lv_at hl 0 rfl) ?_
  refine lv_aload_n hx hb dX12_rows_116 rfl (lv_at hl 3 rfl) ?_
  refine r_get C w 9 rfl fr_X12_322 rfl dX12_rows_117 ?_
  refine lv_icmp_ge (tgt := 192) hx hb dX12_rows_120 (by decide) (fun h => absurd h (by decide)) (fun _ => ?_)
  refine lv_iconst (v := 0) hx hb dX12_rows_123 (by decide) ?_
  refine lv_istore (lv' := [(5, .int 0), (4, .int 0), (3, .int 3), (0, .ref q0), (1, .int x0), (2, .int x1)]) hx hb dX12_rows_124 hl (by decide) rfl (fun ls hl => ?_)
  refine lv_iload hx hb dX12_rows_126 (lv_at hl 0 rfl) ?_
  refine lv_aload_n hx hb dX12_rows_128 rfl (lv_at hl 3 rfl) ?_
  refine fin_i C w (run_V C w mv_X12_286 (k123_acts C.b0 q0 q8 q11 q12 q13 q14 q15 q16 q17 q2 q18 q3 q4 q19 q6 q7 q1 q5 q20 q21 q22 q23 q24 q25 q26 q27 q28 q9 q10 q29 q30 q31 q32 q33 q34 q35 q36 q37 q38 q39 q40 q41 q42 H.size) [9, 10] rfl rfl 9 rfl rfl (by decide) rfl hl.1 rfl (Nat.le_of_ble_eq_true rfl) dX12_rows_129 (cells2 := 0) (slots2 := 0) (by decide)) [9, 10] [0, 1, 2, 3, 4, 5, 6, 7, 8] rfl rfl (by decide) (cells2 := 0) (slots2 := 0) (by decide) (fun u8 H locs w => ?_)
  have w : Wd s G A [(q9, .inl (G.2.2.1, 3000, .inr (.inl (vp_updL (vp_updL (vp_updL (vp_updL (fun _ => 0) 0 1) 0 0) 0 0) 0 0)))), (q10, .inl (G.2.2.1, 3000, .inr (.inl (fun _ => 0)))), (q1, .inl (G.2.1, 4096, .inl (upd (fun _ => (-1)) 0 0))), (q2, .inl (G.2.1, 57, .inl (fun _ => 0))), (q3, .inl (G.2.1, 8, .inl (fun _ => 0))), (q4, .inl (G.2.1, 24008, .inl (fun _ => 0))), (q5, .inl (G.2.1, 3000, .inl (upd (fun _ => 0) 0 (-1)))), (q6, .inl (G.2.1, 3000, .inl (upd (fun _ => 0) 0 (-1)))), (q7, .inl (G.2.1, 3000, .inl (upd (fun _ => 0) 0 (-1)))), (q0, .inr (12, [.int 0, .int 0, .int 0, .int 0, .int 0, .int 0, .int 0, .int (-1), .ref q11, .ref q8, .ref q12, .int 0, .ref q13, .ref q14, .ref q15, .ref q16, .ref q17, .ref q2, .ref q18, .int 0, .ref q3, .ref q4, .ref q19, .ref q6, .ref q7, .ref q1, .ref q5, .int 1, .int (-1), .int 0, .ref q20, .ref q21, .ref q22, .ref q23, .ref q24, .ref q25, .ref q26, .ref q27, .int 0, .ref q28, .ref q9, .ref q10, .ref q29, .ref q30, .int 0, .ref q31, .ref q32, .ref q33, .ref q34, .int 0, .ref q35, .ref q36, .ref q37, .ref q38, .int 0, .int 0, .ref q39, .ref q40, .ref q41, .ref q42])), (q8, .inl (G.2.1, 242, .inl (fun _ => 0)))] H locs := w
  refine lv_icmp_ge (tgt := 186) hx hb dX12_rows_132 (by decide) (fun _ => ?_) (fun h => absurd (by decide) h)
  refine lv_iinc (v := 1) (lv' := [(4, .int 1), (5, .int 0), (3, .int 3), (0, .ref q0), (1, .int x0), (2, .int x1)]) hx hb dX12_rows_186 hl (k := 1) rfl (by decide +kernel) (by decide) rfl (fun ls hl => ?_)
  refine lv_goto (tgt := 114) hx hb dX12_rows_189 (by decide) ?_
  refine lv_iload hx hb dX12_rows_114 (lv_at hl 0 rfl) ?_
  refine lv_aload_n hx hb dX12_rows_116 rfl (lv_at hl 3 rfl) ?_
  refine r_get C w 9 rfl fr_X12_322 rfl dX12_rows_117 ?_
  refine lv_icmp_ge (tgt := 192) hx hb dX12_rows_120 (by decide) (fun _ => ?_) (fun h => absurd (by decide) h)
  refine lv_iconst (v := 0) hx hb dX12_rows_192 (by decide) ?_
  refine lv_istore (lv' := [(4, .int 0), (5, .int 0), (3, .int 3), (0, .ref q0), (1, .int x0), (2, .int x1)]) hx hb dX12_rows_193 hl (by decide) rfl (fun ls hl => ?_)
  refine lv_iload hx hb dX12_rows_195 (lv_at hl 0 rfl) ?_
  refine lv_aload_n hx hb dX12_rows_197 rfl (lv_at hl 3 rfl) ?_
  refine r_get C w 9 rfl fr_X12_322 rfl dX12_rows_198 ?_
  refine lv_icmp_ge (tgt := 224) hx hb dX12_rows_201 (by decide) (fun h => absurd h (by decide)) (fun _ => ?_)
  refine lv_aload_n hx hb dX12_rows_204 rfl (lv_at hl 3 rfl) ?_
  refine r_get C w 9 rfl fr_X12_99 rfl dX12_rows_205 ?_
  refine lv_iload hx hb dX12_rows_208 (lv_at hl 0 rfl) ?_
  refine lv_aload_n hx hb dX12_rows_210 rfl (lv_at hl 3 rfl) ?_
  refine r_get C w 9 rfl fr_X12_103 rfl dX12_rows_211 ?_
  refine lv_iload hx hb dX12_rows_214 (lv_at hl 0 rfl) ?_
  refine r_lald C w 1 rfl (IX.of (k := 0) (by decide +kernel)) (v := 0) rfl dX12_rows_216 ?_
  refine r_last C w 0 rfl (IX.of (k := 0) (by decide +kernel)) (g := (vp_updL (vp_updL (vp_updL (vp_updL (vp_updL (fun _ => 0) 0 1) 0 0) 0 0) 0 0) 0 0)) rfl dX12_rows_217 (ws2 := [(q9, .inl (G.2.2.1, 3000, .inr (.inl (vp_updL (vp_updL (vp_updL (vp_updL (vp_updL (fun _ => 0) 0 1) 0 0) 0 0) 0 0) 0 0)))), (q10, .inl (G.2.2.1, 3000, .inr (.inl (fun _ => 0)))), (q1, .inl (G.2.1, 4096, .inl (upd (fun _ => (-1)) 0 0))), (q2, .inl (G.2.1, 57, .inl (fun _ => 0))), (q3, .inl (G.2.1, 8, .inl (fun _ => 0))), (q4, .inl (G.2.1, 24008, .inl (fun _ => 0))), (q5, .inl (G.2.1, 3000, .inl (upd (fun _ => 0) 0 (-1)))), (q6, .inl (G.2.1, 3000, .inl (upd (fun _ => 0) 0 (-1)))), (q7, .inl (G.2.1, 3000, .inl (upd (fun _ => 0) 0 (-1)))), (q0, .inr (12, [.int 0, .int 0, .int 0, .int 0, .int 0, .int 0, .int 0, .int (-1), .ref q11, .ref q8, .ref q12, .int 0, .ref q13, .ref q14, .ref q15, .ref q16, .ref q17, .ref q2, .ref q18, .int 0, .ref q3, .ref q4, .ref q19, .ref q6, .ref q7, .ref q1, .ref q5, .int 1, .int (-1), .int 0, .ref q20, .ref q21, .ref q22, .ref q23, .ref q24, .ref q25, .ref q26, .ref q27, .int 0, .ref q28, .ref q9, .ref q10, .ref q29, .ref q30, .int 0, .ref q31, .ref q32, .ref q33, .ref q34, .int 0, .ref q35, .ref q36, .ref q37, .ref q38, .int 0, .int 0, .ref q39, .ref q40, .ref q41, .ref q42])), (q8, .inl (G.2.1, 242, .inl (fun _ => 0)))]) rfl (fun H locs w => ?_)
  refine lv_iinc (v := 1) (lv' := [(4, .int 1), (5, .int 0), (3, .int 3), (0, .ref q0), (1, .int x0), (2, .int x1)]) hx hb dX12_rows_218 hl (k := 0) rfl (by decide +kernel) (by decide) rfl (fun ls hl => ?_)
  refine lv_goto (tgt := 195) hx hb dX12_rows_221 (by decide) ?_
  refine lv_iload hx hb dX12_rows_195 (lv_at hl 0 rfl) ?_
  refine lv_aload_n hx hb dX12_rows_197 rfl (lv_at hl 3 rfl) ?_
  refine r_get C w 9 rfl fr_X12_322 rfl dX12_rows_198 ?_
  refine lv_icmp_ge (tgt := 224) hx hb dX12_rows_201 (by decide) (fun _ => ?_) (fun h => absurd (by decide) h)
  refine lv_iinc (v := 4) (lv' := [(3, .int 4), (4, .int 1), (5, .int 0), (0, .ref q0), (1, .int x0), (2, .int x1)]) hx hb dX12_rows_224 hl (k := 2) rfl (by decide +kernel) (by decide) rfl (fun ls hl => ?_)
  refine lv_goto (tgt := 80) hx hb dX12_rows_227 (by decide) ?_
  refine lv_iload_n hx hb dX12_rows_80 rfl (lv_at hl 0 rfl) ?_
  refine lv_iload_n hx hb dX12_rows_81 rfl (lv_at hl 5 rfl) ?_
  refine lv_icmp_ge (tgt := 230) hx hb dX12_rows_82 (by decide) (fun h => absurd h (Int32.not_le.mpr h6)) (fun _ => ?_)
  refine lv_iconst (v := 0) hx hb dX12_rows_85 (by decide) ?_
  refine lv_istore (lv' := [(4, .int 0), (3, .int 4), (5, .int 0), (0, .ref q0), (1, .int x0), (2, .int x1)]) hx hb dX12_rows_86 hl (by decide) rfl (fun ls hl => ?_)
  refine lv_iload hx hb dX12_rows_88 (lv_at hl 0 rfl) ?_
  refine lv_aload_n hx hb dX12_rows_90 rfl (lv_at hl 3 rfl) ?_
  refine r_get C w 9 rfl fr_X12_322 rfl dX12_rows_91 ?_
  refine lv_icmp_ge (tgt := 111) hx hb dX12_rows_94 (by decide) (fun h => absurd h (by decide)) (fun _ => ?_)
  refine lv_aload_n hx hb dX12_rows_97 rfl (lv_at hl 3 rfl) ?_
  refine r_get C w 9 rfl fr_X12_103 rfl dX12_rows_98 ?_
  refine lv_iload hx hb dX12_rows_101 (lv_at hl 0 rfl) ?_
  refine lv_lconst (v := 0) hx hb dX12_rows_103 (by decide) ?_
  refine r_last C w 1 rfl (IX.of (k := 0) (by decide +kernel)) (g := (fun _ => 0)) (updL_c _ _) dX12_rows_104 (ws2 := [(q9, .inl (G.2.2.1, 3000, .inr (.inl (vp_updL (vp_updL (vp_updL (vp_updL (vp_updL (fun _ => 0) 0 1) 0 0) 0 0) 0 0) 0 0)))), (q10, .inl (G.2.2.1, 3000, .inr (.inl (fun _ => 0)))), (q1, .inl (G.2.1, 4096, .inl (upd (fun _ => (-1)) 0 0))), (q2, .inl (G.2.1, 57, .inl (fun _ => 0))), (q3, .inl (G.2.1, 8, .inl (fun _ => 0))), (q4, .inl (G.2.1, 24008, .inl (fun _ => 0))), (q5, .inl (G.2.1, 3000, .inl (upd (fun _ => 0) 0 (-1)))), (q6, .inl (G.2.1, 3000, .inl (upd (fun _ => 0) 0 (-1)))), (q7, .inl (G.2.1, 3000, .inl (upd (fun _ => 0) 0 (-1)))), (q0, .inr (12, [.int 0, .int 0, .int 0, .int 0, .int 0, .int 0, .int 0, .int (-1), .ref q11, .ref q8, .ref q12, .int 0, .ref q13, .ref q14, .ref q15, .ref q16, .ref q17, .ref q2, .ref q18, .int 0, .ref q3, .ref q4, .ref q19, .ref q6, .ref q7, .ref q1, .ref q5, .int 1, .int (-1), .int 0, .ref q20, .ref q21, .ref q22, .ref q23, .ref q24, .ref q25, .ref q26, .ref q27, .int 0, .ref q28, .ref q9, .ref q10, .ref q29, .ref q30, .int 0, .ref q31, .ref q32, .ref q33, .ref q34, .int 0, .ref q35, .ref q36, .ref q37, .ref q38, .int 0, .int 0, .ref q39, .ref q40, .ref q41, .ref q42])), (q8, .inl (G.2.1, 242, .inl (fun _ => 0)))]) rfl (fun H locs w => ?_)
  refine lv_iinc (v := 1) (lv' := [(4, .int 1), (3, .int 4), (5, .int 0), (0, .ref q0), (1, .int x0), (2, .int x1)]) hx hb dX12_rows_105 hl (k := 0) rfl (by decide +kernel) (by decide) rfl (fun ls hl => ?_)
  refine lv_goto (tgt := 88) hx hb dX12_rows_108 (by decide) ?_
  refine lv_iload hx hb dX12_rows_88 (lv_at hl 0 rfl) ?_
  refine lv_aload_n hx hb dX12_rows_90 rfl (lv_at hl 3 rfl) ?_
  refine r_get C w 9 rfl fr_X12_322 rfl dX12_rows_91 ?_
  refine lv_icmp_ge (tgt := 111) hx hb dX12_rows_94 (by decide) (fun _ => ?_) (fun h => absurd (by decide) h)
  refine lv_iconst (v := 0) hx hb dX12_rows_111 (by decide) ?_
  refine lv_istore (lv' := [(4, .int 0), (3, .int 4), (5, .int 0), (0, .ref q0), (1, .int x0), (2, .int x1)]) hx hb dX12_rows_112 hl (by decide) rfl (fun ls hl => ?_)
  refine lv_iload hx hb dX12_rows_114 (lv_at hl 0 rfl) ?_
  refine lv_aload_n hx hb dX12_rows_116 rfl (lv_at hl 3 rfl) ?_
  refine r_get C w 9 rfl fr_X12_322 rfl dX12_rows_117 ?_
  refine lv_icmp_ge (tgt := 192) hx hb dX12_rows_120 (by decide) (fun h => absurd h (by decide)) (fun _ => ?_)
  refine lv_iconst (v := 0) hx hb dX12_rows_123 (by decide) ?_
  refine lv_istore (lv' := [(5, .int 0), (4, .int 0), (3, .int 4), (0, .ref q0), (1, .int x0), (2, .int x1)]) hx hb dX12_rows_124 hl (by decide) rfl (fun ls hl => ?_)
  refine lv_iload hx hb dX12_rows_126 (lv_at hl 0 rfl) ?_
  refine lv_aload_n hx hb dX12_rows_128 rfl (lv_at hl 3 rfl) ?_
  refine fin_i C w (run_V C w mv_X12_286 (k123_acts C.b0 q0 q8 q11 q12 q13 q14 q15 q16 q17 q2 q18 q3 q4 q19 q6 q7 q1 q5 q20 q21 q22 q23 q24 q25 q26 q27 q28 q9 q10 q29 q30 q31 q32 q33 q34 q35 q36 q37 q38 q39 q40 q41 q42 H.size) [9, 10] rfl rfl 9 rfl rfl (by decide) rfl hl.1 rfl (Nat.le_of_ble_eq_true rfl) dX12_rows_129 (cells2 := 0) (slots2 := 0) (by decide)) [9, 10] [0, 1, 2, 3, 4, 5, 6, 7, 8] rfl rfl (by decide) (cells2 := 0) (slots2 := 0) (by decide) (fun u9 H locs w => ?_)
  have w : Wd s G A [(q9, .inl (G.2.2.1, 3000, .inr (.inl (vp_updL (vp_updL (vp_updL (vp_updL (vp_updL (fun _ => 0) 0 1) 0 0) 0 0) 0 0) 0 0)))), (q10, .inl (G.2.2.1, 3000, .inr (.inl (fun _ => 0)))), (q1, .inl (G.2.1, 4096, .inl (upd (fun _ => (-1)) 0 0))), (q2, .inl (G.2.1, 57, .inl (fun _ => 0))), (q3, .inl (G.2.1, 8, .inl (fun _ => 0))), (q4, .inl (G.2.1, 24008, .inl (fun _ => 0))), (q5, .inl (G.2.1, 3000, .inl (upd (fun _ => 0) 0 (-1)))), (q6, .inl (G.2.1, 3000, .inl (upd (fun _ => 0) 0 (-1)))), (q7, .inl (G.2.1, 3000, .inl (upd (fun _ => 0) 0 (-1)))), (q0, .inr (12, [.int 0, .int 0, .int 0, .int 0, .int 0, .int 0, .int 0, .int (-1), .ref q11, .ref q8, .ref q12, .int 0, .ref q13, .ref q14, .ref q15, .ref q16, .ref q17, .ref q2, .ref q18, .int 0, .ref q3, .ref q4, .ref q19, .ref q6, .ref q7, .ref q1, .ref q5, .int 1, .int (-1), .int 0, .ref q20, .ref q21, .ref q22, .ref q23, .ref q24, .ref q25, .ref q26, .ref q27, .int 0, .ref q28, .ref q9, .ref q10, .ref q29, .ref q30, .int 0, .ref q31, .ref q32, .ref q33, .ref q34, .int 0, .ref q35, .ref q36, .ref q37, .ref q38, .int 0, .int 0, .ref q39, .ref q40, .ref q41, .ref q42])), (q8, .inl (G.2.1, 242, .inl (fun _ => 0)))] H locs := w
  refine lv_icmp_ge (tgt := 186) hx hb dX12_rows_132 (by decide) (fun _ => ?_) (fun h => absurd (by decide) h)
  refine lv_iinc (v := 1) (lv' := [(4, .int 1), (5, .int 0), (3, .int 4), (0, .ref q0), (1, .int x0), (2, .int x1)]) hx hb dX12_rows_186 hl (k := 1) rfl (by decide +kernel) (by decide) rfl (fun ls hl => ?_)
  refine lv_goto (tgt := 114) hx hb dX12_rows_189 (by decide) ?_
  refine lv_iload hx hb dX12_rows_114 (lv_at hl 0 rfl) ?_
  refine lv_aload_n hx hb dX12_rows_116 rfl (lv_at hl 3 rfl) ?_
  refine r_get C w 9 rfl fr_X12_322 rfl dX12_rows_117 ?_
  refine lv_icmp_ge (tgt := 192) hx hb dX12_rows_120 (by decide) (fun _ => ?_) (fun h => absurd (by decide) h)
  refine lv_iconst (v := 0) hx hb dX12_rows_192 (by decide) ?_
  refine lv_istore (lv' := [(4, .int 0), (5, .int 0), (3, .int 4), (0, .ref q0), (1, .int x0), (2, .int x1)]) hx hb dX12_rows_193 hl (by decide) rfl (fun ls hl => ?_)
  refine lv_iload hx hb dX12_rows_195 (lv_at hl 0 rfl) ?_
  refine lv_aload_n hx hb dX12_rows_197 rfl (lv_at hl 3 rfl) ?_
  refine r_get C w 9 rfl fr_X12_322 rfl dX12_rows_198 ?_
  refine lv_icmp_ge (tgt := 224) hx hb dX12_rows_201 (by decide) (fun h => absurd h (by decide)) (fun _ => ?_)
  refine lv_aload_n hx hb dX12_rows_204 rfl (lv_at hl 3 rfl) ?_
  refine r_get C w 9 rfl fr_X12_99 rfl dX12_rows_205 ?_
  refine lv_iload hx hb dX12_rows_208 (lv_at hl 0 rfl) ?_
  refine lv_aload_n hx hb dX12_rows_210 rfl (lv_at hl 3 rfl) ?_
  refine r_get C w 9 rfl fr_X12_103 rfl dX12_rows_211 ?_
  refine lv_iload hx hb dX12_rows_214 (lv_at hl 0 rfl) ?_
  refine r_lald C w 1 rfl (IX.of (k := 0) (by decide +kernel)) (v := 0) rfl dX12_rows_216 ?_
  refine r_last C w 0 rfl (IX.of (k := 0) (by decide +kernel)) (g := (vp_updL (vp_updL (vp_updL (vp_updL (vp_updL (vp_updL (fun _ => 0) 0 1) 0 0) 0 0) 0 0) 0 0) 0 0)) rfl dX12_rows_217 (ws2 := [(q9, .inl (G.2.2.1, 3000, .inr (.inl (vp_updL (vp_updL (vp_updL (vp_updL (vp_updL (vp_updL (fun _ => 0) 0 1) 0 0) 0 0) 0 0) 0 0) 0 0)))), (q10, .inl (G.2.2.1, 3000, .inr (.inl (fun _ => 0)))), (q1, .inl (G.2.1, 4096, .inl (upd (fun _ => (-1)) 0 0))), (q2, .inl (G.2.1, 57, .inl (fun _ => 0))), (q3, .inl (G.2.1, 8, .inl (fun _ => 0))), (q4, .inl (G.2.1, 24008, .inl (fun _ => 0))), (q5, .inl (G.2.1, 3000, .inl (upd (fun _ => 0) 0 (-1)))), (q6, .inl (G.2.1, 3000, .inl (upd (fun _ => 0) 0 (-1)))), (q7, .inl (G.2.1, 3000, .inl (upd (fun _ => 0) 0 (-1)))), (q0, .inr (12, [.int 0, .int 0, .int 0, .int 0, .int 0, .int 0, .int 0, .int (-1), .ref q11, .ref q8, .ref q12, .int 0, .ref q13, .ref q14, .ref q15, .ref q16, .ref q17, .ref q2, .ref q18, .int 0, .ref q3, .ref q4, .ref q19, .ref q6, .ref q7, .ref q1, .ref q5, .int 1, .int (-1), .int 0, .ref q20, .ref q21, .ref q22, .ref q23, .ref q24, .ref q25, .ref q26, .ref q27, .int 0, .ref q28, .ref q9, .ref q10, .ref q29, .ref q30, .int 0, .ref q31, .ref q32, .ref q33, .ref q34, .int 0, .ref q35, .ref q36, .ref q37, .ref q38, .int 0, .int 0, .ref q39, .ref q40, .ref q41, .ref q42])), (q8, .inl (G.2.1, 242, .inl (fun _ => 0)))]) rfl (fun H locs w => ?_)
  refine lv_iinc (v := 1) (lv' := [(4, .int 1), (5, .int 0), (3, .int 4), (0, .ref q0), (1, .int x0), (2, .int x1)]) hx hb dX12_rows_218 hl (k := 0) rfl (by decide +kernel) (by decide) rfl (fun ls hl => ?_)
  refine lv_goto (tgt := 195) hx hb dX12_rows_221 (by decide) ?_
  refine lv_iload hx hb dX12_rows_195 (lv_at hl 0 rfl) ?_
  refine lv_aload_n hx hb dX12_rows_197 rfl (lv_at hl 3 rfl) ?_
  refine r_get C w 9 rfl fr_X12_322 rfl dX12_rows_198 ?_
  refine lv_icmp_ge (tgt := 224) hx hb dX12_rows_201 (by decide) (fun _ => ?_) (fun h => absurd (by decide) h)
  refine lv_iinc (v := 5) (lv' := [(3, .int 5), (4, .int 1), (5, .int 0), (0, .ref q0), (1, .int x0), (2, .int x1)]) hx hb dX12_rows_224 hl (k := 2) rfl (by decide +kernel) (by decide) rfl (fun ls hl => ?_)
  refine lv_goto (tgt := 80) hx hb dX12_rows_227 (by decide) ?_
  refine lv_iload_n hx hb dX12_rows_80 rfl (lv_at hl 0 rfl) ?_
  refine lv_iload_n hx hb dX12_rows_81 rfl (lv_at hl 5 rfl) ?_
  refine lv_icmp_ge (tgt := 230) hx hb dX12_rows_82 (by decide) (fun h => absurd h (Int32.not_le.mpr h7)) (fun _ => ?_)
  refine lv_iconst (v := 0) hx hb dX12_rows_85 (by decide) ?_
  refine lv_istore (lv' := [(4, .int 0), (3, .int 5), (5, .int 0), (0, .ref q0), (1, .int x0), (2, .int x1)]) hx hb dX12_rows_86 hl (by decide) rfl (fun ls hl => ?_)
  refine lv_iload hx hb dX12_rows_88 (lv_at hl 0 rfl) ?_
  refine lv_aload_n hx hb dX12_rows_90 rfl (lv_at hl 3 rfl) ?_
  refine r_get C w 9 rfl fr_X12_322 rfl dX12_rows_91 ?_
  refine lv_icmp_ge (tgt := 111) hx hb dX12_rows_94 (by decide) (fun h => absurd h (by decide)) (fun _ => ?_)
  refine lv_aload_n hx hb dX12_rows_97 rfl (lv_at hl 3 rfl) ?_
  refine r_get C w 9 rfl fr_X12_103 rfl dX12_rows_98 ?_
  refine lv_iload hx hb dX12_rows_101 (lv_at hl 0 rfl) ?_
  refine lv_lconst (v := 0) hx hb dX12_rows_103 (by decide) ?_
  refine r_last C w 1 rfl (IX.of (k := 0) (by decide +kernel)) (g := (fun _ => 0)) (updL_c _ _) dX12_rows_104 (ws2 := [(q9, .inl (G.2.2.1, 3000, .inr (.inl (vp_updL (vp_updL (vp_updL (vp_updL (vp_updL (vp_updL (fun _ => 0) 0 1) 0 0) 0 0) 0 0) 0 0) 0 0)))), (q10, .inl (G.2.2.1, 3000, .inr (.inl (fun _ => 0)))), (q1, .inl (G.2.1, 4096, .inl (upd (fun _ => (-1)) 0 0))), (q2, .inl (G.2.1, 57, .inl (fun _ => 0))), (q3, .inl (G.2.1, 8, .inl (fun _ => 0))), (q4, .inl (G.2.1, 24008, .inl (fun _ => 0))), (q5, .inl (G.2.1, 3000, .inl (upd (fun _ => 0) 0 (-1)))), (q6, .inl (G.2.1, 3000, .inl (upd (fun _ => 0) 0 (-1)))), (q7, .inl (G.2.1, 3000, .inl (upd (fun _ => 0) 0 (-1)))), (q0, .inr (12, [.int 0, .int 0, .int 0, .int 0, .int 0, .int 0, .int 0, .int (-1), .ref q11, .ref q8, .ref q12, .int 0, .ref q13, .ref q14, .ref q15, .ref q16, .ref q17, .ref q2, .ref q18, .int 0, .ref q3, .ref q4, .ref q19, .ref q6, .ref q7, .ref q1, .ref q5, .int 1, .int (-1), .int 0, .ref q20, .ref q21, .ref q22, .ref q23, .ref q24, .ref q25, .ref q26, .ref q27, .int 0, .ref q28, .ref q9, .ref q10, .ref q29, .ref q30, .int 0, .ref q31, .ref q32, .ref q33, .ref q34, .int 0, .ref q35, .ref q36, .ref q37, .ref q38, .int 0, .int 0, .ref q39, .ref q40, .ref q41, .ref q42])), (q8, .inl (G.2.1, 242, .inl (fun _ => 0)))]) rfl (fun H locs w => ?_)
  refine lv_iinc (v := 1) (lv' := [(4, .int 1), (3, .int 5), (5, .int 0), (0, .ref q0), (1, .int x0), (2, .int x1)]) hx hb dX12_rows_105 hl (k := 0) rfl (by decide +kernel) (by decide) rfl (fun ls hl => ?_)
  refine lv_goto (tgt := 88) hx hb dX12_rows_108 (by decide) ?_
  refine lv_iload hx hb dX12_rows_88 (lv_at hl 0 rfl) ?_
  refine lv_aload_n hx hb dX12_rows_90 rfl (lv_at hl 3 rfl) ?_
  refine r_get C w 9 rfl fr_X12_322 rfl dX12_rows_91 ?_
  refine lv_icmp_ge (tgt := 111) hx hb dX12_rows_94 (by decide) (fun _ => ?_) (fun h => absurd (by decide) h)
  refine lv_iconst (v := 0) hx hb dX12_rows_111 (by decide) ?_
  refine lv_istore (lv' := [(4, .int 0), (3, .int 5), (5, .int 0), (0, .ref q0), (1, .int x0), (2, .int x1)]) hx hb dX12_rows_112 hl (by decide) rfl (fun ls hl => ?_)
  refine lv_iload hx hb dX12_rows_114 (lv_at hl 0 rfl) ?_
  refine lv_aload_n hx hb dX12_rows_116 rfl (lv_at hl 3 rfl) ?_
  refine r_get C w 9 rfl fr_X12_322 rfl dX12_rows_117 ?_
  refine lv_icmp_ge (tgt := 192) hx hb dX12_rows_120 (by decide) (fun h => absurd h (by decide)) (fun _ => ?_)
  refine lv_iconst (v := 0) hx hb dX12_rows_123 (by decide) ?_
  refine lv_istore (lv' := [(5, .int 0), (4, .int 0), (3, .int 5), (0, .ref q0), (1, .int x0), (2, .int x1)]) hx hb dX12_rows_124 hl (by decide) rfl (fun ls hl => ?_)
  refine lv_iload hx hb dX12_rows_126 (lv_at hl 0 rfl) ?_
  refine lv_aload_n hx hb dX12_rows_128 rfl (lv_at hl 3 rfl) ?_
  refine fin_i C w (run_V C w mv_X12_286 (k123_acts C.b0 q0 q8 q11 q12 q13 q14 q15 q16 q17 q2 q18 q3 q4 q19 q6 q7 q1 q5 q20 q21 q22 q23 q24 q25 q26 q27 q28 q9 q10 q29 q30 q31 q32 q33 q34 q35 q36 q37 q38 q39 q40 q41 q42 H.size) [9, 10] rfl rfl 9 rfl rfl (by decide) rfl hl.1 rfl (Nat.le_of_ble_eq_true rfl) dX12_rows_129 (cells2 := 0) (slots2 := 0) (by decide)) [9, 10] [0, 1, 2, 3, 4, 5, 6, 7, 8] rfl rfl (by decide) (cells2 := 0) (slots2 := 0) (by decide) (fun u10 H locs w => ?_)
  have w : Wd s G A [(q9, .inl (G.2.2.1, 3000, .inr (.inl (vp_updL (vp_updL (vp_updL (vp_updL (vp_updL (vp_updL (fun _ => 0) 0 1) 0 0) 0 0) 0 0) 0 0) 0 0)))), (q10, .inl (G.2.2.1, 3000, .inr (.inl (fun _ => 0)))), (q1, .inl (G.2.1, 4096, .inl (upd (fun _ => (-1)) 0 0))), (q2, .inl (G.2.1, 57, .inl (fun _ => 0))), (q3, .inl (G.2.1, 8, .inl (fun _ => 0))), (q4, .inl (G.2.1, 24008, .inl (fun _ => 0))), (q5, .inl (G.2.1, 3000, .inl (upd (fun _ => 0) 0 (-1)))), (q6, .inl (G.2.1, 3000, .inl (upd (fun _ => 0) 0 (-1)))), (q7, .inl (G.2.1, 3000, .inl (upd (fun _ => 0) 0 (-1)))), (q0, .inr (12, [.int 0, .int 0, .int 0, .int 0, .int 0, .int 0, .int 0, .int (-1), .ref q11, .ref q8, .ref q12, .int 0, .ref q13, .ref q14, .ref q15, .ref q16, .ref q17, .ref q2, .ref q18, .int 0, .ref q3, .ref q4, .ref q19, .ref q6, .ref q7, .ref q1, .ref q5, .int 1, .int (-1), .int 0, .ref q20, .ref q21, .ref q22, .ref q23, .ref q24, .ref q25, .ref q26, .ref q27, .int 0, .ref q28, .ref q9, .ref q10, .ref q29, .ref q30, .int 0, .ref q31, .ref q32, .ref q33, .ref q34, .int 0, .ref q35, .ref q36, .ref q37, .ref q38, .int 0, .int 0, .ref q39, .ref q40, .ref q41, .ref q42])), (q8, .inl (G.2.1, 242, .inl (fun _ => 0)))] H locs := w
  refine lv_icmp_ge (tgt := 186) hx hb dX12_rows_132 (by decide) (fun _ => ?_) (fun h => absurd (by decide) h)
  refine lv_iinc (v := 1) (lv' := [(4, .int 1), (5, .int 0), (3, .int 5), (0, .ref q0), (1, .int x0), (2, .int x1)]) hx hb dX12_rows_186 hl (k := 1) rfl (by decide +kernel) (by decide) rfl (fun ls hl => ?_)
  refine lv_goto (tgt := 114) hx hb dX12_rows_189 (by decide) ?_
  refine lv_iload hx hb dX12_rows_114 (lv_at hl 0 rfl) ?_
  refine lv_aload_n hx hb dX12_rows_116 rfl (lv_at hl 3 rfl) ?_
  refine r_get C w 9 rfl fr_X12_322 rfl dX12_rows_117 ?_
  refine lv_icmp_ge (tgt := 192) hx hb dX12_rows_120 (by decide) (fun _ => ?_) (fun h => absurd (by decide) h)
  refine lv_iconst (v := 0) hx hb dX12_rows_192 (by decide) ?_
  refine lv_istore (lv' := [(4, .int 0), (5, .int 0), (3, .int 5), (0, .ref q0), (1, .int x0), (2, .int x1)]) hx hb dX12_rows_193 hl (by decide) rfl (fun ls hl => ?_)
  refine lv_iload hx hb dX12_rows_195 (lv_at hl 0 rfl) ?_
  refine lv_aload_n hx hb dX12_rows_197 rfl (lv_at hl 3 rfl) ?_
  refine r_get C w 9 rfl fr_X12_322 rfl dX12_rows_198 ?_
  refine lv_icmp_ge (tgt := 224) hx hb dX12_rows_201 (by decide) (fun h => absurd h (by decide)) (fun _ => ?_)
  refine lv_aload_n hx hb dX12_rows_204 rfl (lv_at hl 3 rfl) ?_
  refine r_get C w 9 rfl fr_X12_99 rfl dX12_rows_205 ?_
  refine lv_iload hx hb dX12_rows_208 (lv_at hl 0 rfl) ?_
  refine lv_aload_n hx hb dX12_rows_210 rfl (lv_at hl 3 rfl) ?_
  refine r_get C w 9 rfl fr_X12_103 rfl dX12_rows_211 ?_
  refine lv_iload hx hb dX12_rows_214 (lv_at hl 0 rfl) ?_
  refine r_lald C w 1 rfl (IX.of (k := 0) (by decide +kernel)) (v := 0) rfl dX12_rows_216 ?_
  refine r_last C w 0 rfl (IX.of (k := 0) (by decide +kernel)) (g := (vp_updL (vp_updL (vp_updL (vp_updL (vp_updL (vp_updL (vp_updL (fun _ => 0) 0 1) 0 0) 0 0) 0 0) 0 0) 0 0) 0 0)) rfl dX12_rows_217 (ws2 := [(q9, .inl (G.2.2.1, 3000, .inr (.inl (vp_updL (vp_updL (vp_updL (vp_updL (vp_updL (vp_updL (vp_updL (fun _ => 0) 0 1) 0 0) 0 0) 0 0) 0 0) 0 0) 0 0)))), (q10, .inl (G.2.2.1, 3000, .inr (.inl (fun _ => 0)))), (q1, .inl (G.2.1, 4096, .inl (upd (fun _ => (-1)) 0 0))), (q2, .inl (G.2.1, 57, .inl (fun _ => 0))), (q3, .inl (G.2.1, 8, .inl (fun _ => 0))), (q4, .inl (G.2.1, 24008, .inl (fun _ => 0))), (q5, .inl (G.2.1, 3000, .inl (upd (fun _ => 0) 0 (-1)))), (q6, .inl (G.2.1, 3000, .inl (upd (fun _ => 0) 0 (-1)))), (q7, .inl (G.2.1, 3000, .inl (upd (fun _ => 0) 0 (-1)))), (q0, .inr (12, [.int 0, .int 0, .int 0, .int 0, .int 0, .int 0, .int 0, .int (-1), .ref q11, .ref q8, .ref q12, .int 0, .ref q13, .ref q14, .ref q15, .ref q16, .ref q17, .ref q2, .ref q18, .int 0, .ref q3, .ref q4, .ref q19, .ref q6, .ref q7, .ref q1, .ref q5, .int 1, .int (-1), .int 0, .ref q20, .ref q21, .ref q22, .ref q23, .ref q24, .ref q25, .ref q26, .ref q27, .int 0, .ref q28, .ref q9, .ref q10, .ref q29, .ref q30, .int 0, .ref q31, .ref q32, .ref q33, .ref q34, .int 0, .ref q35, .ref q36, .ref q37, .ref q38, .int 0, .int 0, .ref q39, .ref q40, .ref q41, .ref q42])), (q8, .inl (G.2.1, 242, .inl (fun _ => 0)))]) rfl (fun H locs w => ?_)
  refine lv_iinc (v := 1) (lv' := [(4, .int 1), (5, .int 0), (3, .int 5), (0, .ref q0), (1, .int x0), (2, .int x1)]) hx hb dX12_rows_218 hl (k := 0) rfl (by decide +kernel) (by decide) rfl (fun ls hl => ?_)
  refine lv_goto (tgt := 195) hx hb dX12_rows_221 (by decide) ?_
  refine lv_iload hx hb dX12_rows_195 (lv_at hl 0 rfl) ?_
  refine lv_aload_n hx hb dX12_rows_197 rfl (lv_at hl 3 rfl) ?_
  refine r_get C w 9 rfl fr_X12_322 rfl dX12_rows_198 ?_
  refine lv_icmp_ge (tgt := 224) hx hb dX12_rows_201 (by decide) (fun _ => ?_) (fun h => absurd (by decide) h)
  refine lv_iinc (v := 6) (lv' := [(3, .int 6), (4, .int 1), (5, .int 0), (0, .ref q0), (1, .int x0), (2, .int x1)]) hx hb dX12_rows_224 hl (k := 2) rfl (by decide +kernel) (by decide) rfl (fun ls hl => ?_)
  refine lv_goto (tgt := 80) hx hb dX12_rows_227 (by decide) ?_
  refine lv_iload_n hx hb dX12_rows_80 rfl (lv_at hl 0 rfl) ?_
  refine lv_iload_n hx hb dX12_rows_81 rfl (lv_at hl 5 rfl) ?_
  refine lv_icmp_ge (tgt := 230) hx hb dX12_rows_82 (by decide) (fun h => absurd h (Int32.not_le.mpr h8)) (fun _ => ?_)
  refine lv_iconst (v := 0) hx hb dX12_rows_85 (by decide) ?_
  refine lv_istore (lv' := [(4, .int 0), (3, .int 6), (5, .int 0), (0, .ref q0), (1, .int x0), (2, .int x1)]) hx hb dX12_rows_86 hl (by decide) rfl (fun ls hl => ?_)
  refine lv_iload hx hb dX12_rows_88 (lv_at hl 0 rfl) ?_
  refine lv_aload_n hx hb dX12_rows_90 rfl (lv_at hl 3 rfl) ?_
  refine r_get C w 9 rfl fr_X12_322 rfl dX12_rows_91 ?_
  refine lv_icmp_ge (tgt := 111) hx hb dX12_rows_94 (by decide) (fun h => absurd h (by decide)) (fun _ => ?_)
  refine lv_aload_n hx hb dX12_rows_97 rfl (lv_at hl 3 rfl) ?_
  refine r_get C w 9 rfl fr_X12_103 rfl dX12_rows_98 ?_
  refine lv_iload hx hb dX12_rows_101 (lv_at hl 0 rfl) ?_
  refine lv_lconst (v := 0) hx hb dX12_rows_103 (by decide) ?_
  refine r_last C w 1 rfl (IX.of (k := 0) (by decide +kernel)) (g := (fun _ => 0)) (updL_c _ _) dX12_rows_104 (ws2 := [(q9, .inl (G.2.2.1, 3000, .inr (.inl (vp_updL (vp_updL (vp_updL (vp_updL (vp_updL (vp_updL (vp_updL (fun _ => 0) 0 1) 0 0) 0 0) 0 0) 0 0) 0 0) 0 0)))), (q10, .inl (G.2.2.1, 3000, .inr (.inl (fun _ => 0)))), (q1, .inl (G.2.1, 4096, .inl (upd (fun _ => (-1)) 0 0))), (q2, .inl (G.2.1, 57, .inl (fun _ => 0))), (q3, .inl (G.2.1, 8, .inl (fun _ => 0))), (q4, .inl (G.2.1, 24008, .inl (fun _ => 0))), (q5, .inl (G.2.1, 3000, .inl (upd (fun _ => 0) 0 (-1)))), (q6, .inl (G.2.1, 3000, .inl (upd (fun _ => 0) 0 (-1)))), (q7, .inl (G.2.1, 3000, .inl (upd (fun _ => 0) 0 (-1)))), (q0, .inr (12, [.int 0, .int 0, .int 0, .int 0, .int 0, .int 0, .int 0, .int (-1), .ref q11, .ref q8, .ref q12, .int 0, .ref q13, .ref q14, .ref q15, .ref q16, .ref q17, .ref q2, .ref q18, .int 0, .ref q3, .ref q4, .ref q19, .ref q6, .ref q7, .ref q1, .ref q5, .int 1, .int (-1), .int 0, .ref q20, .ref q21, .ref q22, .ref q23, .ref q24, .ref q25, .ref q26, .ref q27, .int 0, .ref q28, .ref q9, .ref q10, .ref q29, .ref q30, .int 0, .ref q31, .ref q32, .ref q33, .ref q34, .int 0, .ref q35, .ref q36, .ref q37, .ref q38, .int 0, .int 0, .ref q39, .ref q40, .ref q41, .ref q42])), (q8, .inl (G.2.1, 242, .inl (fun _ => 0)))]) rfl (fun H locs w => ?_)
  refine lv_iinc (v := 1) (lv' := [(4, .int 1), (3, .int 6), (5, .int 0), (0, .ref q0), (1, .int x0), (2, .int x1)]) hx hb dX12_rows_105 hl (k := 0) rfl (by decide +kernel) (by decide) rfl (fun ls hl => ?_)
  refine lv_goto (tgt := 88) hx hb dX12_rows_108 (by decide) ?_
  refine lv_iload hx hb dX12_rows_88 (lv_at hl 0 rfl) ?_
  refine lv_aload_n hx hb dX12_rows_90 rfl (lv_at hl 3 rfl) ?_
  refine r_get C w 9 rfl fr_X12_322 rfl dX12_rows_91 ?_
  refine lv_icmp_ge (tgt := 111) hx hb dX12_rows_94 (by decide) (fun _ => ?_) (fun h => absurd (by decide) h)
  refine lv_iconst (v := 0) hx hb dX12_rows_111 (by decide) ?_
  refine lv_istore (lv' := [(4, .int 0), (3, .int 6), (5, .int 0), (0, .ref q0), (1, .int x0), (2, .int x1)]) hx hb dX12_rows_112 hl (by decide) rfl (fun ls hl => ?_)
  refine lv_iload hx hb dX12_rows_114 (lv_at hl 0 rfl) ?_
  refine lv_aload_n hx hb dX12_rows_116 rfl (lv_at hl 3 rfl) ?_
  refine r_get C w 9 rfl fr_X12_322 rfl dX12_rows_117 ?_
  refine lv_icmp_ge (tgt := 192) hx hb dX12_rows_120 (by decide) (fun h => absurd h (by decide)) (fun _ => ?_)
  refine lv_iconst (v := 0) hx hb dX12_rows_123 (by decide) ?_
  refine lv_istore (lv' := [(5, .int 0), (4, .int 0), (3, .int 6), (0, .ref q0), (1, .int x0), (2, .int x1)]) hx hb dX12_rows_124 hl (by decide) rfl (fun ls hl => ?_)
  refine lv_iload hx hb dX12_rows_126 (lv_at hl 0 rfl) ?_
  refine lv_aload_n hx hb dX12_rows_128 rfl (lv_at hl 3 rfl) ?_
  refine fin_i C w (run_V C w mv_X12_286 (k123_acts C.b0 q0 q8 q11 q12 q13 q14 q15 q16 q17 q2 q18 q3 q4 q19 q6 q7 q1 q5 q20 q21 q22 q23 q24 q25 q26 q27 q28 q9 q10 q29 q30 q31 q32 q33 q34 q35 q36 q37 q38 q39 q40 q41 q42 H.size) [9, 10] rfl rfl 9 rfl rfl (by decide) rfl hl.1 rfl (Nat.le_of_ble_eq_true rfl) dX12_rows_129 (cells2 := 0) (slots2 := 0) (by decide)) [9, 10] [0, 1, 2, 3, 4, 5, 6, 7, 8] rfl rfl (by decide) (cells2 := 0) (slots2 := 0) (by decide) (fun u11 H locs w => ?_)
  have w : Wd s G A [(q9, .inl (G.2.2.1, 3000, .inr (.inl (vp_updL (vp_updL (vp_updL (vp_updL (vp_updL (vp_updL (vp_updL (fun _ => 0) 0 1) 0 0) 0 0) 0 0) 0 0) 0 0) 0 0)))), (q10, .inl (G.2.2.1, 3000, .inr (.inl (fun _ => 0)))), (q1, .inl (G.2.1, 4096, .inl (upd (fun _ => (-1)) 0 0))), (q2, .inl (G.2.1, 57, .inl (fun _ => 0))), (q3, .inl (G.2.1, 8, .inl (fun _ => 0))), (q4, .inl (G.2.1, 24008, .inl (fun _ => 0))), (q5, .inl (G.2.1, 3000, .inl (upd (fun _ => 0) 0 (-1)))), (q6, .inl (G.2.1, 3000, .inl (upd (fun _ => 0) 0 (-1)))), (q7, .inl (G.2.1, 3000, .inl (upd (fun _ => 0) 0 (-1)))), (q0, .inr (12, [.int 0, .int 0, .int 0, .int 0, .int 0, .int 0, .int 0, .int (-1), .ref q11, .ref q8, .ref q12, .int 0, .ref q13, .ref q14, .ref q15, .ref q16, .ref q17, .ref q2, .ref q18, .int 0, .ref q3, .ref q4, .ref q19, .ref q6, .ref q7, .ref q1, .ref q5, .int 1, .int (-1), .int 0, .ref q20, .ref q21, .ref q22, .ref q23, .ref q24, .ref q25, .ref q26, .ref q27, .int 0, .ref q28, .ref q9, .ref q10, .ref q29, .ref q30, .int 0, .ref q31, .ref q32, .ref q33, .ref q34, .int 0, .ref q35, .ref q36, .ref q37, .ref q38, .int 0, .int 0, .ref q39, .ref q40, .ref q41, .ref q42])), (q8, .inl (G.2.1, 242, .inl (fun _ => 0)))] H locs := w
  refine lv_icmp_ge (tgt := 186) hx hb dX12_rows_132 (by decide) (fun _ => ?_) (fun h => absurd (by decide) h)
  refine lv_iinc (v := 1) (lv' := [(4, .int 1), (5, .int 0), (3, .int 6), (0, .ref q0), (1, .int x0), (2, .int x1)]) hx hb dX12_rows_186 hl (k := 1) rfl (by decide +kernel) (by decide) rfl (fun ls hl => ?_)
  refine lv_goto (tgt := 114) hx hb dX12_rows_189 (by decide) ?_
  refine lv_iload hx hb dX12_rows_114 (lv_at hl 0 rfl) ?_
  refine lv_aload_n hx hb dX12_rows_116 rfl (lv_at hl 3 rfl) ?_
  refine r_get C w 9 rfl fr_X12_322 rfl dX12_rows_117 ?_
  refine lv_icmp_ge (tgt := 192) hx hb dX12_rows_120 (by decide) (fun _ => ?_) (fun h => absurd (by decide) h)
  refine lv_iconst (v := 0) hx hb dX12_rows_192 (by decide) ?_
  refine lv_istore (lv' := [(4, .int 0), (5, .int 0), (3, .int 6), (0, .ref q0), (1, .int x0), (2, .int x1)]) hx hb dX12_rows_193 hl (by decide) rfl (fun ls hl => ?_)
  refine lv_iload hx hb dX12_rows_195 (lv_at hl 0 rfl) ?_
  refine lv_aload_n hx hb dX12_rows_197 rfl (lv_at hl 3 rfl) ?_
  refine r_get C w 9 rfl fr_X12_322 rfl dX12_rows_198 ?_
  refine lv_icmp_ge (tgt := 224) hx hb dX12_rows_201 (by decide) (fun h => absurd h (by decide)) (fun _ => ?_)
  refine lv_aload_n hx hb dX12_rows_204 rfl (lv_at hl 3 rfl) ?_
  refine r_get C w 9 rfl fr_X12_99 rfl dX12_rows_205 ?_
  refine lv_iload hx hb dX12_rows_208 (lv_at hl 0 rfl) ?_
  refine lv_aload_n hx hb dX12_rows_210 rfl (lv_at hl 3 rfl) ?_
  refine r_get C w 9 rfl fr_X12_103 rfl dX12_rows_211 ?_
  refine lv_iload hx hb dX12_rows_214 (lv_at hl 0 rfl) ?_
  refine r_lald C w 1 rfl (IX.of (k := 0) (by decide +kernel)) (v := 0) rfl dX12_rows_216 ?_
  refine r_last C w 0 rfl (IX.of (k := 0) (by decide +kernel)) (g := (vp_updL (vp_updL (vp_updL (vp_updL (vp_updL (vp_updL (vp_updL (vp_updL (fun _ => 0) 0 1) 0 0) 0 0) 0 0) 0 0) 0 0) 0 0) 0 0)) rfl dX12_rows_217 (ws2 := [(q9, .inl (G.2.2.1, 3000, .inr (.inl (vp_updL (vp_updL (vp_updL (vp_updL (vp_updL (vp_updL (vp_updL (vp_updL (fun _ => 0) 0 1) 0 0) 0 0) 0 0) 0 0) 0 0) 0 0) 0 0)))), (q10, .inl (G.2.2.1, 3000, .inr (.inl (fun _ => 0)))), (q1, .inl (G.2.1, 4096, .inl (upd (fun _ => (-1)) 0 0))), (q2, .inl (G.2.1, 57, .inl (fun _ => 0))), (q3, .inl (G.2.1, 8, .inl (fun _ => 0))), (q4, .inl (G.2.1, 24008, .inl (fun _ => 0))), (q5, .inl (G.2.1, 3000, .inl (upd (fun _ => 0) 0 (-1)))), (q6, .inl (G.2.1, 3000, .inl (upd (fun _ => 0) 0 (-1)))), (q7, .inl (G.2.1, 3000, .inl (upd (fun _ => 0) 0 (-1)))), (q0, .inr (12, [.int 0, .int 0, .int 0, .int 0, .int 0, .int 0, .int 0, .int (-1), .ref q11, .ref q8, .ref q12, .int 0, .ref q13, .ref q14, .ref q15, .ref q16, .ref q17, .ref q2, .ref q18, .int 0, .ref q3, .ref q4, .ref q19, .ref q6, .ref q7, .ref q1, .ref q5, .int 1, .int (-1), .int 0, .ref q20, .ref q21, .ref q22, .ref q23, .ref q24, .ref q25, .ref q26, .ref q27, .int 0, .ref q28, .ref q9, .ref q10, .ref q29, .ref q30, .int 0, .ref q31, .ref q32, .ref q33, .ref q34, .int 0, .ref q35, .ref q36, .ref q37, .ref q38, .int 0, .int 0, .ref q39, .ref q40, .ref q41, .ref q42])), (q8, .inl (G.2.1, 242, .inl (fun _ => 0)))]) rfl (fun H locs w => ?_)
  refine lv_iinc (v := 1) (lv' := [(4, .int 1), (5, .int 0), (3, .int 6), (0, .ref q0), (1, .int x0), (2, .int x1)]) hx hb dX12_rows_218 hl (k := 0) rfl (by decide +kernel) (by decide) rfl (fun ls hl => ?_)
  refine lv_goto (tgt := 195) hx hb dX12_rows_221 (by decide) ?_
  refine lv_iload hx hb dX12_rows_195 (lv_at hl 0 rfl) ?_
  refine lv_aload_n hx hb dX12_rows_197 rfl (lv_at hl 3 rfl) ?_
  refine r_get C w 9 rfl fr_X12_322 rfl dX12_rows_198 ?_
  refine lv_icmp_ge (tgt := 224) hx hb dX12_rows_201 (by decide) (fun _ => ?_) (fun h => absurd (by decide) h)
  refine lv_iinc (v := 7) (lv' := [(3, .int 7), (4, .int 1), (5, .int 0), (0, .ref q0), (1, .int x0), (2, .int x1)]) hx hb dX12_rows_224 hl (k := 2) rfl (by decide +kernel) (by decide) rfl (fun ls hl => ?_)
  refine lv_goto (tgt := 80) hx hb dX12_rows_227 (by decide) ?_
  refine lv_iload_n hx hb dX12_rows_80 rfl (lv_at hl 0 rfl) ?_
  refine lv_iload_n hx hb dX12_rows_81 rfl (lv_at hl 5 rfl) ?_
  refine lv_icmp_ge (tgt := 230) hx hb dX12_rows_82 (by decide) (fun h => absurd h (Int32.not_le.mpr h9)) (fun _ => ?_)
  refine lv_iconst (v := 0) hx hb dX12_rows_85 (by decide) ?_
  refine lv_istore (lv' := [(4, .int 0), (3, .int 7), (5, .int 0), (0, .ref q0), (1, .int x0), (2, .int x1)]) hx hb dX12_rows_86 hl (by decide) rfl (fun ls hl => ?_)
  refine lv_iload hx hb dX12_rows_88 (lv_at hl 0 rfl) ?_
  refine lv_aload_n hx hb dX12_rows_90 rfl (lv_at hl 3 rfl) ?_
  refine r_get C w 9 rfl fr_X12_322 rfl dX12_rows_91 ?_
  refine lv_icmp_ge (tgt := 111) hx hb dX12_rows_94 (by decide) (fun h => absurd h (by decide)) (fun _ => ?_)
  refine lv_aload_n hx hb dX12_rows_97 rfl (lv_at hl 3 rfl) ?_
  refine r_get C w 9 rfl fr_X12_103 rfl dX12_rows_98 ?_
  refine lv_iload hx hb dX12_rows_101 (lv_at hl 0 rfl) ?_
  refine lv_lconst (v := 0) hx hb dX12_rows_103 (by decide) ?_
  refine r_last C w 1 rfl (IX.of (k := 0) (by decide +kernel)) (g := (fun _ => 0)) (updL_c _ _) dX12_rows_104 (ws2 := [(q9, .inl (G.2.2.1, 3000, .inr (.inl (vp_updL (vp_updL (vp_updL (vp_updL (vp_updL (vp_updL (vp_updL (vp_updL (fun _ => 0) 0 1) 0 0) 0 0) 0 0) 0 0) 0 0) 0 0) 0 0)))), (q10, .inl (G.2.2.1, 3000, .inr (.inl (fun _ => 0)))), (q1, .inl (G.2.1, 4096, .inl (upd (fun _ => (-1)) 0 0))), (q2, .inl (G.2.1, 57, .inl (fun _ => 0))), (q3, .inl (G.2.1, 8, .inl (fun _ => 0))), (q4, .inl (G.2.1, 24008, .inl (fun _ => 0))), (q5, .inl (G.2.1, 3000, .inl (upd (fun _ => 0) 0 (-1)))), (q6, .inl (G.2.1, 3000, .inl (upd (fun _ => 0) 0 (-1)))), (q7, .inl (G.2.1, 3000, .inl (upd (fun _ => 0) 0 (-1)))), (q0, .inr (12, [.int 0, .int 0, .int 0, .int 0, .int 0, .int 0, .int 0, .int (-1), .ref q11, .ref q8, .ref q12, .int 0, .ref q13, .ref q14, .ref q15, .ref q16, .ref q17, .ref q2, .ref q18, .int 0, .ref q3, .ref q4, .ref q19, .ref q6, .ref q7, .ref q1, .ref q5, .int 1, .int (-1), .int 0, .ref q20, .ref q21, .ref q22, .ref q23, .ref q24, .ref q25, .ref q26, .ref q27, .int 0, .ref q28, .ref q9, .ref q10, .ref q29, .ref q30, .int 0, .ref q31, .ref q32, .ref q33, .ref q34, .int 0, .ref q35, .ref q36, .ref q37, .ref q38, .int 0, .int 0, .ref q39, .ref q40, .ref q41, .ref q42])), (q8, .inl (G.2.1, 242, .inl (fun _ => 0)))]) rfl (fun H locs w => ?_)
  refine lv_iinc (v := 1) (lv' := [(4, .int 1), (3, .int 7), (5, .int 0), (0, .ref q0), (1, .int x0), (2, .int x1)]) hx hb dX12_rows_105 hl (k := 0) rfl (by decide +kernel) (by decide) rfl (fun ls hl => ?_)
  refine lv_goto (tgt := 88) hx hb dX12_rows_108 (by decide) ?_
  refine lv_iload hx hb dX12_rows_88 (lv_at hl 0 rfl) ?_
  refine lv_aload_n hx hb dX12_rows_90 rfl (lv_at hl 3 rfl) ?_
  refine r_get C w 9 rfl fr_X12_322 rfl dX12_rows_91 ?_
  refine lv_icmp_ge (tgt := 111) hx hb dX12_rows_94 (by decide) (fun _ => ?_) (fun h => absurd (by decide) h)
  refine lv_iconst (v := 0) hx hb dX12_rows_111 (by decide) ?_
  refine lv_istore (lv' := [(4, .int 0), (3, .int 7), (5, .int 0), (0, .ref q0), (1, .int x0), (2, .int x1)]) hx hb dX12_rows_112 hl (by decide) rfl (fun ls hl => ?_)
  refine lv_iload hx hb dX12_rows_114 (lv_at hl 0 rfl) ?_
  refine lv_aload_n hx hb dX12_rows_116 rfl (lv_at hl 3 rfl) ?_
  refine r_get C w 9 rfl fr_X12_322 rfl dX12_rows_117 ?_
  refine lv_icmp_ge (tgt := 192) hx hb dX12_rows_120 (by decide) (fun h => absurd h (by decide)) (fun _ => ?_)
  refine lv_iconst (v := 0) hx hb dX12_rows_123 (by decide) ?_
  refine lv_istore (lv' := [(5, .int 0), (4, .int 0), (3, .int 7), (0, .ref q0), (1, .int x0), (2, .int x1)]) hx hb dX12_rows_124 hl (by decide) rfl (fun ls hl => ?_)
  refine lv_iload hx hb dX12_rows_126 (lv_at hl 0 rfl) ?_
  refine lv_aload_n hx hb dX12_rows_128 rfl (lv_at hl 3 rfl) ?_
  refine fin_i C w (run_V C w mv_X12_286 (k123_acts C.b0 q0 q8 q11 q12 q13 q14 q15 q16 q17 q2 q18 q3 q4 q19 q6 q7 q1 q5 q20 q21 q22 q23 q24 q25 q26 q27 q28 q9 q10 q29 q30 q31 q32 q33 q34 q35 q36 q37 q38 q39 q40 q41 q42 H.size) [9, 10] rfl rfl 9 rfl rfl (by decide) rfl hl.1 rfl (Nat.le_of_ble_eq_true rfl) dX12_rows_129 (cells2 := 0) (slots2 := 0) (by decide)) [9, 10] [0, 1, 2, 3, 4, 5, 6, 7, 8] rfl rfl (by decide) (cells2 := 0) (slots2 := 0) (by decide) (fun u12 H locs w => ?_)
  have w : Wd s G A [(q9, .inl (G.2.2.1, 3000, .inr (.inl (vp_updL (vp_updL (vp_updL (vp_updL (vp_updL (vp_updL (vp_updL (vp_updL (fun _ => 0) 0 1) 0 0) 0 0) 0 0) 0 0) 0 0) 0 0) 0 0)))), (q10, .inl (G.2.2.1, 3000, .inr (.inl (fun _ => 0)))), (q1, .inl (G.2.1, 4096, .inl (upd (fun _ => (-1)) 0 0))), (q2, .inl (G.2.1, 57, .inl (fun _ => 0))), (q3, .inl (G.2.1, 8, .inl (fun _ => 0))), (q4, .inl (G.2.1, 24008, .inl (fun _ => 0))), (q5, .inl (G.2.1, 3000, .inl (upd (fun _ => 0) 0 (-1)))), (q6, .inl (G.2.1, 3000, .inl (upd (fun _ => 0) 0 (-1)))), (q7, .inl (G.2.1, 3000, .inl (upd (fun _ => 0) 0 (-1)))), (q0, .inr (12, [.int 0, .int 0, .int 0, .int 0, .int 0, .int 0, .int 0, .int (-1), .ref q11, .ref q8, .ref q12, .int 0, .ref q13, .ref q14, .ref q15, .ref q16, .ref q17, .ref q2, .ref q18, .int 0, .ref q3, .ref q4, .ref q19, .ref q6, .ref q7, .ref q1, .ref q5, .int 1, .int (-1), .int 0, .ref q20, .ref q21, .ref q22, .ref q23, .ref q24, .ref q25, .ref q26, .ref q27, .int 0, .ref q28, .ref q9, .ref q10, .ref q29, .ref q30, .int 0, .ref q31, .ref q32, .ref q33, .ref q34, .int 0, .ref q35, .ref q36, .ref q37, .ref q38, .int 0, .int 0, .ref q39, .ref q40, .ref q41, .ref q42])), (q8, .inl (G.2.1, 242, .inl (fun _ => 0)))] H locs := w
  refine lv_icmp_ge (tgt := 186) hx hb dX12_rows_132 (by decide) (fun _ => ?_) (fun h => absurd (by decide) h)
  refine lv_iinc (v := 1) (lv' := [(4, .int 1), (5, .int 0), (3, .int 7), (0, .ref q0), (1, .int x0), (2, .int x1)]) hx hb dX12_rows_186 hl (k := 1) rfl (by decide +kernel) (by decide) rfl (fun ls hl => ?_)
  refine lv_goto (tgt := 114) hx hb dX12_rows_189 (by decide) ?_
  refine lv_iload hx hb dX12_rows_114 (lv_at hl 0 rfl) ?_
  refine lv_aload_n hx hb dX12_rows_116 rfl (lv_at hl 3 rfl) ?_
  refine r_get C w 9 rfl fr_X12_322 rfl dX12_rows_117 ?_
  refine lv_icmp_ge (tgt := 192) hx hb dX12_rows_120 (by decide) (fun _ => ?_) (fun h => absurd (by decide) h)
  refine lv_iconst (v := 0) hx hb dX12_rows_192 (by decide) ?_
  refine lv_istore (lv' := [(4, .int 0), (5, .int 0), (3, .int 7), (0, .ref q0), (1, .int x0), (2, .int x1)]) hx hb dX12_rows_193 hl (by decide) rfl (fun ls hl => ?_)
  refine lv_iload hx hb dX12_rows_195 (lv_at hl 0 rfl) ?_
  refine lv_aload_n hx hb dX12_rows_197 rfl (lv_at hl 3 rfl) ?_
  refine r_get C w 9 rfl fr_X12_322 rfl dX12_rows_198 ?_
  refine lv_icmp_ge (tgt := 224) hx hb dX12_rows_201 (by decide) (fun h => absurd h (by decide)) (fun _ => ?_)
  refine lv_aload_n hx hb dX12_rows_204 rfl (lv_at hl 3 rfl) ?_
  refine r_get C w 9 rfl fr_X12_99 rfl dX12_rows_205 ?_
  refine lv_iload hx hb dX12_rows_208 (lv_at hl 0 rfl) ?_
  refine lv_aload_n hx hb dX12_rows_210 rfl (lv_at hl 3 rfl) ?_
  refine r_get C w 9 rfl fr_X12_103 rfl dX12_rows_211 ?_
  refine lv_iload hx hb dX12_rows_214 (lv_at hl 0 rfl) ?_
  refine r_lald C w 1 rfl (IX.of (k := 0) (by decide +kernel)) (v := 0) rfl dX12_rows_216 ?_
  refine r_last C w 0 rfl (IX.of (k := 0) (by decide +kernel)) (g := (vp_updL (vp_updL (vp_updL (vp_updL (vp_updL (vp_updL (vp_updL (vp_updL (vp_updL (fun _ => 0) 0 1) 0 0) 0 0) 0 0) 0 0) 0 0) 0 0) 0 0) 0 0)) rfl dX12_rows_217 (ws2 := [(q9, .inl (G.2.2.1, 3000, .inr (.inl (vp_updL (vp_updL (vp_updL (vp_updL (vp_updL (vp_updL (vp_updL (vp_updL (vp_updL (fun _ => 0) 0 1) 0 0) 0 0) 0 0) 0 0) 0 0) 0 0) 0 0) 0 0)))), (q10, .inl (G.2.2.1, 3000, .inr (.inl (fun _ => 0)))), (q1, .inl (G.2.1, 4096, .inl (upd (fun _ => (-1)) 0 0))), (q2, .inl (G.2.1, 57, .inl (fun _ => 0))), (q3, .inl (G.2.1, 8, .inl (fun _ => 0))), (q4, .inl (G.2.1, 24008, .inl (fun _ => 0))), (q5, .inl (G.2.1, 3000, .inl (upd (fun _ => 0) 0 (-1)))), (q6, .inl (G.2.1, 3000, .inl (upd (fun _ => 0) 0 (-1)))), (q7, .inl (G.2.1, 3000, .inl (upd (fun _ => 0) 0 (-1)))), (q0, .inr (12, [.int 0, .int 0, .int 0, .int 0, .int 0, .int 0, .int 0, .int (-1), .ref q11, .ref q8, .ref q12, .int 0, .ref q13, .ref q14, .ref q15, .ref q16, .ref q17, .ref q2, .ref q18, .int 0, .ref q3, .ref q4, .ref q19, .ref q6, .ref q7, .ref q1, .ref q5, .int 1, .int (-1), .int 0, .ref q20, .ref q21, .ref q22, .ref q23, .ref q24, .ref q25, .ref q26, .ref q27, .int 0, .ref q28, .ref q9, .ref q10, .ref q29, .ref q30, .int 0, .ref q31, .ref q32, .ref q33, .ref q34, .int 0, .ref q35, .ref q36, .ref q37, .ref q38, .int 0, .int 0, .ref q39, .ref q40, .ref q41, .ref q42])), (q8, .inl (G.2.1, 242, .inl (fun _ => 0)))]) rfl (fun H locs w => ?_)
  refine lv_iinc (v := 1) (lv' := [(4, .int 1), (5, .int 0), (3, .int 7), (0, .ref q0), (1, .int x0), (2, .int x1)]) hx hb dX12_rows_218 hl (k := 0) rfl (by decide +kernel) (by decide) rfl (fun ls hl => ?_)
  refine lv_goto (tgt := 195) hx hb dX12_rows_221 (by decide) ?_
  refine lv_iload hx hb dX12_rows_195 (lv_at hl 0 rfl) ?_
  refine lv_aload_n hx hb dX12_rows_197 rfl (lv_at hl 3 rfl) ?_
  refine r_get C w 9 rfl fr_X12_322 rfl dX12_rows_198 ?_
  refine lv_icmp_ge (tgt := 224) hx hb dX12_rows_201 (by decide) (fun _ => ?_) (fun h => absurd (by decide) h)
  refine lv_iinc (v := 8) (lv' := [(3, .int 8), (4, .int 1), (5, .int 0), (0, .ref q0), (1, .int x0), (2, .int x1)]) hx hb dX12_rows_224 hl (k := 2) rfl (by decide +kernel) (by decide) rfl (fun ls hl => ?_)
  refine lv_goto (tgt := 80) hx hb dX12_rows_227 (by decide) ?_
  refine lv_iload_n hx hb dX12_rows_80 rfl (lv_at hl 0 rfl) ?_
  refine lv_iload_n hx hb dX12_rows_81 rfl (lv_at hl 5 rfl) ?_
  refine lv_icmp_ge (tgt := 230) hx hb dX12_rows_82 (by decide) (fun h => absurd h (Int32.not_le.mpr h10)) (fun _ => ?_)
  refine lv_iconst (v := 0) hx hb dX12_rows_85 (by decide) ?_
  refine lv_istore (lv' := [(4, .int 0), (3, .int 8), (5, .int 0), (0, .ref q0), (1, .int x0), (2, .int x1)]) hx hb dX12_rows_86 hl (by decide) rfl (fun ls hl => ?_)
  refine lv_iload hx hb dX12_rows_88 (lv_at hl 0 rfl) ?_
  refine lv_aload_n hx hb dX12_rows_90 rfl (lv_at hl 3 rfl) ?_
  refine r_get C w 9 rfl fr_X12_322 rfl dX12_rows_91 ?_
  refine lv_icmp_ge (tgt := 111) hx hb dX12_rows_94 (by decide) (fun h => absurd h (by decide)) (fun _ => ?_)
  refine lv_aload_n hx hb dX12_rows_97 rfl (lv_at hl 3 rfl) ?_
  refine r_get C w 9 rfl fr_X12_103 rfl dX12_rows_98 ?_
  refine lv_iload hx hb dX12_rows_101 (lv_at hl 0 rfl) ?_
  refine lv_lconst (v := 0) hx hb dX12_rows_103 (by decide) ?_
  refine r_last C w 1 rfl (IX.of (k := 0) (by decide +kernel)) (g := (fun _ => 0)) (updL_c _ _) dX12_rows_104 (ws2 := [(q9, .inl (G.2.2.1, 3000, .inr (.inl (vp_updL (vp_updL (vp_updL (vp_updL (vp_updL (vp_updL (vp_updL (vp_updL (vp_updL (fun _ => 0) 0 1) 0 0) 0 0) 0 0) 0 0) 0 0) 0 0) 0 0) 0 0)))), (q10, .inl (G.2.2.1, 3000, .inr (.inl (fun _ => 0)))), (q1, .inl (G.2.1, 4096, .inl (upd (fun _ => (-1)) 0 0))), (q2, .inl (G.2.1, 57, .inl (fun _ => 0))), (q3, .inl (G.2.1, 8, .inl (fun _ => 0))), (q4, .inl (G.2.1, 24008, .inl (fun _ => 0))), (q5, .inl (G.2.1, 3000, .inl (upd (fun _ => 0) 0 (-1)))), (q6, .inl (G.2.1, 3000, .inl (upd (fun _ => 0) 0 (-1)))), (q7, .inl (G.2.1, 3000, .inl (upd (fun _ => 0) 0 (-1)))), (q0, .inr (12, [.int 0, .int 0, .int 0, .int 0, .int 0, .int 0, .int 0, .int (-1), .ref q11, .ref q8, .ref q12, .int 0, .ref q13, .ref q14, .ref q15, .ref q16, .ref q17, .ref q2, .ref q18, .int 0, .ref q3, .ref q4, .ref q19, .ref q6, .ref q7, .ref q1, .ref q5, .int 1, .int (-1), .int 0, .ref q20, .ref q21, .ref q22, .ref q23, .ref q24, .ref q25, .ref q26, .ref q27, .int 0, .ref q28, .ref q9, .ref q10, .ref q29, .ref q30, .int 0, .ref q31, .ref q32, .ref q33, .ref q34, .int 0, .ref q35, .ref q36, .ref q37, .ref q38, .int 0, .int 0, .ref q39, .ref q40, .ref q41, .ref q42])), (q8, .inl (G.2.1, 242, .inl (fun _ => 0)))]) rfl (fun H locs w => ?_)
  refine lv_iinc (v := 1) (lv' := [(4, .int 1), (3, .int 8), (5, .int 0), (0, .ref q0), (1, .int x0), (2, .int x1)]) hx hb dX12_rows_105 hl (k := 0) rfl (by decide +kernel) (by decide) rfl (fun ls hl => ?_)
  refine lv_goto (tgt := 88) hx hb dX12_rows_108 (by decide) ?_
  refine lv_iload hx hb dX12_rows_88 (lv_at hl 0 rfl) ?_
  refine lv_aload_n hx hb dX12_rows_90 rfl (lv_at hl 3 rfl) ?_
  refine r_get C w 9 rfl fr_X12_322 rfl dX12_rows_91 ?_
  refine lv_icmp_ge (tgt := 111) hx hb dX12_rows_94 (by decide) (fun _ => ?_) (fun h => absurd (by decide) h)
  refine lv_iconst (v := 0) hx hb dX12_rows_111 (by decide) ?_
  refine lv_istore (lv' := [(4, .int 0), (3, .int 8), (5, .int 0), (0, .ref q0), (1, .int x0), (2, .int x1)]) hx hb dX12_rows_112 hl (by decide) rfl (fun ls hl => ?_)
  refine lv_iload hx hb dX12_rows_114 (lv_at hl 0 rfl) ?_
  refine lv_aload_n hx hb dX12_rows_116 rfl (lv_at hl 3 rfl) ?_
  refine r_get C w 9 rfl fr_X12_322 rfl dX12_rows_117 ?_
  refine lv_icmp_ge (tgt := 192) hx hb dX12_rows_120 (by decide) (fun h => absurd h (by decide)) (fun _ => ?_)
  refine lv_iconst (v := 0) hx hb dX12_rows_123 (by decide) ?_
  refine lv_istore (lv' := [(5, .int 0), (4, .int 0), (3, .int 8), (0, .ref q0), (1, .int x0), (2, .int x1)]) hx hb dX12_rows_124 hl (by decide) rfl (fun ls hl => ?_)
  refine lv_iload hx hb dX12_rows_126 (lv_at hl 0 rfl) ?_
  refine lv_aload_n hx hb dX12_rows_128 rfl (lv_at hl 3 rfl) ?_
  refine fin_i C w (run_V C w mv_X12_286 (k123_acts C.b0 q0 q8 q11 q12 q13 q14 q15 q16 q17 q2 q18 q3 q4 q19 q6 q7 q1 q5 q20 q21 q22 q23 q24 q25 q26 q27 q28 q9 q10 q29 q30 q31 q32 q33 q34 q35 q36 q37 q38 q39 q40 q41 q42 H.size) [9, 10] rfl rfl 9 rfl rfl (by decide) rfl hl.1 rfl (Nat.le_of_ble_eq_true rfl) dX12_rows_129 (cells2 := 0) (slots2 := 0) (by decide)) [9, 10] [0, 1, 2, 3, 4, 5, 6, 7, 8] rfl rfl (by decide) (cells2 := 0) (slots2 := 0) (by decide) (fun u13 H locs w => ?_)
  have w : Wd s G A [(q9, .inl (G.2.2.1, 3000, .inr (.inl (vp_updL (vp_updL (vp_updL (vp_updL (vp_updL (vp_updL (vp_updL (vp_updL (vp_updL (fun _ => 0) 0 1) 0 0) 0 0) 0 0) 0 0) 0 0) 0 0) 0 0) 0 0)))), (q10, .inl (G.2.2.1, 3000, .inr (.inl (fun _ => 0)))), (q1, .inl (G.2.1, 4096, .inl (upd (fun _ => (-1)) 0 0))), (q2, .inl (G.2.1, 57, .inl (fun _ => 0))), (q3, .inl (G.2.1, 8, .inl (fun _ => 0))), (q4, .inl (G.2.1, 24008, .inl (fun _ => 0))), (q5, .inl (G.2.1, 3000, .inl (upd (fun _ => 0) 0 (-1)))), (q6, .inl (G.2.1, 3000, .inl (upd (fun _ => 0) 0 (-1)))), (q7, .inl (G.2.1, 3000, .inl (upd (fun _ => 0) 0 (-1)))), (q0, .inr (12, [.int 0, .int 0, .int 0, .int 0, .int 0, .int 0, .int 0, .int (-1), .ref q11, .ref q8, .ref q12, .int 0, .ref q13, .ref q14, .ref q15, .ref q16, .ref q17, .ref q2, .ref q18, .int 0, .ref q3, .ref q4, .ref q19, .ref q6, .ref q7, .ref q1, .ref q5, .int 1, .int (-1), .int 0, .ref q20, .ref q21, .ref q22, .ref q23, .ref q24, .ref q25, .ref q26, .ref q27, .int 0, .ref q28, .ref q9, .ref q10, .ref q29, .ref q30, .int 0, .ref q31, .ref q32, .ref q33, .ref q34, .int 0, .ref q35, .ref q36, .ref q37, .ref q38, .int 0, .int 0, .ref q39, .ref q40, .ref q41, .ref q42])), (q8, .inl (G.2.1, 242, .inl (fun _ => 0)))] H locs := w
  refine lv_icmp_ge (tgt := 186) hx hb dX12_rows_132 (by decide) (fun _ => ?_) (fun h => absurd (by decide) h)
  refine lv_iinc (v := 1) (lv' := [(4, .int 1), (5, .int 0), (3, .int 8), (0, .ref q0), (1, .int x0), (2, .int x1)]) hx hb dX12_rows_186 hl (k := 1) rfl (by decide +kernel) (by decide) rfl (fun ls hl => ?_)
  refine lv_goto (tgt := 114) hx hb dX12_rows_189 (by decide) ?_
  refine lv_iload hx hb dX12_rows_114 (lv_at hl 0 rfl) ?_
  refine lv_aload_n hx hb dX12_rows_116 rfl (lv_at hl 3 rfl) ?_
  refine r_get C w 9 rfl fr_X12_322 rfl dX12_rows_117 ?_
  refine lv_icmp_ge (tgt := 192) hx hb dX12_rows_120 (by decide) (fun _ => ?_) (fun h => absurd (by decide) h)
  refine lv_iconst (v := 0) hx hb dX12_rows_192 (by decide) ?_
  refine lv_istore (lv' := [(4, .int 0), (5, .int 0), (3, .int 8), (0, .ref q0), (1, .int x0), (2, .int x1)]) hx hb dX12_rows_193 hl (by decide) rfl (fun ls hl => ?_)
  refine lv_iload hx hb dX12_rows_195 (lv_at hl 0 rfl) ?_
  refine lv_aload_n hx hb dX12_rows_197 rfl (lv_at hl 3 rfl) ?_
  refine r_get C w 9 rfl fr_X12_322 rfl dX12_rows_198 ?_
  refine lv_icmp_ge (tgt := 224) hx hb dX12_rows_201 (by decide) (fun h => absurd h (by decide)) (fun _ => ?_)
  refine lv_aload_n hx hb dX12_rows_204 rfl (lv_at hl 3 rfl) ?_
  refine r_get C w 9 rfl fr_X12_99 rfl dX12_rows_205 ?_
  refine lv_iload hx hb dX12_rows_208 (lv_at hl 0 rfl) ?_
  refine lv_aload_n hx hb dX12_rows_210 rfl (lv_at hl 3 rfl) ?_
  refine r_get C w 9 rfl fr_X12_103 rfl dX12_rows_211 ?_
  refine lv_iload hx hb dX12_rows_214 (lv_at hl 0 rfl) ?_
  refine r_lald C w 1 rfl (IX.of (k := 0) (by decide +kernel)) (v := 0) rfl dX12_rows_216 ?_
  refine r_last C w 0 rfl (IX.of (k := 0) (by decide +kernel)) (g := (vp_updL (vp_updL (vp_updL (vp_updL (vp_updL (vp_updL (vp_updL (vp_updL (vp_updL (vp_updL (fun _ => 0) 0 1) 0 0) 0 0) 0 0) 0 0) 0 0) 0 0) 0 0) 0 0) 0 0)) rfl dX12_rows_217 (ws2 := [(q9, .inl (G.2.2.1, 3000, .inr (.inl (vp_updL (vp_updL (vp_updL (vp_updL (vp_updL (vp_updL (vp_updL (vp_updL (vp_updL (vp_updL (fun _ => 0) 0 1) 0 0) 0 0) 0 0) 0 0) 0 0) 0 0) 0 0) 0 0) 0 0)))), (q10, .inl (G.2.2.1, 3000, .inr (.inl (fun _ => 0)))), (q1, .inl (G.2.1, 4096, .inl (upd (fun _ => (-1)) 0 0))), (q2, .inl (G.2.1, 57, .inl (fun _ => 0))), (q3, .inl (G.2.1, 8, .inl (fun _ => 0))), (q4, .inl (G.2.1, 24008, .inl (fun _ => 0))), (q5, .inl (G.2.1, 3000, .inl (upd (fun _ => 0) 0 (-1)))), (q6, .inl (G.2.1, 3000, .inl (upd (fun _ => 0) 0 (-1)))), (q7, .inl (G.2.1, 3000, .inl (upd (fun _ => 0) 0 (-1)))), (q0, .inr (12, [.int 0, .int 0, .int 0, .int 0, .int 0, .int 0, .int 0, .int (-1), .ref q11, .ref q8, .ref q12, .int 0, .ref q13, .ref q14, .ref q15, .ref q16, .ref q17, .ref q2, .ref q18, .int 0, .ref q3, .ref q4, .ref q19, .ref q6, .ref q7, .ref q1, .ref q5, .int 1, .int (-1), .int 0, .ref q20, .ref q21, .ref q22, .ref q23, .ref q24, .ref q25, .ref q26, .ref q27, .int 0, .ref q28, .ref q9, .ref q10, .ref q29, .ref q30, .int 0, .ref q31, .ref q32, .ref q33, .ref q34, .int 0, .ref q35, .ref q36, .ref q37, .ref q38, .int 0, .int 0, .ref q39, .ref q40, .ref q41, .ref q42])), (q8, .inl (G.2.1, 242, .inl (fun _ => 0)))]) rfl (fun H locs w => ?_)
  refine lv_iinc (v := 1) (lv' := [(4, .int 1), (5, .int 0), (3, .int 8), (0, .ref q0), (1, .int x0), (2, .int x1)]) hx hb dX12_rows_218 hl (k := 0) rfl (by decide +kernel) (by decide) rfl (fun ls hl => ?_)
  refine lv_goto (tgt := 195) hx hb dX12_rows_221 (by decide) ?_
  refine lv_iload hx hb dX12_rows_195 (lv_at hl 0 rfl) ?_
  refine lv_aload_n hx hb dX12_rows_197 rfl (lv_at hl 3 rfl) ?_
  refine r_get C w 9 rfl fr_X12_322 rfl dX12_rows_198 ?_
  refine lv_icmp_ge (tgt := 224) hx hb dX12_rows_201 (by decide) (fun _ => ?_) (fun h => absurd (by decide) h)
  refine lv_iinc (v := 9) (lv' := [(3, .int 9), (4, .int 1), (5, .int 0), (0, .ref q0), (1, .int x0), (2, .int x1)]) hx hb dX12_rows_224 hl (k := 2) rfl (by decide +kernel) (by decide) rfl (fun ls hl => ?_)
  refine lv_goto (tgt := 80) hx hb dX12_rows_227 (by decide) ?_
  refine lv_iload_n hx hb dX12_rows_80 rfl (lv_at hl 0 rfl) ?_
  refine lv_iload_n hx hb dX12_rows_81 rfl (lv_at hl 5 rfl) ?_
  refine lv_icmp_ge (tgt := 230) hx hb dX12_rows_82 (by decide) (fun _ => ?_) (fun h => absurd (Int32.not_lt.mp h11) h)
  refine lv_lconst (v := 0) hx hb dX12_rows_230 (by decide) ?_
  refine lv_lstore_n (lv' := [(3, .long 0), (5, .int 0), (0, .ref q0), (1, .int x0), (2, .int x1)]) hx hb dX12_rows_231 rfl hl (by decide) rfl (fun ls hl => ?_)
  refine lv_iconst (v := 0) hx hb dX12_rows_232 (by decide) ?_
  refine lv_istore (lv' := [(5, .int 0), (3, .long 0), (0, .ref q0), (1, .int x0), (2, .int x1)]) hx hb dX12_rows_233 hl (by decide) rfl (fun ls hl => ?_)
  refine lv_iload hx hb dX12_rows_235 (lv_at hl 0 rfl) ?_
  refine lv_aload_n hx hb dX12_rows_237 rfl (lv_at hl 2 rfl) ?_
  refine r_get C w 9 rfl fr_X12_322 rfl dX12_rows_238 ?_
  refine lv_icmp_ge (tgt := 260) hx hb dX12_rows_241 (by decide) (fun h => absurd h (by decide)) (fun _ => ?_)
  refine lv_lload_n hx hb dX12_rows_244 rfl (lv_at hl 1 rfl) ?_
  refine lv_aload_n hx hb dX12_rows_245 rfl (lv_at hl 2 rfl) ?_
  refine r_get C w 9 rfl fr_X12_99 rfl dX12_rows_246 ?_
  refine lv_iload hx hb dX12_rows_249 (lv_at hl 0 rfl) ?_
  refine r_lald C w 0 rfl (IX.of (k := 0) (by decide +kernel)) (v := 0) rfl dX12_rows_251 ?_
  refine lv_ladd hx hb dX12_rows_252 ?_
  refine z_l (v := 0) (by decide +kernel) ?_
  refine lv_lstore_n (lv' := [(3, .long 0), (5, .int 0), (0, .ref q0), (1, .int x0), (2, .int x1)]) hx hb dX12_rows_253 rfl hl (by decide) rfl (fun ls hl => ?_)
  refine lv_iinc (v := 1) (lv' := [(5, .int 1), (3, .long 0), (0, .ref q0), (1, .int x0), (2, .int x1)]) hx hb dX12_rows_254 hl (k := 1) rfl (by decide +kernel) (by decide) rfl (fun ls hl => ?_)
  refine lv_goto (tgt := 235) hx hb dX12_rows_257 (by decide) ?_
  refine lv_iload hx hb dX12_rows_235 (lv_at hl 0 rfl) ?_
  refine lv_aload_n hx hb dX12_rows_237 rfl (lv_at hl 2 rfl) ?_
  refine r_get C w 9 rfl fr_X12_322 rfl dX12_rows_238 ?_
  refine lv_icmp_ge (tgt := 260) hx hb dX12_rows_241 (by decide) (fun _ => ?_) (fun h => absurd (by decide) h)
  refine lv_lload_n hx hb dX12_rows_260 rfl (lv_at hl 1 rfl) ?_
  exact e_l C hr w (fun _ => 0) [9, 2, 3, 4, 5, 6, 7, 8, 10, 0, 1] rfl rfl dX12_rows_261 (by decide) (by decide)
set_option maxRecDepth 100000 in
set_option maxHeartbeats 4000000 in
theorem k345_rowsOfLength {l : Launch} {s0 : State} {a0 : Array Value} {G : GT} (b0 : B0 l s0 a0 G) (q0 q1 q2 q3 q4 q5 q6 q7 q8 q9 q10 q11 q12 q13 q14 q15 q16 q17 q18 q19 q20 q21 q22 q23 q24 q25 q26 q27 q28 q29 q30 q31 q32 q33 q34 q35 q36 q37 q38 : Nat) (x0 : Int32) (h0 : 0 < x0) (h1 : 1 < x0) (h2 : 2 < x0) (h3 : 3 < x0) (h4 : 4 < x0) (h5 : 5 < x0) (h6 : 6 < x0) (h7 : 7 < x0) (h8 : ¬ 8 < x0) (sz : Nat) : Kl l s0 G yX6_rowsOfLength cX6_rowsOfLength 5 (some .long) { frames := 2, cells := 0, slots := 0, locals := 50 } [.ref q0, .int x0] [(q0, .inr (6, [.int (-1), .ref q3, .ref q7, .ref q8, .ref q9, .ref q10, .ref q11, .ref q12, .ref q13, .ref q14, .ref q15, .ref q16, .ref q17, .ref q18, .ref q1, .ref q2, .int 0, .int 0, .int 0, .int 0])), (q1, .inl (G.2.2.1, 3008, .inr (.inl (fun _ => 0)))), (q2, .inl (G.2.2.1, 3008, .inr (.inl (fun _ => 0)))), (q3, .inr (1, [.int 0, .ref q6, .ref q19, .ref q4, .ref q5, .ref q20, .ref q21, .ref q22, .int 1])), (q4, .inr (7, [.ref q23, .int 0, .int 1, .int 3008, .ref q24])), (q5, .inl (G.2.1, 3008, .inl (fun _ => 0))), (q6, .inr (2, [.int 0, .int 0, .ref q25, .ref q26, .ref q27, .ref q28, .ref q29, .ref q30, .ref q31, .ref q32, .ref q33, .ref q34, .ref q35, .ref q36, .ref q37, .ref q38, .int 0]))] sz 0 (fun u => [(q0, .inr (6, [.int (-1), .ref q3, .ref q7, .ref q8, .ref q9, .ref q10, .ref q11, .ref q12, .ref q13, .ref q14, .ref q15, .ref q16, .ref q17, .ref q18, .ref q1, .ref q2, .int 0, .int 0, .int 0, .int 0])), (q1, .inl (G.2.2.1, 3008, .inr (.inl (fun _ => 0)))), (q2, .inl (G.2.2.1, 3008, .inr (.inl (fun _ => 0)))), (q3, .inr (1, [.int 0, .ref q6, .ref q19, .ref q4, .ref q5, .ref q20, .ref q21, .ref q22, .int 1])), (q4, .inr (7, [.ref q23, .int 0, .int 1, .int 3008, .ref q24])), (q5, .inl (G.2.1, 3008, .inl (fun _ => 0))), (q6, .inr (2, [.int 0, .int 0, .ref q25, .ref q26, .ref q27, .ref q28, .ref q29, .ref q30, .ref q31, .ref q32, .ref q33, .ref q34, .ref q35, .ref q36, .ref q37, .ref q38, .int 0]))]) := by
  refine Kl.of b0 (own := RX6) (nm := "rowsOfLength") [(0, .ref q0), (1, .int x0)] rfl rfl (by decide +kernel) (Nat.le_of_ble_eq_true rfl) rfl ?_
  intro p e s m below meth c A C hr H locs w ls hl
  have hx := C.hx
  have hb := C.hb
  refine lv_aload_n hx hb dX6_rowsOfLength_0 rfl (lv_at hl 0 rfl) ?_
  refine r_get C w 0 rfl fr_X6_54 rfl dX6_rowsOfLength_1 ?_
  refine lv_lconst (v := 0) hx hb dX6_rowsOfLength_4 (by decide) ?_
  refine fin_v C w (run_S C w ms_X6_142 (k_fillJ C.b0 q1 3008 (by decide) (fun _ => 0) 0 H.size) [1] rfl rfl (by decide) rfl hl.1 rfl (Nat.le_of_ble_eq_true rfl) dX6_rowsOfLength_5 (cells2 := 0) (slots2 := 0) (by decide)) [1] [0, 2, 3, 4, 5, 6] rfl rfl (by decide) (cells2 := 0) (slots2 := 0) (by decide) (fun u1 H locs w => ?_)
  have w : Wd s G A [(q0, .inr (6, [.int (-1), .ref q3, .ref q7, .ref q8, .ref q9, .ref q10, .ref q11, .ref q12, .ref q13, .ref q14, .ref q15, .ref q16, .ref q17, .ref q18, .ref q1, .ref q2, .int 0, .int 0, .int 0, .int 0])), (q2, .inl (G.2.2.1, 3008, .inr (.inl (fun _ => 0)))), (q3, .inr (1, [.int 0, .ref q6, .ref q19, .ref q4, .ref q5, .ref q20, .ref q21, .ref q22, .int 1])), (q4, .inr (7, [.ref q23, .int 0, .int 1, .int 3008, .ref q24])), (q5, .inl (G.2.1, 3008, .inl (fun _ => 0))), (q6, .inr (2, [.int 0, .int 0, .ref q25, .ref q26, .ref q27, .ref q28, .ref q29, .ref q30, .ref q31, .ref q32, .ref q33, .ref q34, .ref q35, .ref q36, .ref q37, .ref q38, .int 0])), (q1, .inl (G.2.2.1, 3008, .inr (.inl (fun _ => 0))))] H locs := w
  refine lv_aload_n hx hb dX6_rowsOfLength_8 rfl (lv_at hl 0 rfl) ?_
  refine r_get C w 0 rfl fr_X6_54 rfl dX6_rowsOfLength_9 ?_
  refine lv_iconst (v := 0) hx hb dX6_rowsOfLength_12 (by decide) ?_
  refine lv_lconst (v := 1) hx hb dX6_rowsOfLength_13 (by decide) ?_
  refine r_last C w 6 rfl (IX.of (k := 0) (by decide +kernel)) (g := (vp_updL (fun _ => 0) 0 1)) rfl dX6_rowsOfLength_14 (ws2 := [(q0, .inr (6, [.int (-1), .ref q3, .ref q7, .ref q8, .ref q9, .ref q10, .ref q11, .ref q12, .ref q13, .ref q14, .ref q15, .ref q16, .ref q17, .ref q18, .ref q1, .ref q2, .int 0, .int 0, .int 0, .int 0])), (q2, .inl (G.2.2.1, 3008, .inr (.inl (fun _ => 0)))), (q3, .inr (1, [.int 0, .ref q6, .ref q19, .ref q4, .ref q5, .ref q20, .ref q21, .ref q22, .int 1])), (q4, .inr (7, [.ref q23, .int 0, .int 1, .int 3008, .ref q24])), (q5, .inl (G.2.1, 3008, .inl (fun _ => 0))), (q6, .inr (2, [.int 0, .int 0, .ref q25, .ref q26, .ref q27, .ref q28, .ref q29, .ref q30, .ref q31, .ref q32, .ref q33, .ref q34, .ref q35, .ref q36, .ref q37, .ref q38, .int 0])), (q1, .inl (G.2.2.1, 3008, .inr (.inl (vp_updL (fun _ => 0) 0 1))))]) rfl (fun H locs w => ?_)
  refine lv_lconst (v := 1) hx hb dX6_rowsOfLength_15 (by decide) ?_
  refine lv_lstore_n (lv' := [(2, .long 1), (0, .ref q0), (1, .int x0)]) hx hb dX6_rowsOfLength_16 rfl hl (by decide) rfl (fun ls hl => ?_)
  refine lv_iconst (v := 0) hx hb dX6_rowsOfLength_17 (by decide) ?_
  refine lv_istore (lv' := [(4, .int 0), (2, .long 1), (0, .ref q0), (1, .int x0)]) hx hb dX6_rowsOfLength_18 hl (by decide) rfl (fun ls hl => ?_)
  refine lv_iload hx hb dX6_rowsOfLength_20 (lv_at hl 0 rfl) ?_
  refine lv_iload_n hx hb dX6_rowsOfLength_22 rfl (lv_at hl 3 rfl) ?_
  refine lv_icmp_ge (tgt := 39) hx hb dX6_rowsOfLength_23 (by decide) (fun h => absurd h (Int32.not_le.mpr h0)) (fun _ => ?_)
  refine lv_aload_n hx hb dX6_rowsOfLength_26 rfl (lv_at hl 2 rfl) ?_
  refine lv_iload hx hb dX6_rowsOfLength_27 (lv_at hl 0 rfl) ?_
  refine fin_l C w (run_V C w mv_X6_145 (k276_lengthen C.b0 q0 q2 q3 q4 q5 q6 q7 q8 q9 q10 q11 q12 q13 q14 q15 q16 q17 q18 q1 q19 q20 q21 q22 q23 q24 q25 q26 q27 q28 q29 q30 q31 q32 q33 q34 q35 q36 q37 q38 H.size) [0, 1, 2, 3, 4, 5] rfl rfl 0 rfl rfl (by decide) rfl hl.1 rfl (Nat.le_of_ble_eq_true rfl) dX6_rowsOfLength_29 (cells2 := 0) (slots2 := 0) (by decide)) [0, 1, 2, 3, 4, 5] [6] rfl rfl (by decide) (cells2 := 0) (slots2 := 0) (by decide) (fun u2 H locs w => ?_)
  have w : Wd s G A [(q1, .inl (G.2.2.1, 3008, .inr (.inl (vp_updL (fun _ => 0) 0 1)))), (q0, .inr (6, [.int (-1), .ref q3, .ref q7, .ref q8, .ref q9, .ref q10, .ref q11, .ref q12, .ref q13, .ref q14, .ref q15, .ref q16, .ref q17, .ref q18, .ref q2, .ref q1, .int 0, .int 0, .int 0, .int 0])), (q2, .inl (G.2.2.1, 3008, .inr (.inl (fun _ => 0)))), (q3, .inr (1, [.int 0, .ref q6, .ref q19, .ref q4, .ref q5, .ref q20, .ref q21, .ref q22, .int 1])), (q4, .inr (7, [.ref q23, .int 0, .int 1, .int 3008, .ref q24])), (q5, .inl (G.2.1, 3008, .inl (fun _ => 0))), (q6, .inr (2, [.int 0, .int 0, .ref q25, .ref q26, .ref q27, .ref q28, .ref q29, .ref q30, .ref q31, .ref q32, .ref q33, .ref q34, .ref q35, .ref q36, .ref q37, .ref q38, .int 0]))] H locs := w
  refine lv_lstore_n (lv' := [(2, .long 0), (4, .int 0), (0, .ref q0), (1, .int x0)]) hx hb dX6_rowsOfLength_32 rfl hl (by decide) rfl (fun ls hl => ?_)
  refine lv_iinc (v := 1) (lv' := [(4, .int 1), (2, .long 0), (0, .ref q0), (1, .int x0)]) hx hb dX6_rowsOfLength_33 hl (k := 1) rfl (by decide +kernel) (by decide) rfl (fun ls hl => ?_)
  refine lv_goto (tgt := 20) hx hb dX6_rowsOfLength_36 (by decide) ?_
  refine lv_iload hx hb dX6_rowsOfLength_20 (lv_at hl 0 rfl) ?_
  refine lv_iload_n hx hb dX6_rowsOfLength_22 rfl (lv_at hl 3 rfl) ?_
  refine lv_icmp_ge (tgt := 39) hx hb dX6_rowsOfLength_23 (by decide) (fun h => absurd h (Int32.not_le.mpr h1)) (fun _ => ?_)
  refine lv_aload_n hx hb dX6_rowsOfLength_26 rfl (lv_at hl 2 rfl) ?_
  refine lv_iload hx hb dX6_rowsOfLength_27 (lv_at hl 0 rfl) ?_
  refine fin_l C w (run_V C w mv_X6_145 (k277_lengthen C.b0 q0 q1 q3 q4 q5 q6 q7 q8 q9 q10 q11 q12 q13 q14 q15 q16 q17 q18 q2 q19 q20 q21 q22 q23 q24 q25 q26 q27 q28 q29 q30 q31 q32 q33 q34 q35 q36 q37 q38 (vp_updL (fun _ => 0) 0 1) H.size) [1, 0, 3, 4, 5, 6] rfl rfl 1 rfl rfl (by decide) rfl hl.1 rfl (Nat.le_of_ble_eq_true rfl) dX6_rowsOfLength_29 (cells2 := 0) (slots2 := 0) (by decide)) [1, 0, 3, 4, 5, 6] [2] rfl rfl (by decide) (cells2 := 0) (slots2 := 0) (by decide) (fun u3 H locs w => ?_)
  have w : Wd s G A [(q2, .inl (G.2.2.1, 3008, .inr (.inl (fun _ => 0)))), (q0, .inr (6, [.int (-1), .ref q3, .ref q7, .ref q8, .ref q9, .ref q10, .ref q11, .ref q12, .ref q13, .ref q14, .ref q15, .ref q16, .ref q17, .ref q18, .ref q1, .ref q2, .int 0, .int 0, .int 0, .int 0])), (q1, .inl (G.2.2.1, 3008, .inr (.inl (fun _ => 0)))), (q3, .inr (1, [.int 0, .ref q6, .ref q19, .ref q4, .ref q5, .ref q20, .ref q21, .ref q22, .int 1])), (q4, .inr (7, [.ref q23, .int 0, .int 1, .int 3008, .ref q24])), (q5, .inl (G.2.1, 3008, .inl (fun _ => 0))), (q6, .inr (2, [.int 0, .int 0, .ref q25, .ref q26, .ref q27, .ref q28, .ref q29, .ref q30, .ref q31, .ref q32, .ref q33, .ref q34, .ref q35, .ref q36, .ref q37, .ref q38, .int 0]))] H locs := w
  refine lv_lstore_n (lv' := [(2, .long 0), (4, .int 1), (0, .ref q0), (1, .int x0)]) hx hb dX6_rowsOfLength_32 rfl hl (by decide) rfl (fun ls hl => ?_)
  refine lv_iinc (v := 2) (lv' := [(4, .int 2), (2, .long 0), (0, .ref q0), (1, .int x0)]) hx hb dX6_rowsOfLength_33 hl (k := 1) rfl (by decide +kernel) (by decide) rfl (fun ls hl => ?_)
  refine lv_goto (tgt := 20) hx hb dX6_rowsOfLength_36 (by decide) ?_
  refine lv_iload hx hb dX6_rowsOfLength_20 (lv_at hl 0 rfl) ?_
  refine lv_iload_n hx hb dX6_rowsOfLength_22 rfl (lv_at hl 3 rfl) ?_
  refine lv_icmp_ge (tgt := 39) hx hb dX6_rowsOfLength_23 (by decide) (fun h => absurd h (Int32.not_le.mpr h2)) (fun _ => ?_)
  refine lv_aload_n hx hb dX6_rowsOfLength_26 rfl (lv_at hl 2 rfl) ?_
  refine lv_iload hx hb dX6_rowsOfLength_27 (lv_at hl 0 rfl) ?_
  refine fin_l C w (run_V C w mv_X6_145 (k278_lengthen C.b0 q0 q2 q3 q4 q5 q6 q7 q8 q9 q10 q11 q12 q13 q14 q15 q16 q17 q18 q1 q19 q20 q21 q22 q23 q24 q25 q26 q27 q28 q29 q30 q31 q32 q33 q34 q35 q36 q37 q38 H.size) [1, 0, 3, 4, 5, 6] rfl rfl 1 rfl rfl (by decide) rfl hl.1 rfl (Nat.le_of_ble_eq_true rfl) dX6_rowsOfLength_29 (cells2 := 0) (slots2 := 0) (by decide)) [1, 0, 3, 4, 5, 6] [2] rfl rfl (by decide) (cells2 := 0) (slots2 := 0) (by decide) (fun u4 H locs w => ?_)
  have w : Wd s G A [(q1, .inl (G.2.2.1, 3008, .inr (.inl (fun _ => 0)))), (q0, .inr (6, [.int (-1), .ref q3, .ref q7, .ref q8, .ref q9, .ref q10, .ref q11, .ref q12, .ref q13, .ref q14, .ref q15, .ref q16, .ref q17, .ref q18, .ref q2, .ref q1, .int 0, .int 0, .int 0, .int 0])), (q2, .inl (G.2.2.1, 3008, .inr (.inl (fun _ => 0)))), (q3, .inr (1, [.int 0, .ref q6, .ref q19, .ref q4, .ref q5, .ref q20, .ref q21, .ref q22, .int 1])), (q4, .inr (7, [.ref q23, .int 0, .int 1, .int 3008, .ref q24])), (q5, .inl (G.2.1, 3008, .inl (fun _ => 0))), (q6, .inr (2, [.int 0, .int 0, .ref q25, .ref q26, .ref q27, .ref q28, .ref q29, .ref q30, .ref q31, .ref q32, .ref q33, .ref q34, .ref q35, .ref q36, .ref q37, .ref q38, .int 0]))] H locs := w
  refine lv_lstore_n (lv' := [(2, .long 0), (4, .int 2), (0, .ref q0), (1, .int x0)]) hx hb dX6_rowsOfLength_32 rfl hl (by decide) rfl (fun ls hl => ?_)
  refine lv_iinc (v := 3) (lv' := [(4, .int 3), (2, .long 0), (0, .ref q0), (1, .int x0)]) hx hb dX6_rowsOfLength_33 hl (k := 1) rfl (by decide +kernel) (by decide) rfl (fun ls hl => ?_)
  refine lv_goto (tgt := 20) hx hb dX6_rowsOfLength_36 (by decide) ?_
  refine lv_iload hx hb dX6_rowsOfLength_20 (lv_at hl 0 rfl) ?_
  refine lv_iload_n hx hb dX6_rowsOfLength_22 rfl (lv_at hl 3 rfl) ?_
  refine lv_icmp_ge (tgt := 39) hx hb dX6_rowsOfLength_23 (by decide) (fun h => absurd h (Int32.not_le.mpr h3)) (fun _ => ?_)
  refine lv_aload_n hx hb dX6_rowsOfLength_26 rfl (lv_at hl 2 rfl) ?_
  refine lv_iload hx hb dX6_rowsOfLength_27 (lv_at hl 0 rfl) ?_
  refine fin_l C w (run_V C w mv_X6_145 (k279_lengthen C.b0 q0 q1 q3 q4 q5 q6 q7 q8 q9 q10 q11 q12 q13 q14 q15 q16 q17 q18 q2 q19 q20 q21 q22 q23 q24 q25 q26 q27 q28 q29 q30 q31 q32 q33 q34 q35 q36 q37 q38 H.size) [1, 0, 3, 4, 5, 6] rfl rfl 1 rfl rfl (by decide) rfl hl.1 rfl (Nat.le_of_ble_eq_true rfl) dX6_rowsOfLength_29 (cells2 := 0) (slots2 := 0) (by decide)) [1, 0, 3, 4, 5, 6] [2] rfl rfl (by decide) (cells2 := 0) (slots2 := 0) (by decide) (fun u5 H locs w => ?_)
  have w : Wd s G A [(q2, .inl (G.2.2.1, 3008, .inr (.inl (fun _ => 0)))), (q0, .inr (6, [.int (-1), .ref q3, .ref q7, .ref q8, .ref q9, .ref q10, .ref q11, .ref q12, .ref q13, .ref q14, .ref q15, .ref q16, .ref q17, .ref q18, .ref q1, .ref q2, .int 0, .int 0, .int 0, .int 0])), (q1, .inl (G.2.2.1, 3008, .inr (.inl (fun _ => 0)))), (q3, .inr (1, [.int 0, .ref q6, .ref q19, .ref q4, .ref q5, .ref q20, .ref q21, .ref q22, .int 1])), (q4, .inr (7, [.ref q23, .int 0, .int 1, .int 3008, .ref q24])), (q5, .inl (G.2.1, 3008, .inl (fun _ => 0))), (q6, .inr (2, [.int 0, .int 0, .ref q25, .ref q26, .ref q27, .ref q28, .ref q29, .ref q30, .ref q31, .ref q32, .ref q33, .ref q34, .ref q35, .ref q36, .ref q37, .ref q38, .int 0]))] H locs := w
  refine lv_lstore_n (lv' := [(2, .long 0), (4, .int 3), (0, .ref q0), (1, .int x0)]) hx hb dX6_rowsOfLength_32 rfl hl (by decide) rfl (fun ls hl => ?_)
  refine lv_iinc (v := 4) (lv' := [(4, .int 4), (2, .long 0), (0, .ref q0), (1, .int x0)]) hx hb dX6_rowsOfLength_33 hl (k := 1) rfl (by decide +kernel) (by decide) rfl (fun ls hl => ?_)
  refine lv_goto (tgt := 20) hx hb dX6_rowsOfLength_36 (by decide) ?_
  refine lv_iload hx hb dX6_rowsOfLength_20 (lv_at hl 0 rfl) ?_
  refine lv_iload_n hx hb dX6_rowsOfLength_22 rfl (lv_at hl 3 rfl) ?_
  refine lv_icmp_ge (tgt := 39) hx hb dX6_rowsOfLength_23 (by decide) (fun h => absurd h (Int32.not_le.mpr h4)) (fun _ => ?_)
  refine lv_aload_n hx hb dX6_rowsOfLength_26 rfl (lv_at hl 2 rfl) ?_
  refine lv_iload hx hb dX6_rowsOfLength_27 (lv_at hl 0 rfl) ?_
  refine fin_l C w (run_V C w mv_X6_145 (k280_lengthen C.b0 q0 q2 q3 q4 q5 q6 q7 q8 q9 q10 q11 q12 q13 q14 q15 q16 q17 q18 q1 q19 q20 q21 q22 q23 q24 q25 q26 q27 q28 q29 q30 q31 q32 q33 q34 q35 q36 q37 q38 H.size) [1, 0, 3, 4, 5, 6] rfl rfl 1 rfl rfl (by decide) rfl hl.1 rfl (Nat.le_of_ble_eq_true rfl) dX6_rowsOfLength_29 (cells2 := 0) (slots2 := 0) (by decide)) [1, 0, 3, 4, 5, 6] [2] rfl rfl (by decide) (cells2 := 0) (slots2 := 0) (by decide) (fun u6 H locs w => ?_)
  have w : Wd s G A [(q1, .inl (G.2.2.1, 3008, .inr (.inl (fun _ => 0)))), (q0, .inr (6, [.int (-1), .ref q3, .ref q7, .ref q8, .ref q9, .ref q10, .ref q11, .ref q12, .ref q13, .ref q14, .ref q15, .ref q16, .ref q17, .ref q18, .ref q2, .ref q1, .int 0, .int 0, .int 0, .int 0])), (q2, .inl (G.2.2.1, 3008, .inr (.inl (fun _ => 0)))), (q3, .inr (1, [.int 0, .ref q6, .ref q19, .ref q4, .ref q5, .ref q20, .ref q21, .ref q22, .int 1])), (q4, .inr (7, [.ref q23, .int 0, .int 1, .int 3008, .ref q24])), (q5, .inl (G.2.1, 3008, .inl (fun _ => 0))), (q6, .inr (2, [.int 0, .int 0, .ref q25, .ref q26, .ref q27, .ref q28, .ref q29, .ref q30, .ref q31, .ref q32, .ref q33, .ref q34, .ref q35, .ref q36, .ref q37, .ref q38, .int 0]))] H locs := w
  refine lv_lstore_n (lv' := [(2, .long 0), (4, .int 4), (0, .ref q0), (1, .int x0)]) hx hb dX6_rowsOfLength_32 rfl hl (by decide) rfl (fun ls hl => ?_)
  refine lv_iinc (v := 5) (lv' := [(4, .int 5), (2, .long 0), (0, .ref q0), (1, .int x0)]) hx hb dX6_rowsOfLength_33 hl (k := 1) rfl (by decide +kernel) (by decide) rfl (fun ls hl => ?_)
  refine lv_goto (tgt := 20) hx hb dX6_rowsOfLength_36 (by decide) ?_
  refine lv_iload hx hb dX6_rowsOfLength_20 (lv_at hl 0 rfl) ?_
  refine lv_iload_n hx hb dX6_rowsOfLength_22 rfl (lv_at hl 3 rfl) ?_
  refine lv_icmp_ge (tgt := 39) hx hb dX6_rowsOfLength_23 (by decide) (fun h => absurd h (Int32.not_le.mpr h5)) (fun _ => ?_)
  refine lv_aload_n hx hb dX6_rowsOfLength_26 rfl (lv_at hl 2 rfl) ?_
  refine lv_iload hx hb dX6_rowsOfLength_27 (lv_at hl 0 rfl) ?_
  refine fin_l C w (run_V C w mv_X6_145 (k281_lengthen C.b0 q0 q1 q3 q4 q5 q6 q7 q8 q9 q10 q11 q12 q13 q14 q15 q16 q17 q18 q2 q19 q20 q21 q22 q23 q24 q25 q26 q27 q28 q29 q30 q31 q32 q33 q34 q35 q36 q37 q38 H.size) [1, 0, 3, 4, 5, 6] rfl rfl 1 rfl rfl (by decide) rfl hl.1 rfl (Nat.le_of_ble_eq_true rfl) dX6_rowsOfLength_29 (cells2 := 0) (slots2 := 0) (by decide)) [1, 0, 3, 4, 5, 6] [2] rfl rfl (by decide) (cells2 := 0) (slots2 := 0) (by decide) (fun u7 H locs w => ?_)
  have w : Wd s G A [(q2, .inl (G.2.2.1, 3008, .inr (.inl (fun _ => 0)))), (q0, .inr (6, [.int (-1), .ref q3, .ref q7, .ref q8, .ref q9, .ref q10, .ref q11, .ref q12, .ref q13, .ref q14, .ref q15, .ref q16, .ref q17, .ref q18, .ref q1, .ref q2, .int 0, .int 0, .int 0, .int 0])), (q1, .inl (G.2.2.1, 3008, .inr (.inl (fun _ => 0)))), (q3, .inr (1, [.int 0, .ref q6, .ref q19, .ref q4, .ref q5, .ref q20, .ref q21, .ref q22, .int 1])), (q4, .inr (7, [.ref q23, .int 0, .int 1, .int 3008, .ref q24])), (q5, .inl (G.2.1, 3008, .inl (fun _ => 0))), (q6, .inr (2, [.int 0, .int 0, .ref q25, .ref q26, .ref q27, .ref q28, .ref q29, .ref q30, .ref q31, .ref q32, .ref q33, .ref q34, .ref q35, .ref q36, .ref q37, .ref q38, .int 0]))] H locs := w
  refine lv_lstore_n (lv' := [(2, .long 0), (4, .int 5), (0, .ref q0), (1, .int x0)]) hx hb dX6_rowsOfLength_32 rfl hl (by decide) rfl (fun ls hl => ?_)
  refine lv_iinc (v := 6) (lv' := [(4, .int 6), (2, .long 0), (0, .ref q0), (1, .int x0)]) hx hb dX6_rowsOfLength_33 hl (k := 1) rfl (by decide +kernel) (by decide) rfl (fun ls hl => ?_)
  refine lv_goto (tgt := 20) hx hb dX6_rowsOfLength_36 (by decide) ?_
  refine lv_iload hx hb dX6_rowsOfLength_20 (lv_at hl 0 rfl) ?_
  refine lv_iload_n hx hb dX6_rowsOfLength_22 rfl (lv_at hl 3 rfl) ?_
  refine lv_icmp_ge (tgt := 39) hx hb dX6_rowsOfLength_23 (by decide) (fun h => absurd h (Int32.not_le.mpr h6)) (fun _ => ?_)
  refine lv_aload_n hx hb dX6_rowsOfLength_26 rfl (lv_at hl 2 rfl) ?_
  refine lv_iload hx hb dX6_rowsOfLength_27 (lv_at hl 0 rfl) ?_
  refine fin_l C w (run_V C w mv_X6_145 (k282_lengthen C.b0 q0 q2 q3 q4 q5 q6 q7 q8 q9 q10 q11 q12 q13 q14 q15 q16 q17 q18 q1 q19 q20 q21 q22 q23 q24 q25 q26 q27 q28 q29 q30 q31 q32 q33 q34 q35 q36 q37 q38 H.size) [1, 0, 3, 4, 5, 6] rfl rfl 1 rfl rfl (by decide) rfl hl.1 rfl (Nat.le_of_ble_eq_true rfl) dX6_rowsOfLength_29 (cells2 := 0) (slots2 := 0) (by decide)) [1, 0, 3, 4, 5, 6] [2] rfl rfl (by decide) (cells2 := 0) (slots2 := 0) (by decide) (fun u8 H locs w => ?_)
  have w : Wd s G A [(q1, .inl (G.2.2.1, 3008, .inr (.inl (fun _ => 0)))), (q0, .inr (6, [.int (-1), .ref q3, .ref q7, .ref q8, .ref q9, .ref q10, .ref q11, .ref q12, .ref q13, .ref q14, .ref q15, .ref q16, .ref q17, .ref q18, .ref q2, .ref q1, .int 0, .int 0, .int 0, .int 0])), (q2, .inl (G.2.2.1, 3008, .inr (.inl (fun _ => 0)))), (q3, .inr (1, [.int 0, .ref q6, .ref q19, .ref q4, .ref q5, .ref q20, .ref q21, .ref q22, .int 1])), (q4, .inr (7, [.ref q23, .int 0, .int 1, .int 3008, .ref q24])), (q5, .inl (G.2.1, 3008, .inl (fun _ => 0))), (q6, .inr (2, [.int 0, .int 0, .ref q25, .ref q26, .ref q27, .ref q28, .ref q29, .ref q30, .ref q31, .ref q32, .ref q33, .ref q34, .ref q35, .ref q36, .ref q37, .ref q38, .int 0]))] H locs := w
  refine lv_lstore_n (lv' := [(2, .long 0), (4, .int 6), (0, .ref q0), (1, .int x0)]) hx hb dX6_rowsOfLength_32 rfl hl (by decide) rfl (fun ls hl => ?_)
  refine lv_iinc (v := 7) (lv' := [(4, .int 7), (2, .long 0), (0, .ref q0), (1, .int x0)]) hx hb dX6_rowsOfLength_33 hl (k := 1) rfl (by decide +kernel) (by decide) rfl (fun ls hl => ?_)
  refine lv_goto (tgt := 20) hx hb dX6_rowsOfLength_36 (by decide) ?_
  refine lv_iload hx hb dX6_rowsOfLength_20 (lv_at hl 0 rfl) ?_
  refine lv_iload_n hx hb dX6_rowsOfLength_22 rfl (lv_at hl 3 rfl) ?_
  refine lv_icmp_ge (tgt := 39) hx hb dX6_rowsOfLength_23 (by decide) (fun h => absurd h (Int32.not_le.mpr h7)) (fun _ => ?_)
  refine lv_aload_n hx hb dX6_rowsOfLength_26 rfl (lv_at hl 2 rfl) ?_
  refine lv_iload hx hb dX6_rowsOfLength_27 (lv_at hl 0 rfl) ?_
  refine fin_l C w (run_V C w mv_X6_145 (k283_lengthen C.b0 q0 q1 q3 q4 q5 q6 q7 q8 q9 q10 q11 q12 q13 q14 q15 q16 q17 q18 q2 q19 q20 q21 q22 q23 q24 q25 q26 q27 q28 q29 q30 q31 q32 q33 q34 q35 q36 q37 q38 H.size) [1, 0, 3, 4, 5, 6] rfl rfl 1 rfl rfl (by decide) rfl hl.1 rfl (Nat.le_of_ble_eq_true rfl) dX6_rowsOfLength_29 (cells2 := 0) (slots2 := 0) (by decide)) [1, 0, 3, 4, 5, 6] [2] rfl rfl (by decide) (cells2 := 0) (slots2 := 0) (by decide) (fun u9 H locs w => ?_)
  have w : Wd s G A [(q2, .inl (G.2.2.1, 3008, .inr (.inl (fun _ => 0)))), (q0, .inr (6, [.int (-1), .ref q3, .ref q7, .ref q8, .ref q9, .ref q10, .ref q11, .ref q12, .ref q13, .ref q14, .ref q15, .ref q16, .ref q17, .ref q18, .ref q1, .ref q2, .int 0, .int 0, .int 0, .int 0])), (q1, .inl (G.2.2.1, 3008, .inr (.inl (fun _ => 0)))), (q3, .inr (1, [.int 0, .ref q6, .ref q19, .ref q4, .ref q5, .ref q20, .ref q21, .ref q22, .int 1])), (q4, .inr (7, [.ref q23, .int 0, .int 1, .int 3008, .ref q24])), (q5, .inl (G.2.1, 3008, .inl (fun _ => 0))), (q6, .inr (2, [.int 0, .int 0, .ref q25, .ref q26, .ref q27, .ref q28, .ref q29, .ref q30, .ref q31, .ref q32, .ref q33, .ref q34, .ref q35, .ref q36, .ref q37, .ref q38, .int 0]))] H locs := w
  refine lv_lstore_n (lv' := [(2, .long 0), (4, .int 7), (0, .ref q0), (1, .int x0)]) hx hb dX6_rowsOfLength_32 rfl hl (by decide) rfl (fun ls hl => ?_)
  refine lv_iinc (v := 8) (lv' := [(4, .int 8), (2, .long 0), (0, .ref q0), (1, .int x0)]) hx hb dX6_rowsOfLength_33 hl (k := 1) rfl (by decide +kernel) (by decide) rfl (fun ls hl => ?_)
  refine lv_goto (tgt := 20) hx hb dX6_rowsOfLength_36 (by decide) ?_
  refine lv_iload hx hb dX6_rowsOfLength_20 (lv_at hl 0 rfl) ?_
  refine lv_iload_n hx hb dX6_rowsOfLength_22 rfl (lv_at hl 3 rfl) ?_
  refine lv_icmp_ge (tgt := 39) hx hb dX6_rowsOfLength_23 (by decide) (fun _ => ?_) (fun h => absurd (Int32.not_lt.mp h8) h)
  refine lv_lload_n hx hb dX6_rowsOfLength_39 rfl (lv_at hl 1 rfl) ?_
  exact e_l C hr w (fun _ => 0) [1, 2, 0, 3, 4, 5, 6] rfl rfl dX6_rowsOfLength_40 (by decide) (by decide)
set_option maxRecDepth 100000 in
set_option maxHeartbeats 4000000 in
theorem k346_rows {l : Launch} {s0 : State} {a0 : Array Value} {G : GT} (b0 : B0 l s0 a0 G) (q0 q1 q2 q3 q4 q5 q6 q7 q8 q9 q10 q11 q12 q13 q14 q15 q16 q17 q18 q19 q20 q21 q22 q23 q24 q25 q26 q27 : Nat) (x0 : Int32) (x1 : Int32) (h0 : 0 < x1) (h1 : 1 < x1) (h2 : 2 < x1) (h3 : ¬ 20 < x1) (h4 : 3 < x1) (h5 : ¬ 3000 < x0) (h6 : 4 < x1) (h7 : 5 < x1) (h8 : 6 < x1) (h9 : 7 < x1) (h10 : ¬ 8 < x1) (h11 : ¬ x0 < 1) (h12 : ¬ x1 < 0) (sz : Nat) : Kl l s0 G yX11_rows cX11_rows 4 (some .long) { frames := 4, cells := 24, slots := 104590, locals := 168 } [.ref q0, .int x0, .int x1] [(q0, .inr (11, [.ref q4, .ref q5, .ref q1, .ref q6, .ref q7, .ref q8, .ref q9, .ref q10, .ref q2, .ref q11, .int 0, .int (-1), .int 0, .int 0, .null, .null, .null, .null, .null])), (q1, .inr (5, [.ref q3, .ref q12, .ref q13, .int 0])), (q2, .inr (2, [.int 0, .int 0, .ref q14, .ref q15, .ref q16, .ref q17, .ref q18, .ref q19, .ref q20, .ref q21, .ref q22, .ref q23, .ref q24, .ref q25, .ref q26, .ref q27, .int 0])), (q3, .inl (G.2.1, 8, .inl (fun _ => 0)))] sz 0 (fun u => [(q0, .inr (11, [.ref q4, .ref q5, .ref q1, .ref q6, .ref q7, .ref q8, .ref q9, .ref q10, .ref q2, .ref q11, .int 0, .int (-1), .int 0, .int 0, .ref (u 0), .ref (u 9), .null, .null, .null])), (q1, .inr (5, [.ref q3, .ref q12, .ref q13, .int 0])), (q2, .inr (2, [.int 0, .int 0, .ref q14, .ref q15, .ref q16, .ref q17, .ref q18, .ref q19, .ref q20, .ref q21, .ref q22, .ref q23, .ref q24, .ref q25, .ref q26, .ref q27, .int 0])), (q3, .inl (G.2.1, 8, .inl (fun _ => 0))), ((u 0), .inr (1, [.int 0, .ref q2, .ref (u 1), .ref (u 2), .ref (u 5), .ref (u 6), .ref (u 7), .ref (u 8), .int 1])), ((u 1), .inl (G.2.1, 24064, .inl (fun _ => 0))), ((u 2), .inr (7, [.ref (u 3), .int 0, .int 1, .int 3008, .ref (u 4)])), ((u 3), .inl (G.2.1, 24064, .inl (fun _ => 0))), ((u 4), .inl (G.2.1, 8192, .inl (upd (fun _ => (-1)) 7 0))), ((u 5), .inl (G.2.1, 3008, .inl (fun _ => 0))), ((u 6), .inl (G.2.1, 3008, .inl (upd (fun _ => 0) 0 (-1)))), ((u 7), .inl (G.2.1, 3008, .inl (upd (fun _ => 0) 0 (-1)))), ((u 8), .inl (G.2.1, 8, .inl (fun _ => 0))), ((u 9), .inr (6, [.int (-1), .ref (u 0), .ref (u 10), .ref (u 11), .ref (u 12), .ref (u 13), .ref (u 14), .ref (u 15), .ref (u 16), .ref (u 17), .ref (u 18), .ref (u 19), .ref (u 20), .ref (u 21), .ref (u 22), .ref (u 23), .int 0, .int 0, .int 0, .int 0])), ((u 10), .inl (G.2.1, 3008, .inl (fun _ => 0))), ((u 11), .inl (G.2.1, 3008, .inl (fun _ => 0))), ((u 12), .inl (G.2.1, 3008, .inl (fun _ => 0))), ((u 13), .inl (G.2.1, 3008, .inl (fun _ => 0))), ((u 14), .inl (G.2.1, 3008, .inl (fun _ => 0))), ((u 15), .inl (G.2.1, 3008, .inl (fun _ => 0))), ((u 16), .inl (G.2.1, 3008, .inl (fun _ => 0))), ((u 17), .inl (G.2.1, 3008, .inl (fun _ => 0))), ((u 18), .inl (G.2.1, 3008, .inl (fun _ => 0))), ((u 19), .inl (G.2.1, 3008, .inl (fun _ => 0))), ((u 20), .inl (G.2.1, 3008, .inl (fun _ => 0))), ((u 21), .inl (G.2.1, 100, .inl (fun _ => 0))), ((u 22), .inl (G.2.2.1, 3008, .inr (.inl (fun _ => 0)))), ((u 23), .inl (G.2.2.1, 3008, .inr (.inl (fun _ => 0))))]) := by
  refine Kl.of b0 (own := RX11) (nm := "rows") [(0, .ref q0), (1, .int x0), (2, .int x1)] rfl rfl (by decide +kernel) (Nat.le_of_ble_eq_true rfl) rfl ?_
  intro p e s m below meth c A C hr H locs w ls hl
  have hx := C.hx
  have hb := C.hb
  refine lv_iload_n hx hb dX11_rows_0 rfl (lv_at hl 1 rfl) ?_
  refine fin_v C w (run_S C w ms_X11_161 (k106_needMost C.b0 x0 h5 h11 H.size) [] rfl rfl (by decide) rfl hl.1 rfl (Nat.le_of_ble_eq_true rfl) dX11_rows_1 (cells2 := 0) (slots2 := 0) (by decide)) [] [0, 1, 2, 3] rfl rfl (by decide) (cells2 := 0) (slots2 := 0) (by decide) (fun u1 H locs w => ?_)
  have w : Wd s G A [(q0, .inr (11, [.ref q4, .ref q5, .ref q1, .ref q6, .ref q7, .ref q8, .ref q9, .ref q10, .ref q2, .ref q11, .int 0, .int (-1), .int 0, .int 0, .null, .null, .null, .null, .null])), (q1, .inr (5, [.ref q3, .ref q12, .ref q13, .int 0])), (q2, .inr (2, [.int 0, .int 0, .ref q14, .ref q15, .ref q16, .ref q17, .ref q18, .ref q19, .ref q20, .ref q21, .ref q22, .ref q23, .ref q24, .ref q25, .ref q26, .ref q27, .int 0])), (q3, .inl (G.2.1, 8, .inl (fun _ => 0)))] H locs := w
  refine lv_iload_n hx hb dX11_rows_4 rfl (lv_at hl 2 rfl) ?_
  refine lv_iconst (v := 0) hx hb dX11_rows_5 (by decide) ?_
  refine lv_bipush (v := 20) hx hb dX11_rows_6 (by decide) ?_
  refine fin_v C w (run_S C w ms_X11_72 (k275_needWithin C.b0 x1 h3 h12 H.size) [] rfl rfl (by decide) rfl hl.1 rfl (Nat.le_of_ble_eq_true rfl) dX11_rows_8 (cells2 := 0) (slots2 := 0) (by decide)) [] [0, 1, 2, 3] rfl rfl (by decide) (cells2 := 0) (slots2 := 0) (by decide) (fun u2 H locs w => ?_)
  have w : Wd s G A [(q0, .inr (11, [.ref q4, .ref q5, .ref q1, .ref q6, .ref q7, .ref q8, .ref q9, .ref q10, .ref q2, .ref q11, .int 0, .int (-1), .int 0, .int 0, .null, .null, .null, .null, .null])), (q1, .inr (5, [.ref q3, .ref q12, .ref q13, .int 0])), (q2, .inr (2, [.int 0, .int 0, .ref q14, .ref q15, .ref q16, .ref q17, .ref q18, .ref q19, .ref q20, .ref q21, .ref q22, .ref q23, .ref q24, .ref q25, .ref q26, .ref q27, .int 0])), (q3, .inl (G.2.1, 8, .inl (fun _ => 0)))] H locs := w
  refine lv_aload_n hx hb dX11_rows_11 rfl (lv_at hl 0 rfl) ?_
  refine lv_iload_n hx hb dX11_rows_12 rfl (lv_at hl 1 rfl) ?_
  refine fin_r C w (run_V C w mv_X11_164 (k114_explored C.b0 q0 q1 q2 q3 q4 q5 q6 q7 q8 q9 q10 q11 q12 q13 q14 q15 q16 q17 q18 q19 q20 q21 q22 q23 q24 q25 q26 q27 x0 h11 H.size) [0, 1, 2, 3] rfl rfl 0 rfl rfl (by decide) rfl hl.1 rfl (Nat.le_of_ble_eq_true rfl) dX11_rows_13 (cells2 := 9) (slots2 := 65366) (by decide)) [0, 1, 2, 3] [] rfl rfl (by decide) (cells2 := 9) (slots2 := 65366) (by decide) (fun u3 H locs w => ?_)
  have w : Wd s G A [(q0, .inr (11, [.ref q4, .ref q5, .ref q1, .ref q6, .ref q7, .ref q8, .ref q9, .ref q10, .ref q2, .ref q11, .int 0, .int (-1), .int 0, .int 0, .ref (u3 0), .null, .null, .null, .null])), (q1, .inr (5, [.ref q3, .ref q12, .ref q13, .int 0])), (q2, .inr (2, [.int 0, .int 0, .ref q14, .ref q15, .ref q16, .ref q17, .ref q18, .ref q19, .ref q20, .ref q21, .ref q22, .ref q23, .ref q24, .ref q25, .ref q26, .ref q27, .int 0])), (q3, .inl (G.2.1, 8, .inl (fun _ => 0))), ((u3 0), .inr (1, [.int 0, .ref q2, .ref (u3 1), .ref (u3 2), .ref (u3 5), .ref (u3 6), .ref (u3 7), .ref (u3 8), .int 1])), ((u3 1), .inl (G.2.1, 24064, .inl (fun _ => 0))), ((u3 2), .inr (7, [.ref (u3 3), .int 0, .int 1, .int 3008, .ref (u3 4)])), ((u3 3), .inl (G.2.1, 24064, .inl (fun _ => 0))), ((u3 4), .inl (G.2.1, 8192, .inl (upd (fun _ => (-1)) 7 0))), ((u3 5), .inl (G.2.1, 3008, .inl (fun _ => 0))), ((u3 6), .inl (G.2.1, 3008, .inl (upd (fun _ => 0) 0 (-1)))), ((u3 7), .inl (G.2.1, 3008, .inl (upd (fun _ => 0) 0 (-1)))), ((u3 8), .inl (G.2.1, 8, .inl (fun _ => 0)))] H locs := w
  refine lv_astore_n (lv' := [(3, .ref (u3 0)), (0, .ref q0), (1, .int x0), (2, .int x1)]) hx hb dX11_rows_16 rfl hl (by decide) rfl (fun ls hl => ?_)
  refine lv_aload_n hx hb dX11_rows_17 rfl (lv_at hl 0 rfl) ?_
  refine lv_iload_n hx hb dX11_rows_18 rfl (lv_at hl 2 rfl) ?_
  refine fin_i C w (run_V C w mv_X11_168 (k115_isBeyond C.b0 (u3 0) (u3 2) q2 (u3 1) (u3 5) (u3 6) (u3 7) (u3 8) (u3 3) (u3 4) x0 h11 H.size) [4, 6] rfl rfl 4 rfl rfl (by decide) rfl hl.1 rfl (Nat.le_of_ble_eq_true rfl) dX11_rows_19 (cells2 := 9) (slots2 := 65366) (by decide)) [4, 6] [0, 1, 2, 3, 5, 7, 8, 9, 10, 11, 12] rfl rfl (by decide) (cells2 := 9) (slots2 := 65366) (by decide) (fun u4 H locs w => ?_)
  have w : Wd s G A [(q0, .inr (11, [.ref q4, .ref q5, .ref q1, .ref q6, .ref q7, .ref q8, .ref q9, .ref q10, .ref q2, .ref q11, .int 0, .int (-1), .int 0, .int 0, .ref (u3 0), .null, .null, .null, .null])), (q1, .inr (5, [.ref q3, .ref q12, .ref q13, .int 0])), (q2, .inr (2, [.int 0, .int 0, .ref q14, .ref q15, .ref q16, .ref q17, .ref q18, .ref q19, .ref q20, .ref q21, .ref q22, .ref q23, .ref q24, .ref q25, .ref q26, .ref q27, .int 0])), (q3, .inl (G.2.1, 8, .inl (fun _ => 0))), ((u3 1), .inl (G.2.1, 24064, .inl (fun _ => 0))), ((u3 3), .inl (G.2.1, 24064, .inl (fun _ => 0))), ((u3 4), .inl (G.2.1, 8192, .inl (upd (fun _ => (-1)) 7 0))), ((u3 5), .inl (G.2.1, 3008, .inl (fun _ => 0))), ((u3 6), .inl (G.2.1, 3008, .inl (upd (fun _ => 0) 0 (-1)))), ((u3 7), .inl (G.2.1, 3008, .inl (upd (fun _ => 0) 0 (-1)))), ((u3 8), .inl (G.2.1, 8, .inl (fun _ => 0))), ((u3 0), .inr (1, [.int 0, .ref q2, .ref (u3 1), .ref (u3 2), .ref (u3 5), .ref (u3 6), .ref (u3 7), .ref (u3 8), .int 1])), ((u3 2), .inr (7, [.ref (u3 3), .int 0, .int 1, .int 3008, .ref (u3 4)]))] H locs := w
  refine lv_if_eq (tgt := 31) hx hb dX11_rows_22 (by decide) (fun _ => ?_) (fun h => absurd (by decide) h)
  refine lv_aload_n hx hb dX11_rows_31 rfl (lv_at hl 1 rfl) ?_
  refine lv_aload_n hx hb dX11_rows_32 rfl (lv_at hl 0 rfl) ?_
  refine fin_r C w (run_V C w mv_X11_215 (k167_studied C.b0 q0 (u3 0) q4 q5 q1 q6 q7 q8 q9 q10 q2 q11 H.size) [0] rfl rfl 0 rfl rfl (by decide) rfl hl.1 rfl (Nat.le_of_ble_eq_true rfl) dX11_rows_33 (cells2 := 24) (slots2 := 104590) (by decide)) [0] [1, 2, 3, 4, 5, 6, 7, 8, 9, 10, 11, 12] rfl rfl (by decide) (cells2 := 24) (slots2 := 104590) (by decide) (fun u5 H locs w => ?_)
  have w : Wd s G A [(q1, .inr (5, [.ref q3, .ref q12, .ref q13, .int 0])), (q2, .inr (2, [.int 0, .int 0, .ref q14, .ref q15, .ref q16, .ref q17, .ref q18, .ref q19, .ref q20, .ref q21, .ref q22, .ref q23, .ref q24, .ref q25, .ref q26, .ref q27, .int 0])), (q3, .inl (G.2.1, 8, .inl (fun _ => 0))), ((u3 1), .inl (G.2.1, 24064, .inl (fun _ => 0))), ((u3 3), .inl (G.2.1, 24064, .inl (fun _ => 0))), ((u3 4), .inl (G.2.1, 8192, .inl (upd (fun _ => (-1)) 7 0))), ((u3 5), .inl (G.2.1, 3008, .inl (fun _ => 0))), ((u3 6), .inl (G.2.1, 3008, .inl (upd (fun _ => 0) 0 (-1)))), ((u3 7), .inl (G.2.1, 3008, .inl (upd (fun _ => 0) 0 (-1)))), ((u3 8), .inl (G.2.1, 8, .inl (fun _ => 0))), ((u3 0), .inr (1, [.int 0, .ref q2, .ref (u3 1), .ref (u3 2), .ref (u3 5), .ref (u3 6), .ref (u3 7), .ref (u3 8), .int 1])), ((u3 2), .inr (7, [.ref (u3 3), .int 0, .int 1, .int 3008, .ref (u3 4)])), (q0, .inr (11, [.ref q4, .ref q5, .ref q1, .ref q6, .ref q7, .ref q8, .ref q9, .ref q10, .ref q2, .ref q11, .int 0, .int (-1), .int 0, .int 0, .ref (u3 0), .ref (u5 0), .null, .null, .null])), ((u5 0), .inr (6, [.int (-1), .ref (u3 0), .ref (u5 1), .ref (u5 2), .ref (u5 3), .ref (u5 4), .ref (u5 5), .ref (u5 6), .ref (u5 7), .ref (u5 8), .ref (u5 9), .ref (u5 10), .ref (u5 11), .ref (u5 12), .ref (u5 13), .ref (u5 14), .int 0, .int 0, .int 0, .int 0])), ((u5 1), .inl (G.2.1, 3008, .inl (fun _ => 0))), ((u5 2), .inl (G.2.1, 3008, .inl (fun _ => 0))), ((u5 3), .inl (G.2.1, 3008, .inl (fun _ => 0))), ((u5 4), .inl (G.2.1, 3008, .inl (fun _ => 0))), ((u5 5), .inl (G.2.1, 3008, .inl (fun _ => 0))), ((u5 6), .inl (G.2.1, 3008, .inl (fun _ => 0))), ((u5 7), .inl (G.2.1, 3008, .inl (fun _ => 0))), ((u5 8), .inl (G.2.1, 3008, .inl (fun _ => 0))), ((u5 9), .inl (G.2.1, 3008, .inl (fun _ => 0))), ((u5 10), .inl (G.2.1, 3008, .inl (fun _ => 0))), ((u5 11), .inl (G.2.1, 3008, .inl (fun _ => 0))), ((u5 12), .inl (G.2.1, 100, .inl (fun _ => 0))), ((u5 13), .inl (G.2.2.1, 3008, .inr (.inl (fun _ => 0)))), ((u5 14), .inl (G.2.2.1, 3008, .inr (.inl (fun _ => 0))))] H locs := w
  refine lv_iload_n hx hb dX11_rows_36 rfl (lv_at hl 3 rfl) ?_
  refine fin_l C w (run_V C w mv_X11_224 (k345_rowsOfLength C.b0 (u5 0) (u5 13) (u5 14) (u3 0) (u3 2) (u3 5) q2 (u5 1) (u5 2) (u5 3) (u5 4) (u5 5) (u5 6) (u5 7) (u5 8) (u5 9) (u5 10) (u5 11) (u5 12) (u3 1) (u3 6) (u3 7) (u3 8) (u3 3) (u3 4) q14 q15 q16 q17 q18 q19 q20 q21 q22 q23 q24 q25 q26 q27 x1 h0 h1 h2 h4 h6 h7 h8 h9 h10 H.size) [13, 26, 27, 10, 11, 6, 1] rfl rfl 13 rfl rfl (by decide) rfl hl.1 rfl (Nat.le_of_ble_eq_true rfl) dX11_rows_37 (cells2 := 24) (slots2 := 104590) (by decide)) [13, 26, 27, 10, 11, 6, 1] [0, 2, 3, 4, 5, 7, 8, 9, 12, 14, 15, 16, 17, 18, 19, 20, 21, 22, 23, 24, 25] rfl rfl (by decide) (cells2 := 24) (slots2 := 104590) (by decide) (fun u6 H locs w => ?_)
  have w : Wd s G A [(q1, .inr (5, [.ref q3, .ref q12, .ref q13, .int 0])), (q3, .inl (G.2.1, 8, .inl (fun _ => 0))), ((u3 1), .inl (G.2.1, 24064, .inl (fun _ => 0))), ((u3 3), .inl (G.2.1, 24064, .inl (fun _ => 0))), ((u3 4), .inl (G.2.1, 8192, .inl (upd (fun _ => (-1)) 7 0))), ((u3 6), .inl (G.2.1, 3008, .inl (upd (fun _ => 0) 0 (-1)))), ((u3 7), .inl (G.2.1, 3008, .inl (upd (fun _ => 0) 0 (-1)))), ((u3 8), .inl (G.2.1, 8, .inl (fun _ => 0))), (q0, .inr (11, [.ref q4, .ref q5, .ref q1, .ref q6, .ref q7, .ref q8, .ref q9, .ref q10, .ref q2, .ref q11, .int 0, .int (-1), .int 0, .int 0, .ref (u3 0), .ref (u5 0), .null, .null, .null])), ((u5 1), .inl (G.2.1, 3008, .inl (fun _ => 0))), ((u5 2), .inl (G.2.1, 3008, .inl (fun _ => 0))), ((u5 3), .inl (G.2.1, 3008, .inl (fun _ => 0))), ((u5 4), .inl (G.2.1, 3008, .inl (fun _ => 0))), ((u5 5), .inl (G.2.1, 3008, .inl (fun _ => 0))), ((u5 6), .inl (G.2.1, 3008, .inl (fun _ => 0))), ((u5 7), .inl (G.2.1, 3008, .inl (fun _ => 0))), ((u5 8), .inl (G.2.1, 3008, .inl (fun _ => 0))), ((u5 9), .inl (G.2.1, 3008, .inl (fun _ => 0))), ((u5 10), .inl (G.2.1, 3008, .inl (fun _ => 0))), ((u5 11), .inl (G.2.1, 3008, .inl (fun _ => 0))), ((u5 12), .inl (G.2.1, 100, .inl (fun _ => 0))), ((u5 0), .inr (6, [.int (-1), .ref (u3 0), .ref (u5 1), .ref (u5 2), .ref (u5 3), .ref (u5 4), .ref (u5 5), .ref (u5 6), .ref (u5 7), .ref (u5 8), .ref (u5 9), .ref (u5 10), .ref (u5 11), .ref (u5 12), .ref (u5 13), .ref (u5 14), .int 0, .int 0, .int 0, .int 0])), ((u5 13), .inl (G.2.2.1, 3008, .inr (.inl (fun _ => 0)))), ((u5 14), .inl (G.2.2.1, 3008, .inr (.inl (fun _ => 0)))), ((u3 0), .inr (1, [.int 0, .ref q2, .ref (u3 1), .ref (u3 2), .ref (u3 5), .ref (u3 6), .ref (u3 7), .ref (u3 8), .int 1])), ((u3 2), .inr (7, [.ref (u3 3), .int 0, .int 1, .int 3008, .ref (u3 4)])), ((u3 5), .inl (G.2.1, 3008, .inl (fun _ => 0))), (q2, .inr (2, [.int 0, .int 0, .ref q14, .ref q15, .ref q16, .ref q17, .ref q18, .ref q19, .ref q20, .ref q21, .ref q22, .ref q23, .ref q24, .ref q25, .ref q26, .ref q27, .int 0]))] H locs := w
  exact e_l C hr w (fun k => [(u3 0), (u3 1), (u3 2), (u3 3), (u3 4), (u3 5), (u3 6), (u3 7), (u3 8), (u5 0), (u5 1), (u5 2), (u5 3), (u5 4), (u5 5), (u5 6), (u5 7), (u5 8), (u5 9), (u5 10), (u5 11), (u5 12), (u5 13), (u5 14)].getD k 0) [8, 0, 27, 1, 24, 2, 25, 3, 4, 26, 5, 6, 7, 21, 9, 10, 11, 12, 13, 14, 15, 16, 17, 18, 19, 20, 22, 23] rfl rfl dX11_rows_40 (by decide) (by decide)
set_option maxRecDepth 100000 in
set_option maxHeartbeats 4000000 in
theorem k347_rows {l : Launch} {s0 : State} {a0 : Array Value} {G : GT} (b0 : B0 l s0 a0 G) (q0 q1 q2 q3 q4 q5 q6 q7 q8 q9 q10 q11 q12 q13 q14 q15 q16 q17 q18 q19 q20 q21 q22 q23 q24 q25 q26 q27 q28 : Nat) (x0 : Int32) (x1 : Int32) (h0 : 0 < x1) (h1 : 1 < x1) (h2 : 2 < x1) (h3 : ¬ 20 < x1) (h4 : 3 < x1) (h5 : ¬ 3000 < x0) (h6 : 4 < x1) (h7 : 5 < x1) (h8 : 6 < x1) (h9 : 7 < x1) (h10 : ¬ 8 < x1) (h11 : ¬ x0 < 1) (h12 : ¬ x1 < 0) (sz : Nat) : Kh l s0 G yL_rows cL_rows 5 (some .int) [(0, 9, 12, 13)] { frames := 5, cells := 24, slots := 104590, locals := 191 } [.ref q0, .int x0, .int x1, .ref q4] [(q0, .inr (11, [.ref q5, .ref q6, .ref q1, .ref q7, .ref q8, .ref q9, .ref q10, .ref q11, .ref q2, .ref q12, .int 0, .int (-1), .int 0, .int 0, .null, .null, .null, .null, .null])), (q1, .inr (5, [.ref q3, .ref q13, .ref q14, .int 0])), (q2, .inr (2, [.int 0, .int 0, .ref q15, .ref q16, .ref q17, .ref q18, .ref q19, .ref q20, .ref q21, .ref q22, .ref q23, .ref q24, .ref q25, .ref q26, .ref q27, .ref q28, .int 0])), (q3, .inl (G.2.1, 8, .inl (fun _ => 0))), (q4, .inl (G.2.2.1, 1, .inr (.inl (fun _ => 0))))] sz 0 (fun u => [(q0, .inr (11, [.ref q5, .ref q6, .ref q1, .ref q7, .ref q8, .ref q9, .ref q10, .ref q11, .ref q2, .ref q12, .int 0, .int (-1), .int 0, .int 0, .ref (u 0), .ref (u 9), .null, .null, .null])), (q1, .inr (5, [.ref q3, .ref q13, .ref q14, .int 0])), (q2, .inr (2, [.int 0, .int 0, .ref q15, .ref q16, .ref q17, .ref q18, .ref q19, .ref q20, .ref q21, .ref q22, .ref q23, .ref q24, .ref q25, .ref q26, .ref q27, .ref q28, .int 0])), (q3, .inl (G.2.1, 8, .inl (fun _ => 0))), (q4, .inl (G.2.2.1, 1, .inr (.inl (fun _ => 0)))), ((u 0), .inr (1, [.int 0, .ref q2, .ref (u 1), .ref (u 2), .ref (u 5), .ref (u 6), .ref (u 7), .ref (u 8), .int 1])), ((u 1), .inl (G.2.1, 24064, .inl (fun _ => 0))), ((u 2), .inr (7, [.ref (u 3), .int 0, .int 1, .int 3008, .ref (u 4)])), ((u 3), .inl (G.2.1, 24064, .inl (fun _ => 0))), ((u 4), .inl (G.2.1, 8192, .inl (upd (fun _ => (-1)) 7 0))), ((u 5), .inl (G.2.1, 3008, .inl (fun _ => 0))), ((u 6), .inl (G.2.1, 3008, .inl (upd (fun _ => 0) 0 (-1)))), ((u 7), .inl (G.2.1, 3008, .inl (upd (fun _ => 0) 0 (-1)))), ((u 8), .inl (G.2.1, 8, .inl (fun _ => 0))), ((u 9), .inr (6, [.int (-1), .ref (u 0), .ref (u 10), .ref (u 11), .ref (u 12), .ref (u 13), .ref (u 14), .ref (u 15), .ref (u 16), .ref (u 17), .ref (u 18), .ref (u 19), .ref (u 20), .ref (u 21), .ref (u 22), .ref (u 23), .int 0, .int 0, .int 0, .int 0])), ((u 10), .inl (G.2.1, 3008, .inl (fun _ => 0))), ((u 11), .inl (G.2.1, 3008, .inl (fun _ => 0))), ((u 12), .inl (G.2.1, 3008, .inl (fun _ => 0))), ((u 13), .inl (G.2.1, 3008, .inl (fun _ => 0))), ((u 14), .inl (G.2.1, 3008, .inl (fun _ => 0))), ((u 15), .inl (G.2.1, 3008, .inl (fun _ => 0))), ((u 16), .inl (G.2.1, 3008, .inl (fun _ => 0))), ((u 17), .inl (G.2.1, 3008, .inl (fun _ => 0))), ((u 18), .inl (G.2.1, 3008, .inl (fun _ => 0))), ((u 19), .inl (G.2.1, 3008, .inl (fun _ => 0))), ((u 20), .inl (G.2.1, 3008, .inl (fun _ => 0))), ((u 21), .inl (G.2.1, 100, .inl (fun _ => 0))), ((u 22), .inl (G.2.2.1, 3008, .inr (.inl (fun _ => 0)))), ((u 23), .inl (G.2.2.1, 3008, .inr (.inl (fun _ => 0))))]) := by
  refine Kh.of b0 (own := RL) (nm := "rows") [(0, .ref q0), (1, .int x0), (2, .int x1), (3, .ref q4)] rfl rfl (by decide +kernel) (Nat.le_of_ble_eq_true rfl) rfl ?_
  intro p e s m below meth c A C hr ht H locs w ls hl
  have hx := C.hx
  have hb := C.hb
  refine lv_aload_n hx hb dL_rows_0 rfl (lv_at hl 3 rfl) ?_
  refine lv_iconst (v := 0) hx hb dL_rows_1 (by decide) ?_
  refine lv_aload_n hx hb dL_rows_2 rfl (lv_at hl 0 rfl) ?_
  refine lv_iload_n hx hb dL_rows_3 rfl (lv_at hl 1 rfl) ?_
  refine lv_iload_n hx hb dL_rows_4 rfl (lv_at hl 2 rfl) ?_
  refine fin_l C w (run_V C w mv_L_77 (k346_rows C.b0 q0 q1 q2 q3 q5 q6 q7 q8 q9 q10 q11 q12 q13 q14 q15 q16 q17 q18 q19 q20 q21 q22 q23 q24 q25 q26 q27 q28 x0 x1 h0 h1 h2 h3 h4 h5 h6 h7 h8 h9 h10 h11 h12 H.size) [0, 1, 2, 3] rfl rfl 0 rfl rfl (by decide) rfl hl.1 rfl (Nat.le_of_ble_eq_true rfl) dL_rows_5 (cells2 := 24) (slots2 := 104590) (by decide)) [0, 1, 2, 3] [4] rfl rfl (by decide) (cells2 := 24) (slots2 := 104590) (by decide) (fun u1 H locs w => ?_)
  have w : Wd s G A [(q4, .inl (G.2.2.1, 1, .inr (.inl (fun _ => 0)))), (q0, .inr (11, [.ref q5, .ref q6, .ref q1, .ref q7, .ref q8, .ref q9, .ref q10, .ref q11, .ref q2, .ref q12, .int 0, .int (-1), .int 0, .int 0, .ref (u1 0), .ref (u1 9), .null, .null, .null])), (q1, .inr (5, [.ref q3, .ref q13, .ref q14, .int 0])), (q2, .inr (2, [.int 0, .int 0, .ref q15, .ref q16, .ref q17, .ref q18, .ref q19, .ref q20, .ref q21, .ref q22, .ref q23, .ref q24, .ref q25, .ref q26, .ref q27, .ref q28, .int 0])), (q3, .inl (G.2.1, 8, .inl (fun _ => 0))), ((u1 0), .inr (1, [.int 0, .ref q2, .ref (u1 1), .ref (u1 2), .ref (u1 5), .ref (u1 6), .ref (u1 7), .ref (u1 8), .int 1])), ((u1 1), .inl (G.2.1, 24064, .inl (fun _ => 0))), ((u1 2), .inr (7, [.ref (u1 3), .int 0, .int 1, .int 3008, .ref (u1 4)])), ((u1 3), .inl (G.2.1, 24064, .inl (fun _ => 0))), ((u1 4), .inl (G.2.1, 8192, .inl (upd (fun _ => (-1)) 7 0))), ((u1 5), .inl (G.2.1, 3008, .inl (fun _ => 0))), ((u1 6), .inl (G.2.1, 3008, .inl (upd (fun _ => 0) 0 (-1)))), ((u1 7), .inl (G.2.1, 3008, .inl (upd (fun _ => 0) 0 (-1)))), ((u1 8), .inl (G.2.1, 8, .inl (fun _ => 0))), ((u1 9), .inr (6, [.int (-1), .ref (u1 0), .ref (u1 10), .ref (u1 11), .ref (u1 12), .ref (u1 13), .ref (u1 14), .ref (u1 15), .ref (u1 16), .ref (u1 17), .ref (u1 18), .ref (u1 19), .ref (u1 20), .ref (u1 21), .ref (u1 22), .ref (u1 23), .int 0, .int 0, .int 0, .int 0])), ((u1 10), .inl (G.2.1, 3008, .inl (fun _ => 0))), ((u1 11), .inl (G.2.1, 3008, .inl (fun _ => 0))), ((u1 12), .inl (G.2.1, 3008, .inl (fun _ => 0))), ((u1 13), .inl (G.2.1, 3008, .inl (fun _ => 0))), ((u1 14), .inl (G.2.1, 3008, .inl (fun _ => 0))), ((u1 15), .inl (G.2.1, 3008, .inl (fun _ => 0))), ((u1 16), .inl (G.2.1, 3008, .inl (fun _ => 0))), ((u1 17), .inl (G.2.1, 3008, .inl (fun _ => 0))), ((u1 18), .inl (G.2.1, 3008, .inl (fun _ => 0))), ((u1 19), .inl (G.2.1, 3008, .inl (fun _ => 0))), ((u1 20), .inl (G.2.1, 3008, .inl (fun _ => 0))), ((u1 21), .inl (G.2.1, 100, .inl (fun _ => 0))), ((u1 22), .inl (G.2.2.1, 3008, .inr (.inl (fun _ => 0)))), ((u1 23), .inl (G.2.2.1, 3008, .inr (.inl (fun _ => 0))))] H locs := w
  refine r_last C w 0 rfl (IX.of (k := 0) (by decide +kernel)) (g := (fun _ => 0)) (updL_c _ _) dL_rows_8 (ws2 := [(q4, .inl (G.2.2.1, 1, .inr (.inl (fun _ => 0)))), (q0, .inr (11, [.ref q5, .ref q6, .ref q1, .ref q7, .ref q8, .ref q9, .ref q10, .ref q11, .ref q2, .ref q12, .int 0, .int (-1), .int 0, .int 0, .ref (u1 0), .ref (u1 9), .null, .null, .null])), (q1, .inr (5, [.ref q3, .ref q13, .ref q14, .int 0])), (q2, .inr (2, [.int 0, .int 0, .ref q15, .ref q16, .ref q17, .ref q18, .ref q19, .ref q20, .ref q21, .ref q22, .ref q23, .ref q24, .ref q25, .ref q26, .ref q27, .ref q28, .int 0])), (q3, .inl (G.2.1, 8, .inl (fun _ => 0))), ((u1 0), .inr (1, [.int 0, .ref q2, .ref (u1 1), .ref (u1 2), .ref (u1 5), .ref (u1 6), .ref (u1 7), .ref (u1 8), .int 1])), ((u1 1), .inl (G.2.1, 24064, .inl (fun _ => 0))), ((u1 2), .inr (7, [.ref (u1 3), .int 0, .int 1, .int 3008, .ref (u1 4)])), ((u1 3), .inl (G.2.1, 24064, .inl (fun _ => 0))), ((u1 4), .inl (G.2.1, 8192, .inl (upd (fun _ => (-1)) 7 0))), ((u1 5), .inl (G.2.1, 3008, .inl (fun _ => 0))), ((u1 6), .inl (G.2.1, 3008, .inl (upd (fun _ => 0) 0 (-1)))), ((u1 7), .inl (G.2.1, 3008, .inl (upd (fun _ => 0) 0 (-1)))), ((u1 8), .inl (G.2.1, 8, .inl (fun _ => 0))), ((u1 9), .inr (6, [.int (-1), .ref (u1 0), .ref (u1 10), .ref (u1 11), .ref (u1 12), .ref (u1 13), .ref (u1 14), .ref (u1 15), .ref (u1 16), .ref (u1 17), .ref (u1 18), .ref (u1 19), .ref (u1 20), .ref (u1 21), .ref (u1 22), .ref (u1 23), .int 0, .int 0, .int 0, .int 0])), ((u1 10), .inl (G.2.1, 3008, .inl (fun _ => 0))), ((u1 11), .inl (G.2.1, 3008, .inl (fun _ => 0))), ((u1 12), .inl (G.2.1, 3008, .inl (fun _ => 0))), ((u1 13), .inl (G.2.1, 3008, .inl (fun _ => 0))), ((u1 14), .inl (G.2.1, 3008, .inl (fun _ => 0))), ((u1 15), .inl (G.2.1, 3008, .inl (fun _ => 0))), ((u1 16), .inl (G.2.1, 3008, .inl (fun _ => 0))), ((u1 17), .inl (G.2.1, 3008, .inl (fun _ => 0))), ((u1 18), .inl (G.2.1, 3008, .inl (fun _ => 0))), ((u1 19), .inl (G.2.1, 3008, .inl (fun _ => 0))), ((u1 20), .inl (G.2.1, 3008, .inl (fun _ => 0))), ((u1 21), .inl (G.2.1, 100, .inl (fun _ => 0))), ((u1 22), .inl (G.2.2.1, 3008, .inr (.inl (fun _ => 0)))), ((u1 23), .inl (G.2.2.1, 3008, .inr (.inl (fun _ => 0))))]) rfl (fun H locs w => ?_)
  refine lv_goto (tgt := 16) hx hb dL_rows_9 (by decide) ?_
  refine lv_iconst (v := 0) hx hb dL_rows_16 (by decide) ?_
  exact e_i C hr w (fun k => [(u1 0), (u1 1), (u1 2), (u1 3), (u1 4), (u1 5), (u1 6), (u1 7), (u1 8), (u1 9), (u1 10), (u1 11), (u1 12), (u1 13), (u1 14), (u1 15), (u1 16), (u1 17), (u1 18), (u1 19), (u1 20), (u1 21), (u1 22), (u1 23)].getD k 0) [1, 2, 3, 4, 0, 5, 6, 7, 8, 9, 10, 11, 12, 13, 14, 15, 16, 17, 18, 19, 20, 21, 22, 23, 24, 25, 26, 27, 28] rfl rfl rfl dL_rows_17 (by decide) (by decide)
set_option maxRecDepth 100000 in
set_option maxHeartbeats 4000000 in
theorem k348_rows {l : Launch} {s0 : State} {a0 : Array Value} {G : GT} (b0 : B0 l s0 a0 G) (q0 q1 q2 q3 q4 q5 q6 q7 q8 q9 q10 q11 q12 q13 q14 q15 q16 q17 q18 q19 q20 q21 q22 q23 q24 q25 q26 q27 q28 q29 q30 q31 q32 q33 q34 q35 q36 q37 q38 q39 q40 q41 q42 : Nat) (x0 : Int32) (x1 : Int32) (h0 : 0 < x1) (h1 : 1 < x1) (h2 : 2 < x1) (h3 : ¬ 20 < x1) (h4 : 3 < x1) (h5 : ¬ 3000 < x0) (h6 : 4 < x1) (h7 : 5 < x1) (h8 : 6 < x1) (h9 : 7 < x1) (h10 : ¬ 8 < x1) (h11 : ¬ x0 < 1) (h12 : ¬ x1 < 0) (sz : Nat) : Kl l s0 G yX12_rows cX12_rows 6 (some .long) { frames := 3, cells := 0, slots := 0, locals := 72 } [.ref q0, .int x0, .int x1] [(q0, .inr (12, [.int 0, .int 0, .int 0, .int 0, .int 0, .int 0, .int 0, .int (-1), .ref q11, .ref q8, .ref q12, .int 0, .ref q13, .ref q14, .ref q15, .ref q16, .ref q17, .ref q2, .ref q18, .int 0, .ref q3, .ref q4, .ref q19, .ref q6, .ref q7, .ref q1, .ref q5, .int 0, .int (-1), .int 0, .ref q20, .ref q21, .ref q22, .ref q23, .ref q24, .ref q25, .ref q26, .ref q27, .int 0, .ref q28, .ref q9, .ref q10, .ref q29, .ref q30, .int 0, .ref q31, .ref q32, .ref q33, .ref q34, .int 0, .ref q35, .ref q36, .ref q37, .ref q38, .int 0, .int 0, .ref q39, .ref q40, .ref q41, .ref q42])), (q1, .inl (G.2.1, 4096, .inl (fun _ => 0))), (q2, .inl (G.2.1, 57, .inl (fun _ => 0))), (q3, .inl (G.2.1, 8, .inl (fun _ => 0))), (q4, .inl (G.2.1, 24008, .inl (fun _ => 0))), (q5, .inl (G.2.1, 3000, .inl (fun _ => 0))), (q6, .inl (G.2.1, 3000, .inl (fun _ => 0))), (q7, .inl (G.2.1, 3000, .inl (fun _ => 0))), (q8, .inl (G.2.1, 242, .inl (fun _ => 0))), (q9, .inl (G.2.2.1, 3000, .inr (.inl (fun _ => 0)))), (q10, .inl (G.2.2.1, 3000, .inr (.inl (fun _ => 0))))] sz 0 (fun u => [(q0, .inr (12, [.int 0, .int 0, .int 0, .int 0, .int 0, .int 0, .int 0, .int (-1), .ref q11, .ref q8, .ref q12, .int 0, .ref q13, .ref q14, .ref q15, .ref q16, .ref q17, .ref q2, .ref q18, .int 0, .ref q3, .ref q4, .ref q19, .ref q6, .ref q7, .ref q1, .ref q5, .int 1, .int (-1), .int 0, .ref q20, .ref q21, .ref q22, .ref q23, .ref q24, .ref q25, .ref q26, .ref q27, .int 0, .ref q28, .ref q9, .ref q10, .ref q29, .ref q30, .int 0, .ref q31, .ref q32, .ref q33, .ref q34, .int 0, .ref q35, .ref q36, .ref q37, .ref q38, .int 0, .int 0, .ref q39, .ref q40, .ref q41, .ref q42])), (q1, .inl (G.2.1, 4096, .inl (upd (fun _ => (-1)) 0 0))), (q2, .inl (G.2.1, 57, .inl (fun _ => 0))), (q3, .inl (G.2.1, 8, .inl (fun _ => 0))), (q4, .inl (G.2.1, 24008, .inl (fun _ => 0))), (q5, .inl (G.2.1, 3000, .inl (upd (fun _ => 0) 0 (-1)))), (q6, .inl (G.2.1, 3000, .inl (upd (fun _ => 0) 0 (-1)))), (q7, .inl (G.2.1, 3000, .inl (upd (fun _ => 0) 0 (-1)))), (q8, .inl (G.2.1, 242, .inl (fun _ => 0))), (q9, .inl (G.2.2.1, 3000, .inr (.inl (vp_updL (vp_updL (vp_updL (vp_updL (vp_updL (vp_updL (vp_updL (vp_updL (vp_updL (fun _ => 0) 0 1) 0 0) 0 0) 0 0) 0 0) 0 0) 0 0) 0 0) 0 0)))), (q10, .inl (G.2.2.1, 3000, .inr (.inl (fun _ => 0))))]) := by
  refine Kl.of b0 (own := RX12) (nm := "rows") [(0, .ref q0), (1, .int x0), (2, .int x1)] rfl rfl (by decide +kernel) (Nat.le_of_ble_eq_true rfl) rfl ?_
  intro p e s m below meth c A C hr H locs w ls hl
  have hx := C.hx
  have hb := C.hb
  refine lv_aload_n hx hb dX12_rows_0 rfl (lv_at hl 0 rfl) ?_
  refine lv_iconst (v := 0) hx hb dX12_rows_1 (by decide) ?_
  refine r_put C w 0 rfl fl_X12_1 (Nat.le_of_ble_eq_true rfl) rfl rfl dX12_rows_2 (ws2 := [(q0, .inr (12, [.int 0, .int 0, .int 0, .int 0, .int 0, .int 0, .int 0, .int (-1), .ref q11, .ref q8, .ref q12, .int 0, .ref q13, .ref q14, .ref q15, .ref q16, .ref q17, .ref q2, .ref q18, .int 0, .ref q3, .ref q4, .ref q19, .ref q6, .ref q7, .ref q1, .ref q5, .int 0, .int (-1), .int 0, .ref q20, .ref q21, .ref q22, .ref q23, .ref q24, .ref q25, .ref q26, .ref q27, .int 0, .ref q28, .ref q9, .ref q10, .ref q29, .ref q30, .int 0, .ref q31, .ref q32, .ref q33, .ref q34, .int 0, .ref q35, .ref q36, .ref q37, .ref q38, .int 0, .int 0, .ref q39, .ref q40, .ref q41, .ref q42])), (q1, .inl (G.2.1, 4096, .inl (fun _ => 0))), (q2, .inl (G.2.1, 57, .inl (fun _ => 0))), (q3, .inl (G.2.1, 8, .inl (fun _ => 0))), (q4, .inl (G.2.1, 24008, .inl (fun _ => 0))), (q5, .inl (G.2.1, 3000, .inl (fun _ => 0))), (q6, .inl (G.2.1, 3000, .inl (fun _ => 0))), (q7, .inl (G.2.1, 3000, .inl (fun _ => 0))), (q8, .inl (G.2.1, 242, .inl (fun _ => 0))), (q9, .inl (G.2.2.1, 3000, .inr (.inl (fun _ => 0)))), (q10, .inl (G.2.2.1, 3000, .inr (.inl (fun _ => 0))))]) rfl (fun H locs w => ?_)
  refine lv_aload_n hx hb dX12_rows_5 rfl (lv_at hl 0 rfl) ?_
  refine lv_iload_n hx hb dX12_rows_6 rfl (lv_at hl 1 rfl) ?_
  refine lv_iconst (v := 1) hx hb dX12_rows_7 (by decide) ?_
  refine fin_i C w (run_V C w mv_X12_336 (k120_isMost C.b0 q0 q11 q8 q12 q13 q14 q15 q16 q17 q2 q18 q3 q4 q19 q6 q7 q1 q5 q20 q21 q22 q23 q24 q25 q26 q27 q28 q9 q10 q29 q30 q31 q32 q33 q34 q35 q36 q37 q38 q39 q40 q41 q42 x0 h5 h11 H.size) [0] rfl rfl 0 rfl rfl (by decide) rfl hl.1 rfl (Nat.le_of_ble_eq_true rfl) dX12_rows_8 (cells2 := 0) (slots2 := 0) (by decide)) [0] [1, 2, 3, 4, 5, 6, 7, 8, 9, 10] rfl rfl (by decide) (cells2 := 0) (slots2 := 0) (by decide) (fun u1 H locs w => ?_)
  have w : Wd s G A [(q1, .inl (G.2.1, 4096, .inl (fun _ => 0))), (q2, .inl (G.2.1, 57, .inl (fun _ => 0))), (q3, .inl (G.2.1, 8, .inl (fun _ => 0))), (q4, .inl (G.2.1, 24008, .inl (fun _ => 0))), (q5, .inl (G.2.1, 3000, .inl (fun _ => 0))), (q6, .inl (G.2.1, 3000, .inl (fun _ => 0))), (q7, .inl (G.2.1, 3000, .inl (fun _ => 0))), (q8, .inl (G.2.1, 242, .inl (fun _ => 0))), (q9, .inl (G.2.2.1, 3000, .inr (.inl (fun _ => 0)))), (q10, .inl (G.2.2.1, 3000, .inr (.inl (fun _ => 0)))), (q0, .inr (12, [.int 0, .int 0, .int 0, .int 0, .int 0, .int 0, .int 0, .int (-1), .ref q11, .ref q8, .ref q12, .int 0, .ref q13, .ref q14, .ref q15, .ref q16, .ref q17, .ref q2, .ref q18, .int 0, .ref q3, .ref q4, .ref q19, .ref q6, .ref q7, .ref q1, .ref q5, .int 0, .int (-1), .int 0, .ref q20, .ref q21, .ref q22, .ref q23, .ref q24, .ref q25, .ref q26, .ref q27, .int 0, .ref q28, .ref q9, .ref q10, .ref q29, .ref q30, .int 0, .ref q31, .ref q32, .ref q33, .ref q34, .int 0, .ref q35, .ref q36, .ref q37, .ref q38, .int 0, .int 0, .ref q39, .ref q40, .ref q41, .ref q42]))] H locs := w
  refine lv_if_eq (tgt := 29) hx hb dX12_rows_11 (by decide) (fun h => absurd h (by decide)) (fun _ => ?_)
  refine lv_aload_n hx hb dX12_rows_14 rfl (lv_at hl 0 rfl) ?_
  refine lv_iload_n hx hb dX12_rows_15 rfl (lv_at hl 2 rfl) ?_
  refine lv_iconst (v := 0) hx hb dX12_rows_16 (by decide) ?_
  refine lv_bipush (v := 20) hx hb dX12_rows_17 (by decide) ?_
  refine fin_i C w (run_S C w ms_X12_289 (k299_within C.b0 x1 h3 h12 H.size) [] rfl rfl (by decide) rfl hl.1 rfl (Nat.le_of_ble_eq_true rfl) dX12_rows_19 (cells2 := 0) (slots2 := 0) (by decide)) [] [0, 1, 2, 3, 4, 5, 6, 7, 8, 9, 10] rfl rfl (by decide) (cells2 := 0) (slots2 := 0) (by decide) (fun u2 H locs w => ?_)
  have w : Wd s G A [(q1, .inl (G.2.1, 4096, .inl (fun _ => 0))), (q2, .inl (G.2.1, 57, .inl (fun _ => 0))), (q3, .inl (G.2.1, 8, .inl (fun _ => 0))), (q4, .inl (G.2.1, 24008, .inl (fun _ => 0))), (q5, .inl (G.2.1, 3000, .inl (fun _ => 0))), (q6, .inl (G.2.1, 3000, .inl (fun _ => 0))), (q7, .inl (G.2.1, 3000, .inl (fun _ => 0))), (q8, .inl (G.2.1, 242, .inl (fun _ => 0))), (q9, .inl (G.2.2.1, 3000, .inr (.inl (fun _ => 0)))), (q10, .inl (G.2.2.1, 3000, .inr (.inl (fun _ => 0)))), (q0, .inr (12, [.int 0, .int 0, .int 0, .int 0, .int 0, .int 0, .int 0, .int (-1), .ref q11, .ref q8, .ref q12, .int 0, .ref q13, .ref q14, .ref q15, .ref q16, .ref q17, .ref q2, .ref q18, .int 0, .ref q3, .ref q4, .ref q19, .ref q6, .ref q7, .ref q1, .ref q5, .int 0, .int (-1), .int 0, .ref q20, .ref q21, .ref q22, .ref q23, .ref q24, .ref q25, .ref q26, .ref q27, .int 0, .ref q28, .ref q9, .ref q10, .ref q29, .ref q30, .int 0, .ref q31, .ref q32, .ref q33, .ref q34, .int 0, .ref q35, .ref q36, .ref q37, .ref q38, .int 0, .int 0, .ref q39, .ref q40, .ref q41, .ref q42]))] H locs := w
  refine lv_iconst (v := 1) hx hb dX12_rows_22 (by decide) ?_
  refine fin_i C w (run_V C w mv_X12_267 (k32_may C.b0 q0 q11 q8 q12 q13 q14 q15 q16 q17 q2 q18 q3 q4 q19 q6 q7 q1 q5 q20 q21 q22 q23 q24 q25 q26 q27 q28 q9 q10 q29 q30 q31 q32 q33 q34 q35 q36 q37 q38 q39 q40 q41 q42 H.size) [10] rfl rfl 10 rfl rfl (by decide) rfl hl.1 rfl (Nat.le_of_ble_eq_true rfl) dX12_rows_23 (cells2 := 0) (slots2 := 0) (by decide)) [10] [0, 1, 2, 3, 4, 5, 6, 7, 8, 9] rfl rfl (by decide) (cells2 := 0) (slots2 := 0) (by decide) (fun u3 H locs w => ?_)
  have w : Wd s G A [(q1, .inl (G.2.1, 4096, .inl (fun _ => 0))), (q2, .inl (G.2.1, 57, .inl (fun _ => 0))), (q3, .inl (G.2.1, 8, .inl (fun _ => 0))), (q4, .inl (G.2.1, 24008, .inl (fun _ => 0))), (q5, .inl (G.2.1, 3000, .inl (fun _ => 0))), (q6, .inl (G.2.1, 3000, .inl (fun _ => 0))), (q7, .inl (G.2.1, 3000, .inl (fun _ => 0))), (q8, .inl (G.2.1, 242, .inl (fun _ => 0))), (q9, .inl (G.2.2.1, 3000, .inr (.inl (fun _ => 0)))), (q10, .inl (G.2.2.1, 3000, .inr (.inl (fun _ => 0)))), (q0, .inr (12, [.int 0, .int 0, .int 0, .int 0, .int 0, .int 0, .int 0, .int (-1), .ref q11, .ref q8, .ref q12, .int 0, .ref q13, .ref q14, .ref q15, .ref q16, .ref q17, .ref q2, .ref q18, .int 0, .ref q3, .ref q4, .ref q19, .ref q6, .ref q7, .ref q1, .ref q5, .int 0, .int (-1), .int 0, .ref q20, .ref q21, .ref q22, .ref q23, .ref q24, .ref q25, .ref q26, .ref q27, .int 0, .ref q28, .ref q9, .ref q10, .ref q29, .ref q30, .int 0, .ref q31, .ref q32, .ref q33, .ref q34, .int 0, .ref q35, .ref q36, .ref q37, .ref q38, .int 0, .int 0, .ref q39, .ref q40, .ref q41, .ref q42]))] H locs := w
  refine lv_if_ne (tgt := 31) hx hb dX12_rows_26 (by decide) (fun _ => ?_) (fun h => h.elim (by decide))
  refine lv_aload_n hx hb dX12_rows_31 rfl (lv_at hl 0 rfl) ?_
  refine lv_iload_n hx hb dX12_rows_32 rfl (lv_at hl 1 rfl) ?_
  refine fin_v C w (run_V C w mv_X12_339 (k124_explores C.b0 q0 q1 q2 q3 q4 q5 q6 q7 q8 q11 q12 q13 q14 q15 q16 q17 q18 q19 q20 q21 q22 q23 q24 q25 q26 q27 q28 q9 q10 q29 q30 q31 q32 q33 q34 q35 q36 q37 q38 q39 q40 q41 q42 x0 H.size) [10, 0, 1, 2, 3, 4, 5, 6, 7] rfl rfl 10 rfl rfl (by decide) rfl hl.1 rfl (Nat.le_of_ble_eq_true rfl) dX12_rows_33 (cells2 := 0) (slots2 := 0) (by decide)) [10, 0, 1, 2, 3, 4, 5, 6, 7] [8, 9] rfl rfl (by decide) (cells2 := 0) (slots2 := 0) (by decide) (fun u4 H locs w => ?_)
  have w : Wd s G A [(q9, .inl (G.2.2.1, 3000, .inr (.inl (fun _ => 0)))), (q10, .inl (G.2.2.1, 3000, .inr (.inl (fun _ => 0)))), (q0, .inr (12, [.int 0, .int 0, .int 0, .int 0, .int 0, .int 0, .int 0, .int (-1), .ref q11, .ref q8, .ref q12, .int 0, .ref q13, .ref q14, .ref q15, .ref q16, .ref q17, .ref q2, .ref q18, .int 0, .ref q3, .ref q4, .ref q19, .ref q6, .ref q7, .ref q1, .ref q5, .int 1, .int (-1), .int 0, .ref q20, .ref q21, .ref q22, .ref q23, .ref q24, .ref q25, .ref q26, .ref q27, .int 0, .ref q28, .ref q9, .ref q10, .ref q29, .ref q30, .int 0, .ref q31, .ref q32, .ref q33, .ref q34, .int 0, .ref q35, .ref q36, .ref q37, .ref q38, .int 0, .int 0, .ref q39, .ref q40, .ref q41, .ref q42])), (q1, .inl (G.2.1, 4096, .inl (upd (fun _ => (-1)) 0 0))), (q2, .inl (G.2.1, 57, .inl (fun _ => 0))), (q3, .inl (G.2.1, 8, .inl (fun _ => 0))), (q4, .inl (G.2.1, 24008, .inl (fun _ => 0))), (q5, .inl (G.2.1, 3000, .inl (upd (fun _ => 0) 0 (-1)))), (q6, .inl (G.2.1, 3000, .inl (upd (fun _ => 0) 0 (-1)))), (q7, .inl (G.2.1, 3000, .inl (upd (fun _ => 0) 0 (-1)))), (q8, .inl (G.2.1, 242, .inl (fun _ => 0)))] H locs := w
  refine lv_aload_n hx hb dX12_rows_36 rfl (lv_at hl 0 rfl) ?_
  refine r_get C w 2 rfl fr_X12_325 rfl dX12_rows_37 ?_
  refine lv_if_eq (tgt := 47) hx hb dX12_rows_40 (by decide) (fun _ => ?_) (fun h => absurd (by decide) h)
  refine lv_iconst (v := 0) hx hb dX12_rows_47 (by decide) ?_
  refine lv_istore_n (lv' := [(3, .int 0), (0, .ref q0), (1, .int x0), (2, .int x1)]) hx hb dX12_rows_48 rfl hl (by decide) rfl (fun ls hl => ?_)
  refine lv_iload_n hx hb dX12_rows_49 rfl (lv_at hl 0 rfl) ?_
  refine lv_aload_n hx hb dX12_rows_50 rfl (lv_at hl 1 rfl) ?_
  refine r_get C w 2 rfl fr_X12_322 rfl dX12_rows_51 ?_
  refine lv_icmp_ge (tgt := 78) hx hb dX12_rows_54 (by decide) (fun h => absurd h (by decide)) (fun _ => ?_)
  refine lv_aload_n hx hb dX12_rows_57 rfl (lv_at hl 1 rfl) ?_
  refine r_get C w 2 rfl fr_X12_99 rfl dX12_rows_58 ?_
  refine lv_iload_n hx hb dX12_rows_61 rfl (lv_at hl 0 rfl) ?_
  refine lv_iload_n hx hb dX12_rows_62 rfl (lv_at hl 0 rfl) ?_
  refine lv_if_ne (tgt := 70) hx hb dX12_rows_63 (by decide) (fun h => absurd (by decide) h) (fun _ => ?_)
  refine lv_lconst (v := 1) hx hb dX12_rows_66 (by decide) ?_
  refine lv_goto (tgt := 71) hx hb dX12_rows_67 (by decide) ?_
  refine r_last C w 0 rfl (IX.of (k := 0) (by decide +kernel)) (g := (vp_updL (fun _ => 0) 0 1)) rfl dX12_rows_71 (ws2 := [(q9, .inl (G.2.2.1, 3000, .inr (.inl (vp_updL (fun _ => 0) 0 1)))), (q10, .inl (G.2.2.1, 3000, .inr (.inl (fun _ => 0)))), (q0, .inr (12, [.int 0, .int 0, .int 0, .int 0, .int 0, .int 0, .int 0, .int (-1), .ref q11, .ref q8, .ref q12, .int 0, .ref q13, .ref q14, .ref q15, .ref q16, .ref q17, .ref q2, .ref q18, .int 0, .ref q3, .ref q4, .ref q19, .ref q6, .ref q7, .ref q1, .ref q5, .int 1, .int (-1), .int 0, .ref q20, .ref q21, .ref q22, .ref q23, .ref q24, .ref q25, .ref q26, .ref q27, .int 0, .ref q28, .ref q9, .ref q10, .ref q29, .ref q30, .int 0, .ref q31, .ref q32, .ref q33, .ref q34, .int 0, .ref q35, .ref q36, .ref q37, .ref q38, .int 0, .int 0, .ref q39, .ref q40, .ref q41, .ref q42])), (q1, .inl (G.2.1, 4096, .inl (upd (fun _ => (-1)) 0 0))), (q2, .inl (G.2.1, 57, .inl (fun _ => 0))), (q3, .inl (G.2.1, 8, .inl (fun _ => 0))), (q4, .inl (G.2.1, 24008, .inl (fun _ => 0))), (q5, .inl (G.2.1, 3000, .inl (upd (fun _ => 0) 0 (-1)))), (q6, .inl (G.2.1, 3000, .inl (upd (fun _ => 0) 0 (-1)))), (q7, .inl (G.2.1, 3000, .inl (upd (fun _ => 0) 0 (-1)))), (q8, .inl (G.2.1, 242, .inl (fun _ => 0)))]) rfl (fun H locs w => ?_)
  refine lv_iinc (v := 1) (lv' := [(3, .int 1), (0, .ref q0), (1, .int x0), (2, .int x1)]) hx hb dX12_rows_72 hl (k := 0) rfl (by decide +kernel) (by decide) rfl (fun ls hl => ?_)
  refine lv_goto (tgt := 49) hx hb dX12_rows_75 (by decide) ?_
  refine lv_iload_n hx hb dX12_rows_49 rfl (lv_at hl 0 rfl) ?_
  refine lv_aload_n hx hb dX12_rows_50 rfl (lv_at hl 1 rfl) ?_
  refine r_get C w 2 rfl fr_X12_322 rfl dX12_rows_51 ?_
  refine lv_icmp_ge (tgt := 78) hx hb dX12_rows_54 (by decide) (fun _ => ?_) (fun h => absurd (by decide) h)
  refine lv_iconst (v := 0) hx hb dX12_rows_78 (by decide) ?_
  refine lv_istore_n (lv' := [(3, .int 0), (0, .ref q0), (1, .int x0), (2, .int x1)]) hx hb dX12_rows_79 rfl hl (by decide) rfl (fun ls hl => ?_)
  refine lv_iload_n hx hb dX12_rows_80 rfl (lv_at hl 0 rfl) ?_
  refine lv_iload_n hx hb dX12_rows_81 rfl (lv_at hl 3 rfl) ?_
  refine lv_icmp_ge (tgt := 230) hx hb dX12_rows_82 (by decide) (fun h => absurd h (Int32.not_le.mpr h0)) (fun _ => ?_)
  refine lv_iconst (v := 0) hx hb dX12_rows_85 (by decide) ?_
  refine lv_istore (lv' := [(4, .int 0), (3, .int 0), (0, .ref q0), (1, .int x0), (2, .int x1)]) hx hb dX12_rows_86 hl (by decide) rfl (fun ls hl => ?_)
  refine lv_iload hx hb dX12_rows_88 (lv_at hl 0 rfl) ?_
  refine lv_aload_n hx hb dX12_rows_90 rfl (lv_at hl 2 rfl) ?_
  refine r_get C w 2 rfl fr_X12_322 rfl dX12_rows_91 ?_
  refine lv_icmp_ge (tgt := 111) hx hb dX12_rows_94 (by decide) (fun h => absurd h (by decide)) (fun _ => ?_)
  refine lv_aload_n hx hb dX12_rows_97 rfl (lv_at hl 2 rfl) ?_
  refine r_get C w 2 rfl fr_X12_103 rfl dX12_rows_98 ?_
  refine lv_iload hx hb dX12_rows_101 (lv_at hl 0 rfl) ?_
  refine lv_lconst (v := 0) hx hb dX12_rows_103 (by decide) ?_
  refine r_last C w 1 rfl (IX.of (k := 0) (by decide +kernel)) (g := (fun _ => 0)) (updL_c _ _) dX12_rows_104 (ws2 := [(q9, .inl (G.2.2.1, 3000, .inr (.inl (vp_updL (fun _ => 0) 0 1)))), (q10, .inl (G.2.2.1, 3000, .inr (.inl (fun _ => 0)))), (q0, .inr (12, [.int 0, .int 0, .int 0, .int 0, .int 0, .int 0, .int 0, .int (-1), .ref q11, .ref q8, .ref q12, .int 0, .ref q13, .ref q14, .ref q15, .ref q16, .ref q17, .ref q2, .ref q18, .int 0, .ref q3, .ref q4, .ref q19, .ref q6, .ref q7, .ref q1, .ref q5, .int 1, .int (-1), .int 0, .ref q20, .ref q21, .ref q22, .ref q23, .ref q24, .ref q25, .ref q26, .ref q27, .int 0, .ref q28, .ref q9, .ref q10, .ref q29, .ref q30, .int 0, .ref q31, .ref q32, .ref q33, .ref q34, .int 0, .ref q35, .ref q36, .ref q37, .ref q38, .int 0, .int 0, .ref q39, .ref q40, .ref q41, .ref q42])), (q1, .inl (G.2.1, 4096, .inl (upd (fun _ => (-1)) 0 0))), (q2, .inl (G.2.1, 57, .inl (fun _ => 0))), (q3, .inl (G.2.1, 8, .inl (fun _ => 0))), (q4, .inl (G.2.1, 24008, .inl (fun _ => 0))), (q5, .inl (G.2.1, 3000, .inl (upd (fun _ => 0) 0 (-1)))), (q6, .inl (G.2.1, 3000, .inl (upd (fun _ => 0) 0 (-1)))), (q7, .inl (G.2.1, 3000, .inl (upd (fun _ => 0) 0 (-1)))), (q8, .inl (G.2.1, 242, .inl (fun _ => 0)))]) rfl (fun H locs w => ?_)
  refine lv_iinc (v := 1) (lv' := [(4, .int 1), (3, .int 0), (0, .ref q0), (1, .int x0), (2, .int x1)]) hx hb dX12_rows_105 hl (k := 0) rfl (by decide +kernel) (by decide) rfl (fun ls hl => ?_)
  refine lv_goto (tgt := 88) hx hb dX12_rows_108 (by decide) ?_
  refine lv_iload hx hb dX12_rows_88 (lv_at hl 0 rfl) ?_
  refine lv_aload_n hx hb dX12_rows_90 rfl (lv_at hl 2 rfl) ?_
  refine r_get C w 2 rfl fr_X12_322 rfl dX12_rows_91 ?_
  refine lv_icmp_ge (tgt := 111) hx hb dX12_rows_94 (by decide) (fun _ => ?_) (fun h => absurd (by decide) h)
  refine lv_iconst (v := 0) hx hb dX12_rows_111 (by decide) ?_
  refine lv_istore (lv' := [(4, .int 0), (3, .int 0), (0, .ref q0), (1, .int x0), (2, .int x1)]) hx hb dX12_rows_112 hl (by decide) rfl (fun ls hl => ?_)
  refine lv_iload hx hb dX12_rows_114 (lv_at hl 0 rfl) ?_
  refine lv_aload_n hx hb dX12_rows_116 rfl (lv_at hl 2 rfl) ?_
  refine r_get C w 2 rfl fr_X12_322 rfl dX12_rows_117 ?_
  refine lv_icmp_ge (tgt := 192) hx hb dX12_rows_120 (by decide) (fun h => absurd h (by decide)) (fun _ => ?_)
  refine lv_iconst (v := 0) hx hb dX12_rows_123 (by decide) ?_
  refine lv_istore (lv' := [(5, .int 0), (4, .int 0), (3, .int 0), (0, .ref q0), (1, .int x0), (2, .int x1)]) hx hb dX12_rows_124 hl (by decide) rfl (fun ls hl => ?_)
  refine lv_iload hx hb dX12_rows_126 (lv_at hl 0 rfl) ?_
  refine lv_aload_n hx hb dX12_rows_128 rfl (lv_at hl 3 rfl) ?_
  refine fin_i C w (run_V C w mv_X12_286 (k123_acts C.b0 q0 q8 q11 q12 q13 q14 q15 q16 q17 q2 q18 q3 q4 q19 q6 q7 q1 q5 q20 q21 q22 q23 q24 q25 q26 q27 q28 q9 q10 q29 q30 q31 q32 q33 q34 q35 q36 q37 q38 q39 q40 q41 q42 H.size) [2, 10] rfl rfl 2 rfl rfl (by decide) rfl hl.1 rfl (Nat.le_of_ble_eq_true rfl) dX12_rows_129 (cells2 := 0) (slots2 := 0) (by decide)) [2, 10] [0, 1, 3, 4, 5, 6, 7, 8, 9] rfl rfl (by decide) (cells2 := 0) (slots2 := 0) (by decide) (fun u5 H locs w => ?_)
  have w : Wd s G A [(q9, .inl (G.2.2.1, 3000, .inr (.inl (vp_updL (fun _ => 0) 0 1)))), (q10, .inl (G.2.2.1, 3000, .inr (.inl (fun _ => 0)))), (q1, .inl (G.2.1, 4096, .inl (upd (fun _ => (-1)) 0 0))), (q2, .inl (G.2.1, 57, .inl (fun _ => 0))), (q3, .inl (G.2.1, 8, .inl (fun _ => 0))), (q4, .inl (G.2.1, 24008, .inl (fun _ => 0))), (q5, .inl (G.2.1, 3000, .inl (upd (fun _ => 0) 0 (-1)))), (q6, .inl (G.2.1, 3000, .inl (upd (fun _ => 0) 0 (-1)))), (q7, .inl (G.2.1, 3000, .inl (upd (fun _ => 0) 0 (-1)))), (q0, .inr (12, [.int 0, .int 0, .int 0, .int 0, .int 0, .int 0, .int 0, .int (-1), .ref q11, .ref q8, .ref q12, .int 0, .ref q13, .ref q14, .ref q15, .ref q16, .ref q17, .ref q2, .ref q18, .int 0, .ref q3, .ref q4, .ref q19, .ref q6, .ref q7, .ref q1, .ref q5, .int 1, .int (-1), .int 0, .ref q20, .ref q21, .ref q22, .ref q23, .ref q24, .ref q25, .ref q26, .ref q27, .int 0, .ref q28, .ref q9, .ref q10, .ref q29, .ref q30, .int 0, .ref q31, .ref q32, .ref q33, .ref q34, .int 0, .ref q35, .ref q36, .ref q37, .ref q38, .int 0, .int 0, .ref q39, .ref q40, .ref q41, .ref q42])), (q8, .inl (G.2.1, 242, .inl (fun _ => 0)))] H locs := w
  refine lv_icmp_ge (tgt := 186) hx hb dX12_rows_132 (by decide) (fun _ => ?_) (fun h => absurd (by decide) h)
  refine lv_iinc (v := 1) (lv' := [(4, .int 1), (5, .int 0), (3, .int 0), (0, .ref q0), (1, .int x0), (2, .int x1)]) hx hb dX12_rows_186 hl (k := 1) rfl (by decide +kernel) (by decide) rfl (fun ls hl => ?_)
  refine lv_goto (tgt := 114) hx hb dX12_rows_189 (by decide) ?_
  refine lv_iload hx hb dX12_rows_114 (lv_at hl 0 rfl) ?_
  refine lv_aload_n hx hb dX12_rows_116 rfl (lv_at hl 3 rfl) ?_
  refine r_get C w 9 rfl fr_X12_322 rfl dX12_rows_117 ?_
  refine lv_icmp_ge (tgt := 192) hx hb dX12_rows_120 (by decide) (fun _ => ?_) (fun h => absurd (by decide) h)
  refine lv_iconst (v := 0) hx hb dX12_rows_192 (by decide) ?_
  refine lv_istore (lv' := [(4, .int 0), (5, .int 0), (3, .int 0), (0, .ref q0), (1, .int x0), (2, .int x1)]) hx hb dX12_rows_193 hl (by decide) rfl (fun ls hl => ?_)
  refine lv_iload hx hb dX12_rows_195 (lv_at hl 0 rfl) ?_
  refine lv_aload_n hx hb dX12_rows_197 rfl (lv_at hl 3 rfl) ?_
  refine r_get C w 9 rfl fr_X12_322 rfl dX12_rows_198 ?_
  refine lv_icmp_ge (tgt := 224) hx hb dX12_rows_201 (by decide) (fun h => absurd h (by decide)) (fun _ => ?_)
  refine lv_aload_n hx hb dX12_rows_204 rfl (lv_at hl 3 rfl) ?_
  refine r_get C w 9 rfl fr_X12_99 rfl dX12_rows_205 ?_
  refine lv_iload hx hb dX12_rows_208 (lv_at hl 0 rfl) ?_
  refine lv_aload_n hx hb dX12_rows_210 rfl (lv_at hl 3 rfl) ?_
  refine r_get C w 9 rfl fr_X12_103 rfl dX12_rows_211 ?_
  refine lv_iload hx hb dX12_rows_214 (lv_at hl 0 rfl) ?_
  refine r_lald C w 1 rfl (IX.of (k := 0) (by decide +kernel)) (v := 0) rfl dX12_rows_216 ?_
  refine r_last C w 0 rfl (IX.of (k := 0) (by decide +kernel)) (g := (vp_updL (vp_updL (fun _ => 0) 0 1) 0 0)) rfl dX12_rows_217 (ws2 := [(q9, .inl (G.2.2.1, 3000, .inr (.inl (vp_updL (vp_updL (fun _ => 0) 0 1) 0 0)))), (q10, .inl (G.2.2.1, 3000, .inr (.inl (fun _ => 0)))), (q1, .inl (G.2.1, 4096, .inl (upd (fun _ => (-1)) 0 0))), (q2, .inl (G.2.1, 57, .inl (fun _ => 0))), (q3, .inl (G.2.1, 8, .inl (fun _ => 0))), (q4, .inl (G.2.1, 24008, .inl (fun _ => 0))), (q5, .inl (G.2.1, 3000, .inl (upd (fun _ => 0) 0 (-1)))), (q6, .inl (G.2.1, 3000, .inl (upd (fun _ => 0) 0 (-1)))), (q7, .inl (G.2.1, 3000, .inl (upd (fun _ => 0) 0 (-1)))), (q0, .inr (12, [.int 0, .int 0, .int 0, .int 0, .int 0, .int 0, .int 0, .int (-1), .ref q11, .ref q8, .ref q12, .int 0, .ref q13, .ref q14, .ref q15, .ref q16, .ref q17, .ref q2, .ref q18, .int 0, .ref q3, .ref q4, .ref q19, .ref q6, .ref q7, .ref q1, .ref q5, .int 1, .int (-1), .int 0, .ref q20, .ref q21, .ref q22, .ref q23, .ref q24, .ref q25, .ref q26, .ref q27, .int 0, .ref q28, .ref q9, .ref q10, .ref q29, .ref q30, .int 0, .ref q31, .ref q32, .ref q33, .ref q34, .int 0, .ref q35, .ref q36, .ref q37, .ref q38, .int 0, .int 0, .ref q39, .ref q40, .ref q41, .ref q42])), (q8, .inl (G.2.1, 242, .inl (fun _ => 0)))]) rfl (fun H locs w => ?_)
  refine lv_iinc (v := 1) (lv' := [(4, .int 1), (5, .int 0), (3, .int 0), (0, .ref q0), (1, .int x0), (2, .int x1)]) hx hb dX12_rows_218 hl (k := 0) rfl (by decide +kernel) (by decide) rfl (fun ls hl => ?_)
  refine lv_goto (tgt := 195) hx hb dX12_rows_221 (by decide) ?_
  refine lv_iload hx hb dX12_rows_195 (lv_at hl 0 rfl) ?_
  refine lv_aload_n hx hb dX12_rows_197 rfl (lv_at hl 3 rfl) ?_
  refine r_get C w 9 rfl fr_X12_322 rfl dX12_rows_198 ?_
  refine lv_icmp_ge (tgt := 224) hx hb dX12_rows_201 (by decide) (fun _ => ?_) (fun h => absurd (by decide) h)
  refine lv_iinc (v := 1) (lv' := [(3, .int 1), (4, .int 1), (5, .int 0), (0, .ref q0), (1, .int x0), (2, .int x1)]) hx hb dX12_rows_224 hl (k := 2) rfl (by decide +kernel) (by decide) rfl (fun ls hl => ?_)
  refine lv_goto (tgt := 80) hx hb dX12_rows_227 (by decide) ?_
  refine lv_iload_n hx hb dX12_rows_80 rfl (lv_at hl 0 rfl) ?_
  refine lv_iload_n hx hb dX12_rows_81 rfl (lv_at hl 5 rfl) ?_
  refine lv_icmp_ge (tgt := 230) hx hb dX12_rows_82 (by decide) (fun h => absurd h (Int32.not_le.mpr h1)) (fun _ => ?_)
  refine lv_iconst (v := 0) hx hb dX12_rows_85 (by decide) ?_
  refine lv_istore (lv' := [(4, .int 0), (3, .int 1), (5, .int 0), (0, .ref q0), (1, .int x0), (2, .int x1)]) hx hb dX12_rows_86 hl (by decide) rfl (fun ls hl => ?_)
  refine lv_iload hx hb dX12_rows_88 (lv_at hl 0 rfl) ?_
  refine lv_aload_n hx hb dX12_rows_90 rfl (lv_at hl 3 rfl) ?_
  refine r_get C w 9 rfl fr_X12_322 rfl dX12_rows_91 ?_
  refine lv_icmp_ge (tgt := 111) hx hb dX12_rows_94 (by decide) (fun h => absurd h (by decide)) (fun _ => ?_)
  refine lv_aload_n hx hb dX12_rows_97 rfl (lv_at hl 3 rfl) ?_
  refine r_get C w 9 rfl fr_X12_103 rfl dX12_rows_98 ?_
  refine lv_iload hx hb dX12_rows_101 (lv_at hl 0 rfl) ?_
  refine lv_lconst (v := 0) hx hb dX12_rows_103 (by decide) ?_
  refine r_last C w 1 rfl (IX.of (k := 0) (by decide +kernel)) (g := (fun _ => 0)) (updL_c _ _) dX12_rows_104 (ws2 := [(q9, .inl (G.2.2.1, 3000, .inr (.inl (vp_updL (vp_updL (fun _ => 0) 0 1) 0 0)))), (q10, .inl (G.2.2.1, 3000, .inr (.inl (fun _ => 0)))), (q1, .inl (G.2.1, 4096, .inl (upd (fun _ => (-1)) 0 0))), (q2, .inl (G.2.1, 57, .inl (fun _ => 0))), (q3, .inl (G.2.1, 8, .inl (fun _ => 0))), (q4, .inl (G.2.1, 24008, .inl (fun _ => 0))), (q5, .inl (G.2.1, 3000, .inl (upd (fun _ => 0) 0 (-1)))), (q6, .inl (G.2.1, 3000, .inl (upd (fun _ => 0) 0 (-1)))), (q7, .inl (G.2.1, 3000, .inl (upd (fun _ => 0) 0 (-1)))), (q0, .inr (12, [.int 0, .int 0, .int 0, .int 0, .int 0, .int 0, .int 0, .int (-1), .ref q11, .ref q8, .ref q12, .int 0, .ref q13, .ref q14, .ref q15, .ref q16, .ref q17, .ref q2, .ref q18, .int 0, .ref q3, .ref q4, .ref q19, .ref q6, .ref q7, .ref q1, .ref q5, .int 1, .int (-1), .int 0, .ref q20, .ref q21, .ref q22, .ref q23, .ref q24, .ref q25, .ref q26, .ref q27, .int 0, .ref q28, .ref q9, .ref q10, .ref q29, .ref q30, .int 0, .ref q31, .ref q32, .ref q33, .ref q34, .int 0, .ref q35, .ref q36, .ref q37, .ref q38, .int 0, .int 0, .ref q39, .ref q40, .ref q41, .ref q42])), (q8, .inl (G.2.1, 242, .inl (fun _ => 0)))]) rfl (fun H locs w => ?_)
  refine lv_iinc (v := 1) (lv' := [(4, .int 1), (3, .int 1), (5, .int 0), (0, .ref q0), (1, .int x0), (2, .int x1)]) hx hb dX12_rows_105 hl (k := 0) rfl (by decide +kernel) (by decide) rfl (fun ls hl => ?_)
  refine lv_goto (tgt := 88) hx hb dX12_rows_108 (by decide) ?_
  refine lv_iload hx hb dX12_rows_88 (lv_at hl 0 rfl) ?_
  refine lv_aload_n hx hb dX12_rows_90 rfl (lv_at hl 3 rfl) ?_
  refine r_get C w 9 rfl fr_X12_322 rfl dX12_rows_91 ?_
  refine lv_icmp_ge (tgt := 111) hx hb dX12_rows_94 (by decide) (fun _ => ?_) (fun h => absurd (by decide) h)
  refine lv_iconst (v := 0) hx hb dX12_rows_111 (by decide) ?_
  refine lv_istore (lv' := [(4, .int 0), (3, .int 1), (5, .int 0), (0, .ref q0), (1, .int x0), (2, .int x1)]) hx hb dX12_rows_112 hl (by decide) rfl (fun ls hl => ?_)
  refine lv_iload hx hb dX12_rows_114 (lv_at hl 0 rfl) ?_
  refine lv_aload_n hx hb dX12_rows_116 rfl (lv_at hl 3 rfl) ?_
  refine r_get C w 9 rfl fr_X12_322 rfl dX12_rows_117 ?_
  refine lv_icmp_ge (tgt := 192) hx hb dX12_rows_120 (by decide) (fun h => absurd h (by decide)) (fun _ => ?_)
  refine lv_iconst (v := 0) hx hb dX12_rows_123 (by decide) ?_
  refine lv_istore (lv' := [(5, .int 0), (4, .int 0), (3, .int 1), (0, .ref q0), (1, .int x0), (2, .int x1)]) hx hb dX12_rows_124 hl (by decide) rfl (fun ls hl => ?_)
  refine lv_iload hx hb dX12_rows_126 (lv_at hl 0 rfl) ?_
  refine lv_aload_n hx hb dX12_rows_128 rfl (lv_at hl 3 rfl) ?_
  refine fin_i C w (run_V C w mv_X12_286 (k123_acts C.b0 q0 q8 q11 q12 q13 q14 q15 q16 q17 q2 q18 q3 q4 q19 q6 q7 q1 q5 q20 q21 q22 q23 q24 q25 q26 q27 q28 q9 q10 q29 q30 q31 q32 q33 q34 q35 q36 q37 q38 q39 q40 q41 q42 H.size) [9, 10] rfl rfl 9 rfl rfl (by decide) rfl hl.1 rfl (Nat.le_of_ble_eq_true rfl) dX12_rows_129 (cells2 := 0) (slots2 := 0) (by decide)) [9, 10] [0, 1, 2, 3, 4, 5, 6, 7, 8] rfl rfl (by decide) (cells2 := 0) (slots2 := 0) (by decide) (fun u6 H locs w => ?_)
  have w : Wd s G A [(q9, .inl (G.2.2.1, 3000, .inr (.inl (vp_updL (vp_updL (fun _ => 0) 0 1) 0 0)))), (q10, .inl (G.2.2.1, 3000, .inr (.inl (fun _ => 0)))), (q1, .inl (G.2.1, 4096, .inl (upd (fun _ => (-1)) 0 0))), (q2, .inl (G.2.1, 57, .inl (fun _ => 0))), (q3, .inl (G.2.1, 8, .inl (fun _ => 0))), (q4, .inl (G.2.1, 24008, .inl (fun _ => 0))), (q5, .inl (G.2.1, 3000, .inl (upd (fun _ => 0) 0 (-1)))), (q6, .inl (G.2.1, 3000, .inl (upd (fun _ => 0) 0 (-1)))), (q7, .inl (G.2.1, 3000, .inl (upd (fun _ => 0) 0 (-1)))), (q0, .inr (12, [.int 0, .int 0, .int 0, .int 0, .int 0, .int 0, .int 0, .int (-1), .ref q11, .ref q8, .ref q12, .int 0, .ref q13, .ref q14, .ref q15, .ref q16, .ref q17, .ref q2, .ref q18, .int 0, .ref q3, .ref q4, .ref q19, .ref q6, .ref q7, .ref q1, .ref q5, .int 1, .int (-1), .int 0, .ref q20, .ref q21, .ref q22, .ref q23, .ref q24, .ref q25, .ref q26, .ref q27, .int 0, .ref q28, .ref q9, .ref q10, .ref q29, .ref q30, .int 0, .ref q31, .ref q32, .ref q33, .ref q34, .int 0, .ref q35, .ref q36, .ref q37, .ref q38, .int 0, .int 0, .ref q39, .ref q40, .ref q41, .ref q42])), (q8, .inl (G.2.1, 242, .inl (fun _ => 0)))] H locs := w
  refine lv_icmp_ge (tgt := 186) hx hb dX12_rows_132 (by decide) (fun _ => ?_) (fun h => absurd (by decide) h)
  refine lv_iinc (v := 1) (lv' := [(4, .int 1), (5, .int 0), (3, .int 1), (0, .ref q0), (1, .int x0), (2, .int x1)]) hx hb dX12_rows_186 hl (k := 1) rfl (by decide +kernel) (by decide) rfl (fun ls hl => ?_)
  refine lv_goto (tgt := 114) hx hb dX12_rows_189 (by decide) ?_
  refine lv_iload hx hb dX12_rows_114 (lv_at hl 0 rfl) ?_
  refine lv_aload_n hx hb dX12_rows_116 rfl (lv_at hl 3 rfl) ?_
  refine r_get C w 9 rfl fr_X12_322 rfl dX12_rows_117 ?_
  refine lv_icmp_ge (tgt := 192) hx hb dX12_rows_120 (by decide) (fun _ => ?_) (fun h => absurd (by decide) h)
  refine lv_iconst (v := 0) hx hb dX12_rows_192 (by decide) ?_
  refine lv_istore (lv' := [(4, .int 0), (5, .int 0), (3, .int 1), (0, .ref q0), (1, .int x0), (2, .int x1)]) hx hb dX12_rows_193 hl (by decide) rfl (fun ls hl => ?_)
  refine lv_iload hx hb dX12_rows_195 (lv_at hl 0 rfl) ?_
  refine lv_aload_n hx hb dX12_rows_197 rfl (lv_at hl 3 rfl) ?_
  refine r_get C w 9 rfl fr_X12_322 rfl dX12_rows_198 ?_
  refine lv_icmp_ge (tgt := 224) hx hb dX12_rows_201 (by decide) (fun h => absurd h (by decide)) (fun _ => ?_)
  refine lv_aload_n hx hb dX12_rows_204 rfl (lv_at hl 3 rfl) ?_
  refine r_get C w 9 rfl fr_X12_99 rfl dX12_rows_205 ?_
  refine lv_iload hx hb dX12_rows_208 (lv_at hl 0 rfl) ?_
  refine lv_aload_n hx hb dX12_rows_210 rfl (lv_at hl 3 rfl) ?_
  refine r_get C w 9 rfl fr_X12_103 rfl dX12_rows_211 ?_
  refine lv_iload hx hb dX12_rows_214 (lv_at hl 0 rfl) ?_
  refine r_lald C w 1 rfl (IX.of (k := 0) (by decide +kernel)) (v := 0) rfl dX12_rows_216 ?_
  refine r_last C w 0 rfl (IX.of (k := 0) (by decide +kernel)) (g := (vp_updL (vp_updL (vp_updL (fun _ => 0) 0 1) 0 0) 0 0)) rfl dX12_rows_217 (ws2 := [(q9, .inl (G.2.2.1, 3000, .inr (.inl (vp_updL (vp_updL (vp_updL (fun _ => 0) 0 1) 0 0) 0 0)))), (q10, .inl (G.2.2.1, 3000, .inr (.inl (fun _ => 0)))), (q1, .inl (G.2.1, 4096, .inl (upd (fun _ => (-1)) 0 0))), (q2, .inl (G.2.1, 57, .inl (fun _ => 0))), (q3, .inl (G.2.1, 8, .inl (fun _ => 0))), (q4, .inl (G.2.1, 24008, .inl (fun _ => 0))), (q5, .inl (G.2.1, 3000, .inl (upd (fun _ => 0) 0 (-1)))), (q6, .inl (G.2.1, 3000, .inl (upd (fun _ => 0) 0 (-1)))), (q7, .inl (G.2.1, 3000, .inl (upd (fun _ => 0) 0 (-1)))), (q0, .inr (12, [.int 0, .int 0, .int 0, .int 0, .int 0, .int 0, .int 0, .int (-1), .ref q11, .ref q8, .ref q12, .int 0, .ref q13, .ref q14, .ref q15, .ref q16, .ref q17, .ref q2, .ref q18, .int 0, .ref q3, .ref q4, .ref q19, .ref q6, .ref q7, .ref q1, .ref q5, .int 1, .int (-1), .int 0, .ref q20, .ref q21, .ref q22, .ref q23, .ref q24, .ref q25, .ref q26, .ref q27, .int 0, .ref q28, .ref q9, .ref q10, .ref q29, .ref q30, .int 0, .ref q31, .ref q32, .ref q33, .ref q34, .int 0, .ref q35, .ref q36, .ref q37, .ref q38, .int 0, .int 0, .ref q39, .ref q40, .ref q41, .ref q42])), (q8, .inl (G.2.1, 242, .inl (fun _ => 0)))]) rfl (fun H locs w => ?_)
  refine lv_iinc (v := 1) (lv' := [(4, .int 1), (5, .int 0), (3, .int 1), (0, .ref q0), (1, .int x0), (2, .int x1)]) hx hb dX12_rows_218 hl (k := 0) rfl (by decide +kernel) (by decide) rfl (fun ls hl => ?_)
  refine lv_goto (tgt := 195) hx hb dX12_rows_221 (by decide) ?_
  refine lv_iload hx hb dX12_rows_195 (lv_at hl 0 rfl) ?_
  refine lv_aload_n hx hb dX12_rows_197 rfl (lv_at hl 3 rfl) ?_
  refine r_get C w 9 rfl fr_X12_322 rfl dX12_rows_198 ?_
  refine lv_icmp_ge (tgt := 224) hx hb dX12_rows_201 (by decide) (fun _ => ?_) (fun h => absurd (by decide) h)
  refine lv_iinc (v := 2) (lv' := [(3, .int 2), (4, .int 1), (5, .int 0), (0, .ref q0), (1, .int x0), (2, .int x1)]) hx hb dX12_rows_224 hl (k := 2) rfl (by decide +kernel) (by decide) rfl (fun ls hl => ?_)
  refine lv_goto (tgt := 80) hx hb dX12_rows_227 (by decide) ?_
  refine lv_iload_n hx hb dX12_rows_80 rfl (lv_at hl 0 rfl) ?_
  refine lv_iload_n hx hb dX12_rows_81 rfl (lv_at hl 5 rfl) ?_
  refine lv_icmp_ge (tgt := 230) hx hb dX12_rows_82 (by decide) (fun h => absurd h (Int32.not_le.mpr h2)) (fun _ => ?_)
  refine lv_iconst (v := 0) hx hb dX12_rows_85 (by decide) ?_
  refine lv_istore (lv' := [(4, .int 0), (3, .int 2), (5, .int 0), (0, .ref q0), (1, .int x0), (2, .int x1)]) hx hb dX12_rows_86 hl (by decide) rfl (fun ls hl => ?_)
  refine lv_iload hx hb dX12_rows_88 (lv_at hl 0 rfl) ?_
  refine lv_aload_n hx hb dX12_rows_90 rfl (lv_at hl 3 rfl) ?_
  refine r_get C w 9 rfl fr_X12_322 rfl dX12_rows_91 ?_
  refine lv_icmp_ge (tgt := 111) hx hb dX12_rows_94 (by decide) (fun h => absurd h (by decide)) (fun _ => ?_)
  refine lv_aload_n hx hb dX12_rows_97 rfl (lv_at hl 3 rfl) ?_
  refine r_get C w 9 rfl fr_X12_103 rfl dX12_rows_98 ?_
  refine lv_iload hx hb dX12_rows_101 (lv_at hl 0 rfl) ?_
  refine lv_lconst (v := 0) hx hb dX12_rows_103 (by decide) ?_
  refine r_last C w 1 rfl (IX.of (k := 0) (by decide +kernel)) (g := (fun _ => 0)) (updL_c _ _) dX12_rows_104 (ws2 := [(q9, .inl (G.2.2.1, 3000, .inr (.inl (vp_updL (vp_updL (vp_updL (fun _ => 0) 0 1) 0 0) 0 0)))), (q10, .inl (G.2.2.1, 3000, .inr (.inl (fun _ => 0)))), (q1, .inl (G.2.1, 4096, .inl (upd (fun _ => (-1)) 0 0))), (q2, .inl (G.2.1, 57, .inl (fun _ => 0))), (q3, .inl (G.2.1, 8, .inl (fun _ => 0))), (q4, .inl (G.2.1, 24008, .inl (fun _ => 0))), (q5, .inl (G.2.1, 3000, .inl (upd (fun _ => 0) 0 (-1)))), (q6, .inl (G.2.1, 3000, .inl (upd (fun _ => 0) 0 (-1)))), (q7, .inl (G.2.1, 3000, .inl (upd (fun _ => 0) 0 (-1)))), (q0, .inr (12, [.int 0, .int 0, .int 0, .int 0, .int 0, .int 0, .int 0, .int (-1), .ref q11, .ref q8, .ref q12, .int 0, .ref q13, .ref q14, .ref q15, .ref q16, .ref q17, .ref q2, .ref q18, .int 0, .ref q3, .ref q4, .ref q19, .ref q6, .ref q7, .ref q1, .ref q5, .int 1, .int (-1), .int 0, .ref q20, .ref q21, .ref q22, .ref q23, .ref q24, .ref q25, .ref q26, .ref q27, .int 0, .ref q28, .ref q9, .ref q10, .ref q29, .ref q30, .int 0, .ref q31, .ref q32, .ref q33, .ref q34, .int 0, .ref q35, .ref q36, .ref q37, .ref q38, .int 0, .int 0, .ref q39, .ref q40, .ref q41, .ref q42])), (q8, .inl (G.2.1, 242, .inl (fun _ => 0)))]) rfl (fun H locs w => ?_)
  refine lv_iinc (v := 1) (lv' := [(4, .int 1), (3, .int 2), (5, .int 0), (0, .ref q0), (1, .int x0), (2, .int x1)]) hx hb dX12_rows_105 hl (k := 0) rfl (by decide +kernel) (by decide) rfl (fun ls hl => ?_)
  refine lv_goto (tgt := 88) hx hb dX12_rows_108 (by decide) ?_
  refine lv_iload hx hb dX12_rows_88 (lv_at hl 0 rfl) ?_
  refine lv_aload_n hx hb dX12_rows_90 rfl (lv_at hl 3 rfl) ?_
  refine r_get C w 9 rfl fr_X12_322 rfl dX12_rows_91 ?_
  refine lv_icmp_ge (tgt := 111) hx hb dX12_rows_94 (by decide) (fun _ => ?_) (fun h => absurd (by decide) h)
  refine lv_iconst (v := 0) hx hb dX12_rows_111 (by decide) ?_
  refine lv_istore (lv' := [(4, .int 0), (3, .int 2), (5, .int 0), (0, .ref q0), (1, .int x0), (2, .int x1)]) hx hb dX12_rows_112 hl (by decide) rfl (fun ls hl => ?_)
  refine lv_iload hx hb dX12_rows_114 (lv_at hl 0 rfl) ?_
  refine lv_aload_n hx hb dX12_rows_116 rfl (lv_at hl 3 rfl) ?_
  refine r_get C w 9 rfl fr_X12_322 rfl dX12_rows_117 ?_
  refine lv_icmp_ge (tgt := 192) hx hb dX12_rows_120 (by decide) (fun h => absurd h (by decide)) (fun _ => ?_)
  refine lv_iconst (v := 0) hx hb dX12_rows_123 (by decide) ?_
  refine lv_istore (lv' := [(5, .int 0), (4, .int 0), (3, .int 2), (0, .ref q0), (1, .int x0), (2, .int x1)]) hx hb dX12_rows_124 hl (by decide) rfl (fun ls hl => ?_)
  refine lv_iload hx hb dX12_rows_126 (lv_at hl 0 rfl) ?_
  refine lv_aload_n hx hb dX12_rows_128 rfl (lv_at hl 3 rfl) ?_
  refine fin_i C w (run_V C w mv_X12_286 (k123_acts C.b0 q0 q8 q11 q12 q13 q14 q15 q16 q17 q2 q18 q3 q4 q19 q6 q7 q1 q5 q20 q21 q22 q23 q24 q25 q26 q27 q28 q9 q10 q29 q30 q31 q32 q33 q34 q35 q36 q37 q38 q39 q40 q41 q42 H.size) [9, 10] rfl rfl 9 rfl rfl (by decide) rfl hl.1 rfl (Nat.le_of_ble_eq_true rfl) dX12_rows_129 (cells2 := 0) (slots2 := 0) (by decide)) [9, 10] [0, 1, 2, 3, 4, 5, 6, 7, 8] rfl rfl (by decide) (cells2 := 0) (slots2 := 0) (by decide) (fun u7 H locs w => ?_)
  have w : Wd s G A [(q9, .inl (G.2.2.1, 3000, .inr (.inl (vp_updL (vp_updL (vp_updL (fun _ => 0) 0 1) 0 0) 0 0)))), (q10, .inl (G.2.2.1, 3000, .inr (.inl (fun _ => 0)))), (q1, .inl (G.2.1, 4096, .inl (upd (fun _ => (-1)) 0 0))), (q2, .inl (G.2.1, 57, .inl (fun _ => 0))), (q3, .inl (G.2.1, 8, .inl (fun _ => 0))), (q4, .inl (G.2.1, 24008, .inl (fun _ => 0))), (q5, .inl (G.2.1, 3000, .inl (upd (fun _ => 0) 0 (-1)))), (q6, .inl (G.2.1, 3000, .inl (upd (fun _ => 0) 0 (-1)))), (q7, .inl (G.2.1, 3000, .inl (upd (fun _ => 0) 0 (-1)))), (q0, .inr (12, [.int 0, .int 0, .int 0, .int 0, .int 0, .int 0, .int 0, .int (-1), .ref q11, .ref q8, .ref q12, .int 0, .ref q13, .ref q14, .ref q15, .ref q16, .ref q17, .ref q2, .ref q18, .int 0, .ref q3, .ref q4, .ref q19, .ref q6, .ref q7, .ref q1, .ref q5, .int 1, .int (-1), .int 0, .ref q20, .ref q21, .ref q22, .ref q23, .ref q24, .ref q25, .ref q26, .ref q27, .int 0, .ref q28, .ref q9, .ref q10, .ref q29, .ref q30, .int 0, .ref q31, .ref q32, .ref q33, .ref q34, .int 0, .ref q35, .ref q36, .ref q37, .ref q38, .int 0, .int 0, .ref q39, .ref q40, .ref q41, .ref q42])), (q8, .inl (G.2.1, 242, .inl (fun _ => 0)))] H locs := w
  refine lv_icmp_ge (tgt := 186) hx hb dX12_rows_132 (by decide) (fun _ => ?_) (fun h => absurd (by decide) h)
  refine lv_iinc (v := 1) (lv' := [(4, .int 1), (5, .int 0), (3, .int 2), (0, .ref q0), (1, .int x0), (2, .int x1)]) hx hb dX12_rows_186 hl (k := 1) rfl (by decide +kernel) (by decide) rfl (fun ls hl => ?_)
  refine lv_goto (tgt := 114) hx hb dX12_rows_189 (by decide) ?_
  refine lv_iload hx hb dX12_rows_114 (lv_at hl 0 rfl) ?_
  refine lv_aload_n hx hb dX12_rows_116 rfl (lv_at hl 3 rfl) ?_
  refine r_get C w 9 rfl fr_X12_322 rfl dX12_rows_117 ?_
  refine lv_icmp_ge (tgt := 192) hx hb dX12_rows_120 (by decide) (fun _ => ?_) (fun h => absurd (by decide) h)
  refine lv_iconst (v := 0) hx hb dX12_rows_192 (by decide) ?_
  refine lv_istore (lv' := [(4, .int 0), (5, .int 0), (3, .int 2), (0, .ref q0), (1, .int x0), (2, .int x1)]) hx hb dX12_rows_193 hl (by decide) rfl (fun ls hl => ?_)
  refine lv_iload hx hb dX12_rows_195 (lv_at hl 0 rfl) ?_
  refine lv_aload_n hx hb dX12_rows_197 rfl (lv_at hl 3 rfl) ?_
  refine r_get C w 9 rfl fr_X12_322 rfl dX12_rows_198 ?_
  refine lv_icmp_ge (tgt := 224) hx hb dX12_rows_201 (by decide) (fun h => absurd h (by decide)) (fun _ => ?_)
  refine lv_aload_n hx hb dX12_rows_204 rfl (lv_at hl 3 rfl) ?_
  refine r_get C w 9 rfl fr_X12_99 rfl dX12_rows_205 ?_
  refine lv_iload hx hb dX12_rows_208 (lv_at hl 0 rfl) ?_
  refine lv_aload_n hx hb dX12_rows_210 rfl (lv_at hl 3 rfl) ?_
  refine r_get C w 9 rfl fr_X12_103 rfl dX12_rows_211 ?_
  refine lv_iload hx hb dX12_rows_214 (lv_at hl 0 rfl) ?_
  refine r_lald C w 1 rfl (IX.of (k := 0) (by decide +kernel)) (v := 0) rfl dX12_rows_216 ?_
  refine r_last C w 0 rfl (IX.of (k := 0) (by decide +kernel)) (g := (vp_updL (vp_updL (vp_updL (vp_updL (fun _ => 0) 0 1) 0 0) 0 0) 0 0)) rfl dX12_rows_217 (ws2 := [(q9, .inl (G.2.2.1, 3000, .inr (.inl (vp_updL (vp_updL (vp_updL (vp_updL (fun _ => 0) 0 1) 0 0) 0 0) 0 0)))), (q10, .inl (G.2.2.1, 3000, .inr (.inl (fun _ => 0)))), (q1, .inl (G.2.1, 4096, .inl (upd (fun _ => (-1)) 0 0))), (q2, .inl (G.2.1, 57, .inl (fun _ => 0))), (q3, .inl (G.2.1, 8, .inl (fun _ => 0))), (q4, .inl (G.2.1, 24008, .inl (fun _ => 0))), (q5, .inl (G.2.1, 3000, .inl (upd (fun _ => 0) 0 (-1)))), (q6, .inl (G.2.1, 3000, .inl (upd (fun _ => 0) 0 (-1)))), (q7, .inl (G.2.1, 3000, .inl (upd (fun _ => 0) 0 (-1)))), (q0, .inr (12, [.int 0, .int 0, .int 0, .int 0, .int 0, .int 0, .int 0, .int (-1), .ref q11, .ref q8, .ref q12, .int 0, .ref q13, .ref q14, .ref q15, .ref q16, .ref q17, .ref q2, .ref q18, .int 0, .ref q3, .ref q4, .ref q19, .ref q6, .ref q7, .ref q1, .ref q5, .int 1, .int (-1), .int 0, .ref q20, .ref q21, .ref q22, .ref q23, .ref q24, .ref q25, .ref q26, .ref q27, .int 0, .ref q28, .ref q9, .ref q10, .ref q29, .ref q30, .int 0, .ref q31, .ref q32, .ref q33, .ref q34, .int 0, .ref q35, .ref q36, .ref q37, .ref q38, .int 0, .int 0, .ref q39, .ref q40, .ref q41, .ref q42])), (q8, .inl (G.2.1, 242, .inl (fun _ => 0)))]) rfl (fun H locs w => ?_)
  refine lv_iinc (v := 1) (lv' := [(4, .int 1), (5, .int 0), (3, .int 2), (0, .ref q0), (1, .int x0), (2, .int x1)]) hx hb dX12_rows_218 hl (k := 0) rfl (by decide +kernel) (by decide) rfl (fun ls hl => ?_)
  refine lv_goto (tgt := 195) hx hb dX12_rows_221 (by decide) ?_
  refine lv_iload hx hb dX12_rows_195 (lv_at hl 0 rfl) ?_
  refine lv_aload_n hx hb dX12_rows_197 rfl (lv_at hl 3 rfl) ?_
  refine r_get C w 9 rfl fr_X12_322 rfl dX12_rows_198 ?_
  refine lv_icmp_ge (tgt := 224) hx hb dX12_rows_201 (by decide) (fun _ => ?_) (fun h => absurd (by decide) h)
  refine lv_iinc (v := 3) (lv' := [(3, .int 3), (4, .int 1), (5, .int 0), (0, .ref q0), (1, .int x0), (2, .int x1)]) hx hb dX12_rows_224 hl (k := 2) rfl (by decide +kernel) (by decide) rfl (fun ls hl => ?_)
  refine lv_goto (tgt := 80) hx hb dX12_rows_227 (by decide) ?_
  refine lv_iload_n hx hb dX12_rows_80 rfl (lv_at hl 0 rfl) ?_
  refine lv_iload_n hx hb dX12_rows_81 rfl (lv_at hl 5 rfl) ?_
  refine lv_icmp_ge (tgt := 230) hx hb dX12_rows_82 (by decide) (fun h => absurd h (Int32.not_le.mpr h4)) (fun _ => ?_)
  refine lv_iconst (v := 0) hx hb dX12_rows_85 (by decide) ?_
  refine lv_istore (lv' := [(4, .int 0), (3, .int 3), (5, .int 0), (0, .ref q0), (1, .int x0), (2, .int x1)]) hx hb dX12_rows_86 hl (by decide) rfl (fun ls hl => ?_)
  refine lv_iload hx hb dX12_rows_88 (lv_at hl 0 rfl) ?_
  refine lv_aload_n hx hb dX12_rows_90 rfl (lv_at hl 3 rfl) ?_
  refine r_get C w 9 rfl fr_X12_322 rfl dX12_rows_91 ?_
  refine lv_icmp_ge (tgt := 111) hx hb dX12_rows_94 (by decide) (fun h => absurd h (by decide)) (fun _ => ?_)
  refine lv_aload_n hx hb dX12_rows_97 rfl (lv_at hl 3 rfl) ?_
  refine r_get C w 9 rfl fr_X12_103 rfl dX12_rows_98 ?_
  refine lv_iload hx hb dX12_rows_101 (lv_at hl 0 rfl) ?_
  refine lv_lconst (v := 0) hx hb dX12_rows_103 (by decide) ?_
  refine r_last C w 1 rfl (IX.of (k := 0) (by decide +kernel)) (g := (fun _ => 0)) (updL_c _ _) dX12_rows_104 (ws2 := [(q9, .inl (G.2.2.1, 3000, .inr (.inl (vp_updL (vp_updL (vp_updL (vp_updL (fun _ => 0) 0 1) 0 0) 0 0) 0 0)))), (q10, .inl (G.2.2.1, 3000, .inr (.inl (fun _ => 0)))), (q1, .inl (G.2.1, 4096, .inl (upd (fun _ => (-1)) 0 0))), (q2, .inl (G.2.1, 57, .inl (fun _ => 0))), (q3, .inl (G.2.1, 8, .inl (fun _ => 0))), (q4, .inl (G.2.1, 24008, .inl (fun _ => 0))), (q5, .inl (G.2.1, 3000, .inl (upd (fun _ => 0) 0 (-1)))), (q6, .inl (G.2.1, 3000, .inl (upd (fun _ => 0) 0 (-1)))), (q7, .inl (G.2.1, 3000, .inl (upd (fun _ => 0) 0 (-1)))), (q0, .inr (12, [.int 0, .int 0, .int 0, .int 0, .int 0, .int 0, .int 0, .int (-1), .ref q11, .ref q8, .ref q12, .int 0, .ref q13, .ref q14, .ref q15, .ref q16, .ref q17, .ref q2, .ref q18, .int 0, .ref q3, .ref q4, .ref q19, .ref q6, .ref q7, .ref q1, .ref q5, .int 1, .int (-1), .int 0, .ref q20, .ref q21, .ref q22, .ref q23, .ref q24, .ref q25, .ref q26, .ref q27, .int 0, .ref q28, .ref q9, .ref q10, .ref q29, .ref q30, .int 0, .ref q31, .ref q32, .ref q33, .ref q34, .int 0, .ref q35, .ref q36, .ref q37, .ref q38, .int 0, .int 0, .ref q39, .ref q40, .ref q41, .ref q42])), (q8, .inl (G.2.1, 242, .inl (fun _ => 0)))]) rfl (fun H locs w => ?_)
  refine lv_iinc (v := 1) (lv' := [(4, .int 1), (3, .int 3), (5, .int 0), (0, .ref q0), (1, .int x0), (2, .int x1)]) hx hb dX12_rows_105 hl (k := 0) rfl (by decide +kernel) (by decide) rfl (fun ls hl => ?_)
  refine lv_goto (tgt := 88) hx hb dX12_rows_108 (by decide) ?_
  refine lv_iload hx hb dX12_rows_88 (lv_at hl 0 rfl) ?_
  refine lv_aload_n hx hb dX12_rows_90 rfl (lv_at hl 3 rfl) ?_
  refine r_get C w 9 rfl fr_X12_322 rfl dX12_rows_91 ?_
  refine lv_icmp_ge (tgt := 111) hx hb dX12_rows_94 (by decide) (fun _ => ?_) (fun h => absurd (by decide) h)
  refine lv_iconst (v := 0) hx hb dX12_rows_111 (by decide) ?_
  refine lv_istore (lv' := [(4, .int 0), (3, .int 3), (5, .int 0), (0, .ref q0), (1, .int x0), (2, .int x1)]) hx hb dX12_rows_112 hl (by decide) rfl (fun ls hl => ?_)
  refine lv_iload hx hb dX12_rows_114 (lv_at hl 0 rfl) ?_
  refine lv_aload_n hx hb dX12_rows_116 rfl (lv_at hl 3 rfl) ?_
  refine r_get C w 9 rfl fr_X12_322 rfl dX12_rows_117 ?_
  refine lv_icmp_ge (tgt := 192) hx hb dX12_rows_120 (by decide) (fun h => absurd h (by decide)) (fun _ => ?_)
  refine lv_iconst (v := 0) hx hb dX12_rows_123 (by decide) ?_
  refine lv_istore (lv' := [(5, .int 0), (4, .int 0), (3, .int 3), (0, .ref q0), (1, .int x0), (2, .int x1)]) hx hb dX12_rows_124 hl (by decide) rfl (fun ls hl => ?_)
  refine lv_iload hx hb dX12_rows_126 (lv_at hl 0 rfl) ?_
  refine lv_aload_n hx hb dX12_rows_128 rfl (lv_at hl 3 rfl) ?_
  refine fin_i C w (run_V C w mv_X12_286 (k123_acts C.b0 q0 q8 q11 q12 q13 q14 q15 q16 q17 q2 q18 q3 q4 q19 q6 q7 q1 q5 q20 q21 q22 q23 q24 q25 q26 q27 q28 q9 q10 q29 q30 q31 q32 q33 q34 q35 q36 q37 q38 q39 q40 q41 q42 H.size) [9, 10] rfl rfl 9 rfl rfl (by decide) rfl hl.1 rfl (Nat.le_of_ble_eq_true rfl) dX12_rows_129 (cells2 := 0) (slots2 := 0) (by decide)) [9, 10] [0, 1, 2, 3, 4, 5, 6, 7, 8] rfl rfl (by decide) (cells2 := 0) (slots2 := 0) (by decide) (fun u8 H locs w => ?_)
  have w : Wd s G A [(q9, .inl (G.2.2.1, 3000, .inr (.inl (vp_updL (vp_updL (vp_updL (vp_updL (fun _ => 0) 0 1) 0 0) 0 0) 0 0)))), (q10, .inl (G.2.2.1, 3000, .inr (.inl (fun _ => 0)))), (q1, .inl (G.2.1, 4096, .inl (upd (fun _ => (-1)) 0 0))), (q2, .inl (G.2.1, 57, .inl (fun _ => 0))), (q3, .inl (G.2.1, 8, .inl (fun _ => 0))), (q4, .inl (G.2.1, 24008, .inl (fun _ => 0))), (q5, .inl (G.2.1, 3000, .inl (upd (fun _ => 0) 0 (-1)))), (q6, .inl (G.2.1, 3000, .inl (upd (fun _ => 0) 0 (-1)))), (q7, .inl (G.2.1, 3000, .inl (upd (fun _ => 0) 0 (-1)))), (q0, .inr (12, [.int 0, .int 0, .int 0, .int 0, .int 0, .int 0, .int 0, .int (-1), .ref q11, .ref q8, .ref q12, .int 0, .ref q13, .ref q14, .ref q15, .ref q16, .ref q17, .ref q2, .ref q18, .int 0, .ref q3, .ref q4, .ref q19, .ref q6, .ref q7, .ref q1, .ref q5, .int 1, .int (-1), .int 0, .ref q20, .ref q21, .ref q22, .ref q23, .ref q24, .ref q25, .ref q26, .ref q27, .int 0, .ref q28, .ref q9, .ref q10, .ref q29, .ref q30, .int 0, .ref q31, .ref q32, .ref q33, .ref q34, .int 0, .ref q35, .ref q36, .ref q37, .ref q38, .int 0, .int 0, .ref q39, .ref q40, .ref q41, .ref q42])), (q8, .inl (G.2.1, 242, .inl (fun _ => 0)))] H locs := w
  refine lv_icmp_ge (tgt := 186) hx hb dX12_rows_132 (by decide) (fun _ => ?_) (fun h => absurd (by decide) h)
  refine lv_iinc (v := 1) (lv' := [(4, .int 1), (5, .int 0), (3, .int 3), (0, .ref q0), (1, .int x0), (2, .int x1)]) hx hb dX12_rows_186 hl (k := 1) rfl (by decide +kernel) (by decide) rfl (fun ls hl => ?_)
  refine lv_goto (tgt := 114) hx hb dX12_rows_189 (by decide) ?_
  refine lv_iload hx hb dX12_rows_114 (lv_at hl 0 rfl) ?_
  refine lv_aload_n hx hb dX12_rows_116 rfl (lv_at hl 3 rfl) ?_
  refine r_get C w 9 rfl fr_X12_322 rfl dX12_rows_117 ?_
  refine lv_icmp_ge (tgt := 192) hx hb dX12_rows_120 (by decide) (fun _ => ?_) (fun h => absurd (by decide) h)
  refine lv_iconst (v := 0) hx hb dX12_rows_192 (by decide) ?_
  refine lv_istore (lv' := [(4, .int 0), (5, .int 0), (3, .int 3), (0, .ref q0), (1, .int x0), (2, .int x1)]) hx hb dX12_rows_193 hl (by decide) rfl (fun ls hl => ?_)
  refine lv_iload hx hb dX12_rows_195 (lv_at hl 0 rfl) ?_
  refine lv_aload_n hx hb dX12_rows_197 rfl (lv_at hl 3 rfl) ?_
  refine r_get C w 9 rfl fr_X12_322 rfl dX12_rows_198 ?_
  refine lv_icmp_ge (tgt := 224) hx hb dX12_rows_201 (by decide) (fun h => absurd h (by decide)) (fun _ => ?_)
  refine lv_aload_n hx hb dX12_rows_204 rfl (lv_at hl 3 rfl) ?_
  refine r_get C w 9 rfl fr_X12_99 rfl dX12_rows_205 ?_
  refine lv_iload hx hb dX12_rows_208 (lv_at hl 0 rfl) ?_
  refine lv_aload_n hx hb dX12_rows_210 rfl (lv_at hl 3 rfl) ?_
  refine r_get C w 9 rfl fr_X12_103 rfl dX12_rows_211 ?_
  refine lv_iload hx hb dX12_rows_214 (lv_at hl 0 rfl) ?_
  refine r_lald C w 1 rfl (IX.of (k := 0) (by decide +kernel)) (v := 0) rfl dX12_rows_216 ?_
  refine r_last C w 0 rfl (IX.of (k := 0) (by decide +kernel)) (g := (vp_updL (vp_updL (vp_updL (vp_updL (vp_updL (fun _ => 0) 0 1) 0 0) 0 0) 0 0) 0 0)) rfl dX12_rows_217 (ws2 := [(q9, .inl (G.2.2.1, 3000, .inr (.inl (vp_updL (vp_updL (vp_updL (vp_updL (vp_updL (fun _ => 0) 0 1) 0 0) 0 0) 0 0) 0 0)))), (q10, .inl (G.2.2.1, 3000, .inr (.inl (fun _ => 0)))), (q1, .inl (G.2.1, 4096, .inl (upd (fun _ => (-1)) 0 0))), (q2, .inl (G.2.1, 57, .inl (fun _ => 0))), (q3, .inl (G.2.1, 8, .inl (fun _ => 0))), (q4, .inl (G.2.1, 24008, .inl (fun _ => 0))), (q5, .inl (G.2.1, 3000, .inl (upd (fun _ => 0) 0 (-1)))), (q6, .inl (G.2.1, 3000, .inl (upd (fun _ => 0) 0 (-1)))), (q7, .inl (G.2.1, 3000, .inl (upd (fun _ => 0) 0 (-1)))), (q0, .inr (12, [.int 0, .int 0, .int 0, .int 0, .int 0, .int 0, .int 0, .int (-1), .ref q11, .ref q8, .ref q12, .int 0, .ref q13, .ref q14, .ref q15, .ref q16, .ref q17, .ref q2, .ref q18, .int 0, .ref q3, .ref q4, .ref q19, .ref q6, .ref q7, .ref q1, .ref q5, .int 1, .int (-1), .int 0, .ref q20, .ref q21, .ref q22, .ref q23, .ref q24, .ref q25, .ref q26, .ref q27, .int 0, .ref q28, .ref q9, .ref q10, .ref q29, .ref q30, .int 0, .ref q31, .ref q32, .ref q33, .ref q34, .int 0, .ref q35, .ref q36, .ref q37, .ref q38, .int 0, .int 0, .ref q39, .ref q40, .ref q41, .ref q42])), (q8, .inl (G.2.1, 242, .inl (fun _ => 0)))]) rfl (fun H locs w => ?_)
  refine lv_iinc (v := 1) (lv' := [(4, .int 1), (5, .int 0), (3, .int 3), (0, .ref q0), (1, .int x0), (2, .int x1)]) hx hb dX12_rows_218 hl (k := 0) rfl (by decide +kernel) (by decide) rfl (fun ls hl => ?_)
  refine lv_goto (tgt := 195) hx hb dX12_rows_221 (by decide) ?_
  refine lv_iload hx hb dX12_rows_195 (lv_at hl 0 rfl) ?_
  refine lv_aload_n hx hb dX12_rows_197 rfl (lv_at hl 3 rfl) ?_
  refine r_get C w 9 rfl fr_X12_322 rfl dX12_rows_198 ?_
  refine lv_icmp_ge (tgt := 224) hx hb dX12_rows_201 (by decide) (fun _ => ?_) (fun h => absurd (by decide) h)
  refine lv_iinc (v := 4) (lv' := [(3, .int 4), (4, .int 1), (5, .int 0), (0, .ref q0), (1, .int x0), (2, .int x1)]) hx hb dX12_rows_224 hl (k := 2) rfl (by decide +kernel) (by decide) rfl (fun ls hl => ?_)
  refine lv_goto (tgt := 80) hx hb dX12_rows_227 (by decide) ?_
  refine lv_iload_n hx hb dX12_rows_80 rfl (lv_at hl 0 rfl) ?_
  refine lv_iload_n hx hb dX12_rows_81 rfl (lv_at hl 5 rfl) ?_
  refine lv_icmp_ge (tgt := 230) hx hb dX12_rows_82 (by decide) (fun h => absurd h (Int32.not_le.mpr h6)) (fun _ => ?_)
  refine lv_iconst (v := 0) hx hb dX12_rows_85 (by decide) ?_
  refine lv_istore (lv' := [(4, .int 0), (3, .int 4), (5, .int 0), (0, .ref q0), (1, .int x0), (2, .int x1)]) hx hb dX12_rows_86 hl (by decide) rfl (fun ls hl => ?_)
  refine lv_iload hx hb dX12_rows_88 (lv_at hl 0 rfl) ?_
  refine lv_aload_n hx hb dX12_rows_90 rfl (lv_at hl 3 rfl) ?_
  refine r_get C w 9 rfl fr_X12_322 rfl dX12_rows_91 ?_
  refine lv_icmp_ge (tgt := 111) hx hb dX12_rows_94 (by decide) (fun h => absurd h (by decide)) (fun _ => ?_)
  refine lv_aload_n hx hb dX12_rows_97 rfl (lv_at hl 3 rfl) ?_
  refine r_get C w 9 rfl fr_X12_103 rfl dX12_rows_98 ?_
  refine lv_iload hx hb dX12_rows_101 (lv_at hl 0 rfl) ?_
  refine lv_lconst (v := 0) hx hb dX12_rows_103 (by decide) ?_
  refine r_last C w 1 rfl (IX.of (k := 0) (by decide +kernel)) (g := (fun _ => 0)) (updL_c _ _) dX12_rows_104 (ws2 := [(q9, .inl (G.2.2.1, 3000, .inr (.inl (vp_updL (vp_updL (vp_updL (vp_updL (vp_updL (fun _ => 0) 0 1) 0 0) 0 0) 0 0) 0 0)))), (q10, .inl (G.2.2.1, 3000, .inr (.inl (fun _ => 0)))), (q1, .inl (G.2.1, 4096, .inl (upd (fun _ => (-1)) 0 0))), (q2, .inl (G.2.1, 57, .inl (fun _ => 0))), (q3, .inl (G.2.1, 8, .inl (fun _ => 0))), (q4, .inl (G.2.1, 24008, .inl (fun _ => 0))), (q5, .inl (G.2.1, 3000, .inl (upd (fun _ => 0) 0 (-1)))), (q6, .inl (G.2.1, 3000, .inl (upd (fun _ => 0) 0 (-1)))), (q7, .inl (G.2.1, 3000, .inl (upd (fun _ => 0) 0 (-1)))), (q0, .inr (12, [.int 0, .int 0, .int 0, .int 0, .int 0, .int 0, .int 0, .int (-1), .ref q11, .ref q8, .ref q12, .int 0, .ref q13, .ref q14, .ref q15, .ref q16, .ref q17, .ref q2, .ref q18, .int 0, .ref q3, .ref q4, .ref q19, .ref q6, .ref q7, .ref q1, .ref q5, .int 1, .int (-1), .int 0, .ref q20, .ref q21, .ref q22, .ref q23, .ref q24, .ref q25, .ref q26, .ref q27, .int 0, .ref q28, .ref q9, .ref q10, .ref q29, .ref q30, .int 0, .ref q31, .ref q32, .ref q33, .ref q34, .int 0, .ref q35, .ref q36, .ref q37, .ref q38, .int 0, .int 0, .ref q39, .ref q40, .ref q41, .ref q42])), (q8, .inl (G.2.1, 242, .inl (fun _ => 0)))]) rfl (fun H locs w => ?_)
  refine lv_iinc (v := 1) (lv' := [(4, .int 1), (3, .int 4), (5, .int 0), (0, .ref q0), (1, .int x0), (2, .int x1)]) hx hb dX12_rows_105 hl (k := 0) rfl (by decide +kernel) (by decide) rfl (fun ls hl => ?_)
  refine lv_goto (tgt := 88) hx hb dX12_rows_108 (by decide) ?_
  refine lv_iload hx hb dX12_rows_88 (lv_at hl 0 rfl) ?_
  refine lv_aload_n hx hb dX12_rows_90 rfl (lv_at hl 3 rfl) ?_
  refine r_get C w 9 rfl fr_X12_322 rfl dX12_rows_91 ?_
  refine lv_icmp_ge (tgt := 111) hx hb dX12_rows_94 (by decide) (fun _ => ?_) (fun h => absurd (by decide) h)
  refine lv_iconst (v := 0) hx hb dX12_rows_111 (by decide) ?_
  refine lv_istore (lv' := [(4, .int 0), (3, .int 4), (5, .int 0), (0, .ref q0), (1, .int x0), (2, .int x1)]) hx hb dX12_rows_112 hl (by decide) rfl (fun ls hl => ?_)
  refine lv_iload hx hb dX12_rows_114 (lv_at hl 0 rfl) ?_
  refine lv_aload_n hx hb dX12_rows_116 rfl (lv_at hl 3 rfl) ?_
  refine r_get C w 9 rfl fr_X12_322 rfl dX12_rows_117 ?_
  refine lv_icmp_ge (tgt := 192) hx hb dX12_rows_120 (by decide) (fun h => absurd h (by decide)) (fun _ => ?_)
  refine lv_iconst (v := 0) hx hb dX12_rows_123 (by decide) ?_
  refine lv_istore (lv' := [(5, .int 0), (4, .int 0), (3, .int 4), (0, .ref q0), (1, .int x0), (2, .int x1)]) hx hb dX12_rows_124 hl (by decide) rfl (fun ls hl => ?_)
  refine lv_iload hx hb dX12_rows_126 (lv_at hl 0 rfl) ?_
  refine lv_aload_n hx hb dX12_rows_128 rfl (lv_at hl 3 rfl) ?_
  refine fin_i C w (run_V C w mv_X12_286 (k123_acts C.b0 q0 q8 q11 q12 q13 q14 q15 q16 q17 q2 q18 q3 q4 q19 q6 q7 q1 q5 q20 q21 q22 q23 q24 q25 q26 q27 q28 q9 q10 q29 q30 q31 q32 q33 q34 q35 q36 q37 q38 q39 q40 q41 q42 H.size) [9, 10] rfl rfl 9 rfl rfl (by decide) rfl hl.1 rfl (Nat.le_of_ble_eq_true rfl) dX12_rows_129 (cells2 := 0) (slots2 := 0) (by decide)) [9, 10] [0, 1, 2, 3, 4, 5, 6, 7, 8] rfl rfl (by decide) (cells2 := 0) (slots2 := 0) (by decide) (fun u9 H locs w => ?_)
  have w : Wd s G A [(q9, .inl (G.2.2.1, 3000, .inr (.inl (vp_updL (vp_updL (vp_updL (vp_updL (vp_updL (fun _ => 0) 0 1) 0 0) 0 0) 0 0) 0 0)))), (q10, .inl (G.2.2.1, 3000, .inr (.inl (fun _ => 0)))), (q1, .inl (G.2.1, 4096, .inl (upd (fun _ => (-1)) 0 0))), (q2, .inl (G.2.1, 57, .inl (fun _ => 0))), (q3, .inl (G.2.1, 8, .inl (fun _ => 0))), (q4, .inl (G.2.1, 24008, .inl (fun _ => 0))), (q5, .inl (G.2.1, 3000, .inl (upd (fun _ => 0) 0 (-1)))), (q6, .inl (G.2.1, 3000, .inl (upd (fun _ => 0) 0 (-1)))), (q7, .inl (G.2.1, 3000, .inl (upd (fun _ => 0) 0 (-1)))), (q0, .inr (12, [.int 0, .int 0, .int 0, .int 0, .int 0, .int 0, .int 0, .int (-1), .ref q11, .ref q8, .ref q12, .int 0, .ref q13, .ref q14, .ref q15, .ref q16, .ref q17, .ref q2, .ref q18, .int 0, .ref q3, .ref q4, .ref q19, .ref q6, .ref q7, .ref q1, .ref q5, .int 1, .int (-1), .int 0, .ref q20, .ref q21, .ref q22, .ref q23, .ref q24, .ref q25, .ref q26, .ref q27, .int 0, .ref q28, .ref q9, .ref q10, .ref q29, .ref q30, .int 0, .ref q31, .ref q32, .ref q33, .ref q34, .int 0, .ref q35, .ref q36, .ref q37, .ref q38, .int 0, .int 0, .ref q39, .ref q40, .ref q41, .ref q42])), (q8, .inl (G.2.1, 242, .inl (fun _ => 0)))] H locs := w
  refine lv_icmp_ge (tgt := 186) hx hb dX12_rows_132 (by decide) (fun _ => ?_) (fun h => absurd (by decide) h)
  refine lv_iinc (v := 1) (lv' := [(4, .int 1), (5, .int 0), (3, .int 4), (0, .ref q0), (1, .int x0), (2, .int x1)]) hx hb dX12_rows_186 hl (k := 1) rfl (by decide +kernel) (by decide) rfl (fun ls hl => ?_)
  refine lv_goto (tgt := 114) hx hb dX12_rows_189 (by decide) ?_
  refine lv_iload hx hb dX12_rows_114 (lv_at hl 0 rfl) ?_
  refine lv_aload_n hx hb dX12_rows_116 rfl (lv_at hl 3 rfl) ?_
  refine r_get C w 9 rfl fr_X12_322 rfl dX12_rows_117 ?_
  refine lv_icmp_ge (tgt := 192) hx hb dX12_rows_120 (by decide) (fun _ => ?_) (fun h => absurd (by decide) h)
  refine lv_iconst (v := 0) hx hb dX12_rows_192 (by decide) ?_
  refine lv_istore (lv' := [(4, .int 0), (5, .int 0), (3, .int 4), (0, .ref q0), (1, .int x0), (2, .int x1)]) hx hb dX12_rows_193 hl (by decide) rfl (fun ls hl => ?_)
  refine lv_iload hx hb dX12_rows_195 (lv_at hl 0 rfl) ?_
  refine lv_aload_n hx hb dX12_rows_197 rfl (lv_at hl 3 rfl) ?_
  refine r_get C w 9 rfl fr_X12_322 rfl dX12_rows_198 ?_
  refine lv_icmp_ge (tgt := 224) hx hb dX12_rows_201 (by decide) (fun h => absurd h (by decide)) (fun _ => ?_)
  refine lv_aload_n hx hb dX12_rows_204 rfl (lv_at hl 3 rfl) ?_
  refine r_get C w 9 rfl fr_X12_99 rfl dX12_rows_205 ?_
  refine lv_iload hx hb dX12_rows_208 (lv_at hl 0 rfl) ?_
  refine lv_aload_n hx hb dX12_rows_210 rfl (lv_at hl 3 rfl) ?_
  refine r_get C w 9 rfl fr_X12_103 rfl dX12_rows_211 ?_
  refine lv_iload hx hb dX12_rows_214 (lv_at hl 0 rfl) ?_
  refine r_lald C w 1 rfl (IX.of (k := 0) (by decide +kernel)) (v := 0) rfl dX12_rows_216 ?_
  refine r_last C w 0 rfl (IX.of (k := 0) (by decide +kernel)) (g := (vp_updL (vp_updL (vp_updL (vp_updL (vp_updL (vp_updL (fun _ => 0) 0 1) 0 0) 0 0) 0 0) 0 0) 0 0)) rfl dX12_rows_217 (ws2 := [(q9, .inl (G.2.2.1, 3000, .inr (.inl (vp_updL (vp_updL (vp_updL (vp_updL (vp_updL (vp_updL (fun _ => 0) 0 1) 0 0) 0 0) 0 0) 0 0) 0 0)))), (q10, .inl (G.2.2.1, 3000, .inr (.inl (fun _ => 0)))), (q1, .inl (G.2.1, 4096, .inl (upd (fun _ => (-1)) 0 0))), (q2, .inl (G.2.1, 57, .inl (fun _ => 0))), (q3, .inl (G.2.1, 8, .inl (fun _ => 0))), (q4, .inl (G.2.1, 24008, .inl (fun _ => 0))), (q5, .inl (G.2.1, 3000, .inl (upd (fun _ => 0) 0 (-1)))), (q6, .inl (G.2.1, 3000, .inl (upd (fun _ => 0) 0 (-1)))), (q7, .inl (G.2.1, 3000, .inl (upd (fun _ => 0) 0 (-1)))), (q0, .inr (12, [.int 0, .int 0, .int 0, .int 0, .int 0, .int 0, .int 0, .int (-1), .ref q11, .ref q8, .ref q12, .int 0, .ref q13, .ref q14, .ref q15, .ref q16, .ref q17, .ref q2, .ref q18, .int 0, .ref q3, .ref q4, .ref q19, .ref q6, .ref q7, .ref q1, .ref q5, .int 1, .int (-1), .int 0, .ref q20, .ref q21, .ref q22, .ref q23, .ref q24, .ref q25, .ref q26, .ref q27, .int 0, .ref q28, .ref q9, .ref q10, .ref q29, .ref q30, .int 0, .ref q31, .ref q32, .ref q33, .ref q34, .int 0, .ref q35, .ref q36, .ref q37, .ref q38, .int 0, .int 0, .ref q39, .ref q40, .ref q41, .ref q42])), (q8, .inl (G.2.1, 242, .inl (fun _ => 0)))]) rfl (fun H locs w => ?_)
  refine lv_iinc (v := 1) (lv' := [(4, .int 1), (5, .int 0), (3, .int 4), (0, .ref q0), (1, .int x0), (2, .int x1)]) hx hb dX12_rows_218 hl (k := 0) rfl (by decide +kernel) (by decide) rfl (fun ls hl => ?_)
  refine lv_goto (tgt := 195) hx hb dX12_rows_221 (by decide) ?_
  refine lv_iload hx hb dX12_rows_195 (lv_at hl 0 rfl) ?_
  refine lv_aload_n hx hb dX12_rows_197 rfl (lv_at hl 3 rfl) ?_
  refine r_get C w 9 rfl fr_X12_322 rfl dX12_rows_198 ?_
  refine lv_icmp_ge (tgt := 224) hx hb dX12_rows_201 (by decide) (fun _ => ?_) (fun h => absurd (by decide) h)
  refine lv_iinc (v := 5) (lv' := [(3, .int 5), (4, .int 1), (5, .int 0), (0, .ref q0), (1, .int x0), (2, .int x1)]) hx hb dX12_rows_224 hl (k := 2) rfl (by decide +kernel) (by decide) rfl (fun ls hl => ?_)
  refine lv_goto (tgt := 80) hx hb dX12_rows_227 (by decide) ?_
  refine lv_iload_n hx hb dX12_rows_80 rfl (lv_at hl 0 rfl) ?_
  refine lv_iload_n hx hb dX12_rows_81 rfl (lv_at hl 5 rfl) ?_
  refine lv_icmp_ge (tgt := 230) hx hb dX12_rows_82 (by decide) (fun h => absurd h (Int32.not_le.mpr h7)) (fun _ => ?_)
  refine lv_iconst (v := 0) hx hb dX12_rows_85 (by decide) ?_
  refine lv_istore (lv' := [(4, .int 0), (3, .int 5), (5, .int 0), (0, .ref q0), (1, .int x0), (2, .int x1)]) hx hb dX12_rows_86 hl (by decide) rfl (fun ls hl => ?_)
  refine lv_iload hx hb dX12_rows_88 (lv_at hl 0 rfl) ?_
  refine lv_aload_n hx hb dX12_rows_90 rfl (lv_at hl 3 rfl) ?_
  refine r_get C w 9 rfl fr_X12_322 rfl dX12_rows_91 ?_
  refine lv_icmp_ge (tgt := 111) hx hb dX12_rows_94 (by decide) (fun h => absurd h (by decide)) (fun _ => ?_)
  refine lv_aload_n hx hb dX12_rows_97 rfl (lv_at hl 3 rfl) ?_
  refine r_get C w 9 rfl fr_X12_103 rfl dX12_rows_98 ?_
  refine lv_iload hx hb dX12_rows_101 (lv_at hl 0 rfl) ?_
  refine lv_lconst (v := 0) hx hb dX12_rows_103 (by decide) ?_
  refine r_last C w 1 rfl (IX.of (k := 0) (by decide +kernel)) (g := (fun _ => 0)) (updL_c _ _) dX12_rows_104 (ws2 := [(q9, .inl (G.2.2.1, 3000, .inr (.inl (vp_updL (vp_updL (vp_updL (vp_updL (vp_updL (vp_updL (fun _ => 0) 0 1) 0 0) 0 0) 0 0) 0 0) 0 0)))), (q10, .inl (G.2.2.1, 3000, .inr (.inl (fun _ => 0)))), (q1, .inl (G.2.1, 4096, .inl (upd (fun _ => (-1)) 0 0))), (q2, .inl (G.2.1, 57, .inl (fun _ => 0))), (q3, .inl (G.2.1, 8, .inl (fun _ => 0))), (q4, .inl (G.2.1, 24008, .inl (fun _ => 0))), (q5, .inl (G.2.1, 3000, .inl (upd (fun _ => 0) 0 (-1)))), (q6, .inl (G.2.1, 3000, .inl (upd (fun _ => 0) 0 (-1)))), (q7, .inl (G.2.1, 3000, .inl (upd (fun _ => 0) 0 (-1)))), (q0, .inr (12, [.int 0, .int 0, .int 0, .int 0, .int 0, .int 0, .int 0, .int (-1), .ref q11, .ref q8, .ref q12, .int 0, .ref q13, .ref q14, .ref q15, .ref q16, .ref q17, .ref q2, .ref q18, .int 0, .ref q3, .ref q4, .ref q19, .ref q6, .ref q7, .ref q1, .ref q5, .int 1, .int (-1), .int 0, .ref q20, .ref q21, .ref q22, .ref q23, .ref q24, .ref q25, .ref q26, .ref q27, .int 0, .ref q28, .ref q9, .ref q10, .ref q29, .ref q30, .int 0, .ref q31, .ref q32, .ref q33, .ref q34, .int 0, .ref q35, .ref q36, .ref q37, .ref q38, .int 0, .int 0, .ref q39, .ref q40, .ref q41, .ref q42])), (q8, .inl (G.2.1, 242, .inl (fun _ => 0)))]) rfl (fun H locs w => ?_)
  refine lv_iinc (v := 1) (lv' := [(4, .int 1), (3, .int 5), (5, .int 0), (0, .ref q0), (1, .int x0), (2, .int x1)]) hx hb dX12_rows_105 hl (k := 0) rfl (by decide +kernel) (by decide) rfl (fun ls hl => ?_)
  refine lv_goto (tgt := 88) hx hb dX12_rows_108 (by decide) ?_
  refine lv_iload hx hb dX12_rows_88 (lv_at hl 0 rfl) ?_
  refine lv_aload_n hx hb dX12_rows_90 rfl (lv_at hl 3 rfl) ?_
  refine r_get C w 9 rfl fr_X12_322 rfl dX12_rows_91 ?_
  refine lv_icmp_ge (tgt := 111) hx hb dX12_rows_94 (by decide) (fun _ => ?_) (fun h => absurd (by decide) h)
  refine lv_iconst (v := 0) hx hb dX12_rows_111 (by decide) ?_
  refine lv_istore (lv' := [(4, .int 0), (3, .int 5), (5, .int 0), (0, .ref q0), (1, .int x0), (2, .int x1)]) hx hb dX12_rows_112 hl (by decide) rfl (fun ls hl => ?_)
  refine lv_iload hx hb dX12_rows_114 (lv_at hl 0 rfl) ?_
  refine lv_aload_n hx hb dX12_rows_116 rfl (lv_at hl 3 rfl) ?_
  refine r_get C w 9 rfl fr_X12_322 rfl dX12_rows_117 ?_
  refine lv_icmp_ge (tgt := 192) hx hb dX12_rows_120 (by decide) (fun h => absurd h (by decide)) (fun _ => ?_)
  refine lv_iconst (v := 0) hx hb dX12_rows_123 (by decide) ?_
  refine lv_istore (lv' := [(5, .int 0), (4, .int 0), (3, .int 5), (0, .ref q0), (1, .int x0), (2, .int x1)]) hx hb dX12_rows_124 hl (by decide) rfl (fun ls hl => ?_)
  refine lv_iload hx hb dX12_rows_126 (lv_at hl 0 rfl) ?_
  refine lv_aload_n hx hb dX12_rows_128 rfl (lv_at hl 3 rfl) ?_
  refine fin_i C w (run_V C w mv_X12_286 (k123_acts C.b0 q0 q8 q11 q12 q13 q14 q15 q16 q17 q2 q18 q3 q4 q19 q6 q7 q1 q5 q20 q21 q22 q23 q24 q25 q26 q27 q28 q9 q10 q29 q30 q31 q32 q33 q34 q35 q36 q37 q38 q39 q40 q41 q42 H.size) [9, 10] rfl rfl 9 rfl rfl (by decide) rfl hl.1 rfl (Nat.le_of_ble_eq_true rfl) dX12_rows_129 (cells2 := 0) (slots2 := 0) (by decide)) [9, 10] [0, 1, 2, 3, 4, 5, 6, 7, 8] rfl rfl (by decide) (cells2 := 0) (slots2 := 0) (by decide) (fun u10 H locs w => ?_)
  have w : Wd s G A [(q9, .inl (G.2.2.1, 3000, .inr (.inl (vp_updL (vp_updL (vp_updL (vp_updL (vp_updL (vp_updL (fun _ => 0) 0 1) 0 0) 0 0) 0 0) 0 0) 0 0)))), (q10, .inl (G.2.2.1, 3000, .inr (.inl (fun _ => 0)))), (q1, .inl (G.2.1, 4096, .inl (upd (fun _ => (-1)) 0 0))), (q2, .inl (G.2.1, 57, .inl (fun _ => 0))), (q3, .inl (G.2.1, 8, .inl (fun _ => 0))), (q4, .inl (G.2.1, 24008, .inl (fun _ => 0))), (q5, .inl (G.2.1, 3000, .inl (upd (fun _ => 0) 0 (-1)))), (q6, .inl (G.2.1, 3000, .inl (upd (fun _ => 0) 0 (-1)))), (q7, .inl (G.2.1, 3000, .inl (upd (fun _ => 0) 0 (-1)))), (q0, .inr (12, [.int 0, .int 0, .int 0, .int 0, .int 0, .int 0, .int 0, .int (-1), .ref q11, .ref q8, .ref q12, .int 0, .ref q13, .ref q14, .ref q15, .ref q16, .ref q17, .ref q2, .ref q18, .int 0, .ref q3, .ref q4, .ref q19, .ref q6, .ref q7, .ref q1, .ref q5, .int 1, .int (-1), .int 0, .ref q20, .ref q21, .ref q22, .ref q23, .ref q24, .ref q25, .ref q26, .ref q27, .int 0, .ref q28, .ref q9, .ref q10, .ref q29, .ref q30, .int 0, .ref q31, .ref q32, .ref q33, .ref q34, .int 0, .ref q35, .ref q36, .ref q37, .ref q38, .int 0, .int 0, .ref q39, .ref q40, .ref q41, .ref q42])), (q8, .inl (G.2.1, 242, .inl (fun _ => 0)))] H locs := w
  refine lv_icmp_ge (tgt := 186) hx hb dX12_rows_132 (by decide) (fun _ => ?_) (fun h => absurd (by decide) h)
  refine lv_iinc (v := 1) (lv' := [(4, .int 1), (5, .int 0), (3, .int 5), (0, .ref q0), (1, .int x0), (2, .int x1)]) hx hb dX12_rows_186 hl (k := 1) rfl (by decide +kernel) (by decide) rfl (fun ls hl => ?_)
  refine lv_goto (tgt := 114) hx hb dX12_rows_189 (by decide) ?_
  refine lv_iload hx hb dX12_rows_114 (lv_at hl 0 rfl) ?_
  refine lv_aload_n hx hb dX12_rows_116 rfl (lv_at hl 3 rfl) ?_
  refine r_get C w 9 rfl fr_X12_322 rfl dX12_rows_117 ?_
  refine lv_icmp_ge (tgt := 192) hx hb dX12_rows_120 (by decide) (fun _ => ?_) (fun h => absurd (by decide) h)
  refine lv_iconst (v := 0) hx hb dX12_rows_192 (by decide) ?_
  refine lv_istore (lv' := [(4, .int 0), (5, .int 0), (3, .int 5), (0, .ref q0), (1, .int x0), (2, .int x1)]) hx hb dX12_rows_193 hl (by decide) rfl (fun ls hl => ?_)
  refine lv_iload hx hb dX12_rows_195 (lv_at hl 0 rfl) ?_
  refine lv_aload_n hx hb dX12_rows_197 rfl (lv_at hl 3 rfl) ?_
  refine r_get C w 9 rfl fr_X12_322 rfl dX12_rows_198 ?_
  refine lv_icmp_ge (tgt := 224) hx hb dX12_rows_201 (by decide) (fun h => absurd h (by decide)) (fun _ => ?_)
  refine lv_aload_n hx hb dX12_rows_204 rfl (lv_at hl 3 rfl) ?_
  refine r_get C w 9 rfl fr_X12_99 rfl dX12_rows_205 ?_
  refine lv_iload hx hb dX12_rows_208 (lv_at hl 0 rfl) ?_
  refine lv_aload_n hx hb dX12_rows_210 rfl (lv_at hl 3 rfl) ?_
  refine r_get C w 9 rfl fr_X12_103 rfl dX12_rows_211 ?_
  refine lv_iload hx hb dX12_rows_214 (lv_at hl 0 rfl) ?_
  refine r_lald C w 1 rfl (IX.of (k := 0) (by decide +kernel)) (v := 0) rfl dX12_rows_216 ?_
  refine r_last C w 0 rfl (IX.of (k := 0) (by decide +kernel)) (g := (vp_updL (vp_updL (vp_updL (vp_updL (vp_updL (vp_updL (vp_updL (fun _ => 0) 0 1) 0 0) 0 0) 0 0) 0 0) 0 0) 0 0)) rfl dX12_rows_217 (ws2 := [(q9, .inl (G.2.2.1, 3000, .inr (.inl (vp_updL (vp_updL (vp_updL (vp_updL (vp_updL (vp_updL (vp_updL (fun _ => 0) 0 1) 0 0) 0 0) 0 0) 0 0) 0 0) 0 0)))), (q10, .inl (G.2.2.1, 3000, .inr (.inl (fun _ => 0)))), (q1, .inl (G.2.1, 4096, .inl (upd (fun _ => (-1)) 0 0))), (q2, .inl (G.2.1, 57, .inl (fun _ => 0))), (q3, .inl (G.2.1, 8, .inl (fun _ => 0))), (q4, .inl (G.2.1, 24008, .inl (fun _ => 0))), (q5, .inl (G.2.1, 3000, .inl (upd (fun _ => 0) 0 (-1)))), (q6, .inl (G.2.1, 3000, .inl (upd (fun _ => 0) 0 (-1)))), (q7, .inl (G.2.1, 3000, .inl (upd (fun _ => 0) 0 (-1)))), (q0, .inr (12, [.int 0, .int 0, .int 0, .int 0, .int 0, .int 0, .int 0, .int (-1), .ref q11, .ref q8, .ref q12, .int 0, .ref q13, .ref q14, .ref q15, .ref q16, .ref q17, .ref q2, .ref q18, .int 0, .ref q3, .ref q4, .ref q19, .ref q6, .ref q7, .ref q1, .ref q5, .int 1, .int (-1), .int 0, .ref q20, .ref q21, .ref q22, .ref q23, .ref q24, .ref q25, .ref q26, .ref q27, .int 0, .ref q28, .ref q9, .ref q10, .ref q29, .ref q30, .int 0, .ref q31, .ref q32, .ref q33, .ref q34, .int 0, .ref q35, .ref q36, .ref q37, .ref q38, .int 0, .int 0, .ref q39, .ref q40, .ref q41, .ref q42])), (q8, .inl (G.2.1, 242, .inl (fun _ => 0)))]) rfl (fun H locs w => ?_)
  refine lv_iinc (v := 1) (lv' := [(4, .int 1), (5, .int 0), (3, .int 5), (0, .ref q0), (1, .int x0), (2, .int x1)]) hx hb dX12_rows_218 hl (k := 0) rfl (by decide +kernel) (by decide) rfl (fun ls hl => ?_)
  refine lv_goto (tgt := 195) hx hb dX12_rows_221 (by decide) ?_
  refine lv_iload hx hb dX12_rows_195 (lv_at hl 0 rfl) ?_
  refine lv_aload_n hx hb dX12_rows_197 rfl (lv_at hl 3 rfl) ?_
  refine r_get C w 9 rfl fr_X12_322 rfl dX12_rows_198 ?_
  refine lv_icmp_ge (tgt := 224) hx hb dX12_rows_201 (by decide) (fun _ => ?_) (fun h => absurd (by decide) h)
  refine lv_iinc (v := 6) (lv' := [(3, .int 6), (4, .int 1), (5, .int 0), (0, .ref q0), (1, .int x0), (2, .int x1)]) hx hb dX12_rows_224 hl (k := 2) rfl (by decide +kernel) (by decide) rfl (fun ls hl => ?_)
  refine lv_goto (tgt := 80) hx hb dX12_rows_227 (by decide) ?_
  refine lv_iload_n hx hb dX12_rows_80 rfl (lv_at hl 0 rfl) ?_
  refine lv_iload_n hx hb dX12_rows_81 rfl (lv_at hl 5 rfl) ?_
  refine lv_icmp_ge (tgt := 230) hx hb dX12_rows_82 (by decide) (fun h => absurd h (Int32.not_le.mpr h8)) (fun _ => ?_)
  refine lv_iconst (v := 0) hx hb dX12_rows_85 (by decide) ?_
  refine lv_istore (lv' := [(4, .int 0), (3, .int 6), (5, .int 0), (0, .ref q0), (1, .int x0), (2, .int x1)]) hx hb dX12_rows_86 hl (by decide) rfl (fun ls hl => ?_)
  refine lv_iload hx hb dX12_rows_88 (lv_at hl 0 rfl) ?_
  refine lv_aload_n hx hb dX12_rows_90 rfl (lv_at hl 3 rfl) ?_
  refine r_get C w 9 rfl fr_X12_322 rfl dX12_rows_91 ?_
  refine lv_icmp_ge (tgt := 111) hx hb dX12_rows_94 (by decide) (fun h => absurd h (by decide)) (fun _ => ?_)
  refine lv_aload_n hx hb dX12_rows_97 rfl (lv_at hl 3 rfl) ?_
  refine r_get C w 9 rfl fr_X12_103 rfl dX12_rows_98 ?_
  refine lv_iload hx hb dX12_rows_101 (lv_at hl 0 rfl) ?_
  refine lv_lconst (v := 0) hx hb dX12_rows_103 (by decide) ?_
  refine r_last C w 1 rfl (IX.of (k := 0) (by decide +kernel)) (g := (fun _ => 0)) (updL_c _ _) dX12_rows_104 (ws2 := [(q9, .inl (G.2.2.1, 3000, .inr (.inl (vp_updL (vp_updL (vp_updL (vp_updL (vp_updL (vp_updL (vp_updL (fun _ => 0) 0 1) 0 0) 0 0) 0 0) 0 0) 0 0) 0 0)))), (q10, .inl (G.2.2.1, 3000, .inr (.inl (fun _ => 0)))), (q1, .inl (G.2.1, 4096, .inl (upd (fun _ => (-1)) 0 0))), (q2, .inl (G.2.1, 57, .inl (fun _ => 0))), (q3, .inl (G.2.1, 8, .inl (fun _ => 0))), (q4, .inl (G.2.1, 24008, .inl (fun _ => 0))), (q5, .inl (G.2.1, 3000, .inl (upd (fun _ => 0) 0 (-1)))), (q6, .inl (G.2.1, 3000, .inl (upd (fun _ => 0) 0 (-1)))), (q7, .inl (G.2.1, 3000, .inl (upd (fun _ => 0) 0 (-1)))), (q0, .inr (12, [.int 0, .int 0, .int 0, .int 0, .int 0, .int 0, .int 0, .int (-1), .ref q11, .ref q8, .ref q12, .int 0, .ref q13, .ref q14, .ref q15, .ref q16, .ref q17, .ref q2, .ref q18, .int 0, .ref q3, .ref q4, .ref q19, .ref q6, .ref q7, .ref q1, .ref q5, .int 1, .int (-1), .int 0, .ref q20, .ref q21, .ref q22, .ref q23, .ref q24, .ref q25, .ref q26, .ref q27, .int 0, .ref q28, .ref q9, .ref q10, .ref q29, .ref q30, .int 0, .ref q31, .ref q32, .ref q33, .ref q34, .int 0, .ref q35, .ref q36, .ref q37, .ref q38, .int 0, .int 0, .ref q39, .ref q40, .ref q41, .ref q42])), (q8, .inl (G.2.1, 242, .inl (fun _ => 0)))]) rfl (fun H locs w => ?_)
  refine lv_iinc (v := 1) (lv' := [(4, .int 1), (3, .int 6), (5, .int 0), (0, .ref q0), (1, .int x0), (2, .int x1)]) hx hb dX12_rows_105 hl (k := 0) rfl (by decide +kernel) (by decide) rfl (fun ls hl => ?_)
  refine lv_goto (tgt := 88) hx hb dX12_rows_108 (by decide) ?_
  refine lv_iload hx hb dX12_rows_88 (lv_at hl 0 rfl) ?_
  refine lv_aload_n hx hb dX12_rows_90 rfl (lv_at hl 3 rfl) ?_
  refine r_get C w 9 rfl fr_X12_322 rfl dX12_rows_91 ?_
  refine lv_icmp_ge (tgt := 111) hx hb dX12_rows_94 (by decide) (fun _ => ?_) (fun h => absurd (by decide) h)
  refine lv_iconst (v := 0) hx hb dX12_rows_111 (by decide) ?_
  refine lv_istore (lv' := [(4, .int 0), (3, .int 6), (5, .int 0), (0, .ref q0), (1, .int x0), (2, .int x1)]) hx hb dX12_rows_112 hl (by decide) rfl (fun ls hl => ?_)
  refine lv_iload hx hb dX12_rows_114 (lv_at hl 0 rfl) ?_
  refine lv_aload_n hx hb dX12_rows_116 rfl (lv_at hl 3 rfl) ?_
  refine r_get C w 9 rfl fr_X12_322 rfl dX12_rows_117 ?_
  refine lv_icmp_ge (tgt := 192) hx hb dX12_rows_120 (by decide) (fun h => absurd h (by decide)) (fun _ => ?_)
  refine lv_iconst (v := 0) hx hb dX12_rows_123 (by decide) ?_
  refine lv_istore (lv' := [(5, .int 0), (4, .int 0), (3, .int 6), (0, .ref q0), (1, .int x0), (2, .int x1)]) hx hb dX12_rows_124 hl (by decide) rfl (fun ls hl => ?_)
  refine lv_iload hx hb dX12_rows_126 (lv_at hl 0 rfl) ?_
  refine lv_aload_n hx hb dX12_rows_128 rfl (lv_at hl 3 rfl) ?_
  refine fin_i C w (run_V C w mv_X12_286 (k123_acts C.b0 q0 q8 q11 q12 q13 q14 q15 q16 q17 q2 q18 q3 q4 q19 q6 q7 q1 q5 q20 q21 q22 q23 q24 q25 q26 q27 q28 q9 q10 q29 q30 q31 q32 q33 q34 q35 q36 q37 q38 q39 q40 q41 q42 H.size) [9, 10] rfl rfl 9 rfl rfl (by decide) rfl hl.1 rfl (Nat.le_of_ble_eq_true rfl) dX12_rows_129 (cells2 := 0) (slots2 := 0) (by decide)) [9, 10] [0, 1, 2, 3, 4, 5, 6, 7, 8] rfl rfl (by decide) (cells2 := 0) (slots2 := 0) (by decide) (fun u11 H locs w => ?_)
  have w : Wd s G A [(q9, .inl (G.2.2.1, 3000, .inr (.inl (vp_updL (vp_updL (vp_updL (vp_updL (vp_updL (vp_updL (vp_updL (fun _ => 0) 0 1) 0 0) 0 0) 0 0) 0 0) 0 0) 0 0)))), (q10, .inl (G.2.2.1, 3000, .inr (.inl (fun _ => 0)))), (q1, .inl (G.2.1, 4096, .inl (upd (fun _ => (-1)) 0 0))), (q2, .inl (G.2.1, 57, .inl (fun _ => 0))), (q3, .inl (G.2.1, 8, .inl (fun _ => 0))), (q4, .inl (G.2.1, 24008, .inl (fun _ => 0))), (q5, .inl (G.2.1, 3000, .inl (upd (fun _ => 0) 0 (-1)))), (q6, .inl (G.2.1, 3000, .inl (upd (fun _ => 0) 0 (-1)))), (q7, .inl (G.2.1, 3000, .inl (upd (fun _ => 0) 0 (-1)))), (q0, .inr (12, [.int 0, .int 0, .int 0, .int 0, .int 0, .int 0, .int 0, .int (-1), .ref q11, .ref q8, .ref q12, .int 0, .ref q13, .ref q14, .ref q15, .ref q16, .ref q17, .ref q2, .ref q18, .int 0, .ref q3, .ref q4, .ref q19, .ref q6, .ref q7, .ref q1, .ref q5, .int 1, .int (-1), .int 0, .ref q20, .ref q21, .ref q22, .ref q23, .ref q24, .ref q25, .ref q26, .ref q27, .int 0, .ref q28, .ref q9, .ref q10, .ref q29, .ref q30, .int 0, .ref q31, .ref q32, .ref q33, .ref q34, .int 0, .ref q35, .ref q36, .ref q37, .ref q38, .int 0, .int 0, .ref q39, .ref q40, .ref q41, .ref q42])), (q8, .inl (G.2.1, 242, .inl (fun _ => 0)))] H locs := w
  refine lv_icmp_ge (tgt := 186) hx hb dX12_rows_132 (by decide) (fun _ => ?_) (fun h => absurd (by decide) h)
  refine lv_iinc (v := 1) (lv' := [(4, .int 1), (5, .int 0), (3, .int 6), (0, .ref q0), (1, .int x0), (2, .int x1)]) hx hb dX12_rows_186 hl (k := 1) rfl (by decide +kernel) (by decide) rfl (fun ls hl => ?_)
  refine lv_goto (tgt := 114) hx hb dX12_rows_189 (by decide) ?_
  refine lv_iload hx hb dX12_rows_114 (lv_at hl 0 rfl) ?_
  refine lv_aload_n hx hb dX12_rows_116 rfl (lv_at hl 3 rfl) ?_
  refine r_get C w 9 rfl fr_X12_322 rfl dX12_rows_117 ?_
  refine lv_icmp_ge (tgt := 192) hx hb dX12_rows_120 (by decide) (fun _ => ?_) (fun h => absurd (by decide) h)
  refine lv_iconst (v := 0) hx hb dX12_rows_192 (by decide) ?_
  refine lv_istore (lv' := [(4, .int 0), (5, .int 0), (3, .int 6), (0, .ref q0), (1, .int x0), (2, .int x1)]) hx hb dX12_rows_193 hl (by decide) rfl (fun ls hl => ?_)
  refine lv_iload hx hb dX12_rows_195 (lv_at hl 0 rfl) ?_
  refine lv_aload_n hx hb dX12_rows_197 rfl (lv_at hl 3 rfl) ?_
  refine r_get C w 9 rfl fr_X12_322 rfl dX12_rows_198 ?_
  refine lv_icmp_ge (tgt := 224) hx hb dX12_rows_201 (by decide) (fun h => absurd h (by decide)) (fun _ => ?_)
  refine lv_aload_n hx hb dX12_rows_204 rfl (lv_at hl 3 rfl) ?_
  refine r_get C w 9 rfl fr_X12_99 rfl dX12_rows_205 ?_
  refine lv_iload hx hb dX12_rows_208 (lv_at hl 0 rfl) ?_
  refine lv_aload_n hx hb dX12_rows_210 rfl (lv_at hl 3 rfl) ?_
  refine r_get C w 9 rfl fr_X12_103 rfl dX12_rows_211 ?_
  refine lv_iload hx hb dX12_rows_214 (lv_at hl 0 rfl) ?_
  refine r_lald C w 1 rfl (IX.of (k := 0) (by decide +kernel)) (v := 0) rfl dX12_rows_216 ?_
  refine r_last C w 0 rfl (IX.of (k := 0) (by decide +kernel)) (g := (vp_updL (vp_updL (vp_updL (vp_updL (vp_updL (vp_updL (vp_updL (vp_updL (fun _ => 0) 0 1) 0 0) 0 0) 0 0) 0 0) 0 0) 0 0) 0 0)) rfl dX12_rows_217 (ws2 := [(q9, .inl (G.2.2.1, 3000, .inr (.inl (vp_updL (vp_updL (vp_updL (vp_updL (vp_updL (vp_updL (vp_updL (vp_updL (fun _ => 0) 0 1) 0 0) 0 0) 0 0) 0 0) 0 0) 0 0) 0 0)))), (q10, .inl (G.2.2.1, 3000, .inr (.inl (fun _ => 0)))), (q1, .inl (G.2.1, 4096, .inl (upd (fun _ => (-1)) 0 0))), (q2, .inl (G.2.1, 57, .inl (fun _ => 0))), (q3, .inl (G.2.1, 8, .inl (fun _ => 0))), (q4, .inl (G.2.1, 24008, .inl (fun _ => 0))), (q5, .inl (G.2.1, 3000, .inl (upd (fun _ => 0) 0 (-1)))), (q6, .inl (G.2.1, 3000, .inl (upd (fun _ => 0) 0 (-1)))), (q7, .inl (G.2.1, 3000, .inl (upd (fun _ => 0) 0 (-1)))), (q0, .inr (12, [.int 0, .int 0, .int 0, .int 0, .int 0, .int 0, .int 0, .int (-1), .ref q11, .ref q8, .ref q12, .int 0, .ref q13, .ref q14, .ref q15, .ref q16, .ref q17, .ref q2, .ref q18, .int 0, .ref q3, .ref q4, .ref q19, .ref q6, .ref q7, .ref q1, .ref q5, .int 1, .int (-1), .int 0, .ref q20, .ref q21, .ref q22, .ref q23, .ref q24, .ref q25, .ref q26, .ref q27, .int 0, .ref q28, .ref q9, .ref q10, .ref q29, .ref q30, .int 0, .ref q31, .ref q32, .ref q33, .ref q34, .int 0, .ref q35, .ref q36, .ref q37, .ref q38, .int 0, .int 0, .ref q39, .ref q40, .ref q41, .ref q42])), (q8, .inl (G.2.1, 242, .inl (fun _ => 0)))]) rfl (fun H locs w => ?_)
  refine lv_iinc (v := 1) (lv' := [(4, .int 1), (5, .int 0), (3, .int 6), (0, .ref q0), (1, .int x0), (2, .int x1)]) hx hb dX12_rows_218 hl (k := 0) rfl (by decide +kernel) (by decide) rfl (fun ls hl => ?_)
  refine lv_goto (tgt := 195) hx hb dX12_rows_221 (by decide) ?_
  refine lv_iload hx hb dX12_rows_195 (lv_at hl 0 rfl) ?_
  refine lv_aload_n hx hb dX12_rows_197 rfl (lv_at hl 3 rfl) ?_
  refine r_get C w 9 rfl fr_X12_322 rfl dX12_rows_198 ?_
  refine lv_icmp_ge (tgt := 224) hx hb dX12_rows_201 (by decide) (fun _ => ?_) (fun h => absurd (by decide) h)
  refine lv_iinc (v := 7) (lv' := [(3, .int 7), (4, .int 1), (5, .int 0), (0, .ref q0), (1, .int x0), (2, .int x1)]) hx hb dX12_rows_224 hl (k := 2) rfl (by decide +kernel) (by decide) rfl (fun ls hl => ?_)
  refine lv_goto (tgt := 80) hx hb dX12_rows_227 (by decide) ?_
  refine lv_iload_n hx hb dX12_rows_80 rfl (lv_at hl 0 rfl) ?_
  refine lv_iload_n hx hb dX12_rows_81 rfl (lv_at hl 5 rfl) ?_
  refine lv_icmp_ge (tgt := 230) hx hb dX12_rows_82 (by decide) (fun h => absurd h (Int32.not_le.mpr h9)) (fun _ => ?_)
  refine lv_iconst (v := 0) hx hb dX12_rows_85 (by decide) ?_
  refine lv_istore (lv' := [(4, .int 0), (3, .int 7), (5, .int 0), (0, .ref q0), (1, .int x0), (2, .int x1)]) hx hb dX12_rows_86 hl (by decide) rfl (fun ls hl => ?_)
  refine lv_iload hx hb dX12_rows_88 (lv_at hl 0 rfl) ?_
  refine lv_aload_n hx hb dX12_rows_90 rfl (lv_at hl 3 rfl) ?_
  refine r_get C w 9 rfl fr_X12_322 rfl dX12_rows_91 ?_
  refine lv_icmp_ge (tgt := 111) hx hb dX12_rows_94 (by decide) (fun h => absurd h (by decide)) (fun _ => ?_)
  refine lv_aload_n hx hb dX12_rows_97 rfl (lv_at hl 3 rfl) ?_
  refine r_get C w 9 rfl fr_X12_103 rfl dX12_rows_98 ?_
  refine lv_iload hx hb dX12_rows_101 (lv_at hl 0 rfl) ?_
  refine lv_lconst (v := 0) hx hb dX12_rows_103 (by decide) ?_
  refine r_last C w 1 rfl (IX.of (k := 0) (by decide +kernel)) (g := (fun _ => 0)) (updL_c _ _) dX12_rows_104 (ws2 := [(q9, .inl (G.2.2.1, 3000, .inr (.inl (vp_updL (vp_updL (vp_updL (vp_updL (vp_updL (vp_updL (vp_updL (vp_updL (fun _ => 0) 0 1) 0 0) 0 0) 0 0) 0 0) 0 0) 0 0) 0 0)))), (q10, .inl (G.2.2.1, 3000, .inr (.inl (fun _ => 0)))), (q1, .inl (G.2.1, 4096, .inl (upd (fun _ => (-1)) 0 0))), (q2, .inl (G.2.1, 57, .inl (fun _ => 0))), (q3, .inl (G.2.1, 8, .inl (fun _ => 0))), (q4, .inl (G.2.1, 24008, .inl (fun _ => 0))), (q5, .inl (G.2.1, 3000, .inl (upd (fun _ => 0) 0 (-1)))), (q6, .inl (G.2.1, 3000, .inl (upd (fun _ => 0) 0 (-1)))), (q7, .inl (G.2.1, 3000, .inl (upd (fun _ => 0) 0 (-1)))), (q0, .inr (12, [.int 0, .int 0, .int 0, .int 0, .int 0, .int 0, .int 0, .int (-1), .ref q11, .ref q8, .ref q12, .int 0, .ref q13, .ref q14, .ref q15, .ref q16, .ref q17, .ref q2, .ref q18, .int 0, .ref q3, .ref q4, .ref q19, .ref q6, .ref q7, .ref q1, .ref q5, .int 1, .int (-1), .int 0, .ref q20, .ref q21, .ref q22, .ref q23, .ref q24, .ref q25, .ref q26, .ref q27, .int 0, .ref q28, .ref q9, .ref q10, .ref q29, .ref q30, .int 0, .ref q31, .ref q32, .ref q33, .ref q34, .int 0, .ref q35, .ref q36, .ref q37, .ref q38, .int 0, .int 0, .ref q39, .ref q40, .ref q41, .ref q42])), (q8, .inl (G.2.1, 242, .inl (fun _ => 0)))]) rfl (fun H locs w => ?_)
  refine lv_iinc (v := 1) (lv' := [(4, .int 1), (3, .int 7), (5, .int 0), (0, .ref q0), (1, .int x0), (2, .int x1)]) hx hb dX12_rows_105 hl (k := 0) rfl (by decide +kernel) (by decide) rfl (fun ls hl => ?_)
  refine lv_goto (tgt := 88) hx hb dX12_rows_108 (by decide) ?_
  refine lv_iload hx hb dX12_rows_88 (lv_at hl 0 rfl) ?_
  refine lv_aload_n hx hb dX12_rows_90 rfl (lv_at hl 3 rfl) ?_
  refine r_get C w 9 rfl fr_X12_322 rfl dX12_rows_91 ?_
  refine lv_icmp_ge (tgt := 111) hx hb dX12_rows_94 (by decide) (fun _ => ?_) (fun h => absurd (by decide) h)
  refine lv_iconst (v := 0) hx hb dX12_rows_111 (by decide) ?_
  refine lv_istore (lv' := [(4, .int 0), (3, .int 7), (5, .int 0), (0, .ref q0), (1, .int x0), (2, .int x1)]) hx hb dX12_rows_112 hl (by decide) rfl (fun ls hl => ?_)
  refine lv_iload hx hb dX12_rows_114 (lv_at hl 0 rfl) ?_
  refine lv_aload_n hx hb dX12_rows_116 rfl (lv_at hl 3 rfl) ?_
  refine r_get C w 9 rfl fr_X12_322 rfl dX12_rows_117 ?_
  refine lv_icmp_ge (tgt := 192) hx hb dX12_rows_120 (by decide) (fun h => absurd h (by decide)) (fun _ => ?_)
  refine lv_iconst (v := 0) hx hb dX12_rows_123 (by decide) ?_
  refine lv_istore (lv' := [(5, .int 0), (4, .int 0), (3, .int 7), (0, .ref q0), (1, .int x0), (2, .int x1)]) hx hb dX12_rows_124 hl (by decide) rfl (fun ls hl => ?_)
  refine lv_iload hx hb dX12_rows_126 (lv_at hl 0 rfl) ?_
  refine lv_aload_n hx hb dX12_rows_128 rfl (lv_at hl 3 rfl) ?_
  refine fin_i C w (run_V C w mv_X12_286 (k123_acts C.b0 q0 q8 q11 q12 q13 q14 q15 q16 q17 q2 q18 q3 q4 q19 q6 q7 q1 q5 q20 q21 q22 q23 q24 q25 q26 q27 q28 q9 q10 q29 q30 q31 q32 q33 q34 q35 q36 q37 q38 q39 q40 q41 q42 H.size) [9, 10] rfl rfl 9 rfl rfl (by decide) rfl hl.1 rfl (Nat.le_of_ble_eq_true rfl) dX12_rows_129 (cells2 := 0) (slots2 := 0) (by decide)) [9, 10] [0, 1, 2, 3, 4, 5, 6, 7, 8] rfl rfl (by decide) (cells2 := 0) (slots2 := 0) (by decide) (fun u12 H locs w => ?_)
  have w : Wd s G A [(q9, .inl (G.2.2.1, 3000, .inr (.inl (vp_updL (vp_updL (vp_updL (vp_updL (vp_updL (vp_updL (vp_updL (vp_updL (fun _ => 0) 0 1) 0 0) 0 0) 0 0) 0 0) 0 0) 0 0) 0 0)))), (q10, .inl (G.2.2.1, 3000, .inr (.inl (fun _ => 0)))), (q1, .inl (G.2.1, 4096, .inl (upd (fun _ => (-1)) 0 0))), (q2, .inl (G.2.1, 57, .inl (fun _ => 0))), (q3, .inl (G.2.1, 8, .inl (fun _ => 0))), (q4, .inl (G.2.1, 24008, .inl (fun _ => 0))), (q5, .inl (G.2.1, 3000, .inl (upd (fun _ => 0) 0 (-1)))), (q6, .inl (G.2.1, 3000, .inl (upd (fun _ => 0) 0 (-1)))), (q7, .inl (G.2.1, 3000, .inl (upd (fun _ => 0) 0 (-1)))), (q0, .inr (12, [.int 0, .int 0, .int 0, .int 0, .int 0, .int 0, .int 0, .int (-1), .ref q11, .ref q8, .ref q12, .int 0, .ref q13, .ref q14, .ref q15, .ref q16, .ref q17, .ref q2, .ref q18, .int 0, .ref q3, .ref q4, .ref q19, .ref q6, .ref q7, .ref q1, .ref q5, .int 1, .int (-1), .int 0, .ref q20, .ref q21, .ref q22, .ref q23, .ref q24, .ref q25, .ref q26, .ref q27, .int 0, .ref q28, .ref q9, .ref q10, .ref q29, .ref q30, .int 0, .ref q31, .ref q32, .ref q33, .ref q34, .int 0, .ref q35, .ref q36, .ref q37, .ref q38, .int 0, .int 0, .ref q39, .ref q40, .ref q41, .ref q42])), (q8, .inl (G.2.1, 242, .inl (fun _ => 0)))] H locs := w
  refine lv_icmp_ge (tgt := 186) hx hb dX12_rows_132 (by decide) (fun _ => ?_) (fun h => absurd (by decide) h)
  refine lv_iinc (v := 1) (lv' := [(4, .int 1), (5, .int 0), (3, .int 7), (0, .ref q0), (1, .int x0), (2, .int x1)]) hx hb dX12_rows_186 hl (k := 1) rfl (by decide +kernel) (by decide) rfl (fun ls hl => ?_)
  refine lv_goto (tgt := 114) hx hb dX12_rows_189 (by decide) ?_
  refine lv_iload hx hb dX12_rows_114 (lv_at hl 0 rfl) ?_
  refine lv_aload_n hx hb dX12_rows_116 rfl (lv_at hl 3 rfl) ?_
  refine r_get C w 9 rfl fr_X12_322 rfl dX12_rows_117 ?_
  refine lv_icmp_ge (tgt := 192) hx hb dX12_rows_120 (by decide) (fun _ => ?_) (fun h => absurd (by decide) h)
  refine lv_iconst (v := 0) hx hb dX12_rows_192 (by decide) ?_
  refine lv_istore (lv' := [(4, .int 0), (5, .int 0), (3, .int 7), (0, .ref q0), (1, .int x0), (2, .int x1)]) hx hb dX12_rows_193 hl (by decide) rfl (fun ls hl => ?_)
  refine lv_iload hx hb dX12_rows_195 (lv_at hl 0 rfl) ?_
  refine lv_aload_n hx hb dX12_rows_197 rfl (lv_at hl 3 rfl) ?_
  refine r_get C w 9 rfl fr_X12_322 rfl dX12_rows_198 ?_
  refine lv_icmp_ge (tgt := 224) hx hb dX12_rows_201 (by decide) (fun h => absurd h (by decide)) (fun _ => ?_)
  refine lv_aload_n hx hb dX12_rows_204 rfl (lv_at hl 3 rfl) ?_
  refine r_get C w 9 rfl fr_X12_99 rfl dX12_rows_205 ?_
  refine lv_iload hx hb dX12_rows_208 (lv_at hl 0 rfl) ?_
  refine lv_aload_n hx hb dX12_rows_210 rfl (lv_at hl 3 rfl) ?_
  refine r_get C w 9 rfl fr_X12_103 rfl dX12_rows_211 ?_
  refine lv_iload hx hb dX12_rows_214 (lv_at hl 0 rfl) ?_
  refine r_lald C w 1 rfl (IX.of (k := 0) (by decide +kernel)) (v := 0) rfl dX12_rows_216 ?_
  refine r_last C w 0 rfl (IX.of (k := 0) (by decide +kernel)) (g := (vp_updL (vp_updL (vp_updL (vp_updL (vp_updL (vp_updL (vp_updL (vp_updL (vp_updL (fun _ => 0) 0 1) 0 0) 0 0) 0 0) 0 0) 0 0) 0 0) 0 0) 0 0)) rfl dX12_rows_217 (ws2 := [(q9, .inl (G.2.2.1, 3000, .inr (.inl (vp_updL (vp_updL (vp_updL (vp_updL (vp_updL (vp_updL (vp_updL (vp_updL (vp_updL (fun _ => 0) 0 1) 0 0) 0 0) 0 0) 0 0) 0 0) 0 0) 0 0) 0 0)))), (q10, .inl (G.2.2.1, 3000, .inr (.inl (fun _ => 0)))), (q1, .inl (G.2.1, 4096, .inl (upd (fun _ => (-1)) 0 0))), (q2, .inl (G.2.1, 57, .inl (fun _ => 0))), (q3, .inl (G.2.1, 8, .inl (fun _ => 0))), (q4, .inl (G.2.1, 24008, .inl (fun _ => 0))), (q5, .inl (G.2.1, 3000, .inl (upd (fun _ => 0) 0 (-1)))), (q6, .inl (G.2.1, 3000, .inl (upd (fun _ => 0) 0 (-1)))), (q7, .inl (G.2.1, 3000, .inl (upd (fun _ => 0) 0 (-1)))), (q0, .inr (12, [.int 0, .int 0, .int 0, .int 0, .int 0, .int 0, .int 0, .int (-1), .ref q11, .ref q8, .ref q12, .int 0, .ref q13, .ref q14, .ref q15, .ref q16, .ref q17, .ref q2, .ref q18, .int 0, .ref q3, .ref q4, .ref q19, .ref q6, .ref q7, .ref q1, .ref q5, .int 1, .int (-1), .int 0, .ref q20, .ref q21, .ref q22, .ref q23, .ref q24, .ref q25, .ref q26, .ref q27, .int 0, .ref q28, .ref q9, .ref q10, .ref q29, .ref q30, .int 0, .ref q31, .ref q32, .ref q33, .ref q34, .int 0, .ref q35, .ref q36, .ref q37, .ref q38, .int 0, .int 0, .ref q39, .ref q40, .ref q41, .ref q42])), (q8, .inl (G.2.1, 242, .inl (fun _ => 0)))]) rfl (fun H locs w => ?_)
  refine lv_iinc (v := 1) (lv' := [(4, .int 1), (5, .int 0), (3, .int 7), (0, .ref q0), (1, .int x0), (2, .int x1)]) hx hb dX12_rows_218 hl (k := 0) rfl (by decide +kernel) (by decide) rfl (fun ls hl => ?_)
  refine lv_goto (tgt := 195) hx hb dX12_rows_221 (by decide) ?_
  refine lv_iload hx hb dX12_rows_195 (lv_at hl 0 rfl) ?_
  refine lv_aload_n hx hb dX12_rows_197 rfl (lv_at hl 3 rfl) ?_
  refine r_get C w 9 rfl fr_X12_322 rfl dX12_rows_198 ?_
  refine lv_icmp_ge (tgt := 224) hx hb dX12_rows_201 (by decide) (fun _ => ?_) (fun h => absurd (by decide) h)
  refine lv_iinc (v := 8) (lv' := [(3, .int 8), (4, .int 1), (5, .int 0), (0, .ref q0), (1, .int x0), (2, .int x1)]) hx hb dX12_rows_224 hl (k := 2) rfl (by decide +kernel) (by decide) rfl (fun ls hl => ?_)
  refine lv_goto (tgt := 80) hx hb dX12_rows_227 (by decide) ?_
  refine lv_iload_n hx hb dX12_rows_80 rfl (lv_at hl 0 rfl) ?_
  refine lv_iload_n hx hb dX12_rows_81 rfl (lv_at hl 5 rfl) ?_
  refine lv_icmp_ge (tgt := 230) hx hb dX12_rows_82 (by decide) (fun _ => ?_) (fun h => absurd (Int32.not_lt.mp h10) h)
  refine lv_lconst (v := 0) hx hb dX12_rows_230 (by decide) ?_
  refine lv_lstore_n (lv' := [(3, .long 0), (5, .int 0), (0, .ref q0), (1, .int x0), (2, .int x1)]) hx hb dX12_rows_231 rfl hl (by decide) rfl (fun ls hl => ?_)
  refine lv_iconst (v := 0) hx hb dX12_rows_232 (by decide) ?_
  refine lv_istore (lv' := [(5, .int 0), (3, .long 0), (0, .ref q0), (1, .int x0), (2, .int x1)]) hx hb dX12_rows_233 hl (by decide) rfl (fun ls hl => ?_)
  refine lv_iload hx hb dX12_rows_235 (lv_at hl 0 rfl) ?_
  refine lv_aload_n hx hb dX12_rows_237 rfl (lv_at hl 2 rfl) ?_
  refine r_get C w 9 rfl fr_X12_322 rfl dX12_rows_238 ?_
  refine lv_icmp_ge (tgt := 260) hx hb dX12_rows_241 (by decide) (fun h => absurd h (by decide)) (fun _ => ?_)
  refine lv_lload_n hx hb dX12_rows_244 rfl (lv_at hl 1 rfl) ?_
  refine lv_aload_n hx hb dX12_rows_245 rfl (lv_at hl 2 rfl) ?_
  refine r_get C w 9 rfl fr_X12_99 rfl dX12_rows_246 ?_
  refine lv_iload hx hb dX12_rows_249 (lv_at hl 0 rfl) ?_
  refine r_lald C w 0 rfl (IX.of (k := 0) (by decide +kernel)) (v := 0) rfl dX12_rows_251 ?_
  refine lv_ladd hx hb dX12_rows_252 ?_
  refine z_l (v := 0) (by decide +kernel) ?_
  refine lv_lstore_n (lv' := [(3, .long 0), (5, .int 0), (0, .ref q0), (1, .int x0), (2, .int x1)]) hx hb dX12_rows_253 rfl hl (by decide) rfl (fun ls hl => ?_)
  refine lv_iinc (v := 1) (lv' := [(5, .int 1), (3, .long 0), (0, .ref q0), (1, .int x0), (2, .int x1)]) hx hb dX12_rows_254 hl (k := 1) rfl (by decide +kernel) (by decide) rfl (fun ls hl => ?_)
  refine lv_goto (tgt := 235) hx hb dX12_rows_257 (by decide) ?_
  refine lv_iload hx hb dX12_rows_235 (lv_at hl 0 rfl) ?_
  refine lv_aload_n hx hb dX12_rows_237 rfl (lv_at hl 2 rfl) ?_
  refine r_get C w 9 rfl fr_X12_322 rfl dX12_rows_238 ?_
  refine lv_icmp_ge (tgt := 260) hx hb dX12_rows_241 (by decide) (fun _ => ?_) (fun h => absurd (by decide) h)
  refine lv_lload_n hx hb dX12_rows_260 rfl (lv_at hl 1 rfl) ?_
  exact e_l C hr w (fun _ => 0) [9, 2, 3, 4, 5, 6, 7, 8, 10, 0, 1] rfl rfl dX12_rows_261 (by decide) (by decide)
set_option maxRecDepth 100000 in
set_option maxHeartbeats 4000000 in
theorem k349_rowsOfLength {l : Launch} {s0 : State} {a0 : Array Value} {G : GT} (b0 : B0 l s0 a0 G) (q0 q1 q2 q3 q4 q5 q6 q7 q8 q9 q10 q11 q12 q13 q14 q15 q16 q17 q18 q19 q20 q21 q22 q23 q24 q25 q26 q27 q28 q29 q30 q31 q32 q33 q34 q35 q36 q37 q38 : Nat) (x0 : Int32) (h0 : 0 < x0) (h1 : 1 < x0) (h2 : 2 < x0) (h3 : 3 < x0) (h4 : 4 < x0) (h5 : 5 < x0) (h6 : 6 < x0) (h7 : ¬ 7 < x0) (sz : Nat) : Kl l s0 G yX6_rowsOfLength cX6_rowsOfLength 5 (some .long) { frames := 2, cells := 0, slots := 0, locals := 50 } [.ref q0, .int x0] [(q0, .inr (6, [.int (-1), .ref q3, .ref q7, .ref q8, .ref q9, .ref q10, .ref q11, .ref q12, .ref q13, .ref q14, .ref q15, .ref q16, .ref q17, .ref q18, .ref q1, .ref q2, .int 0, .int 0, .int 0, .int 0])), (q1, .inl (G.2.2.1, 3008, .inr (.inl (fun _ => 0)))), (q2, .inl (G.2.2.1, 3008, .inr (.inl (fun _ => 0)))), (q3, .inr (1, [.int 0, .ref q6, .ref q19, .ref q4, .ref q5, .ref q20, .ref q21, .ref q22, .int 1])), (q4, .inr (7, [.ref q23, .int 0, .int 1, .int 3008, .ref q24])), (q5, .inl (G.2.1, 3008, .inl (fun _ => 0))), (q6, .inr (2, [.int 0, .int 0, .ref q25, .ref q26, .ref q27, .ref q28, .ref q29, .ref q30, .ref q31, .ref q32, .ref q33, .ref q34, .ref q35, .ref q36, .ref q37, .ref q38, .int 0]))] sz 0 (fun u => [(q0, .inr (6, [.int (-1), .ref q3, .ref q7, .ref q8, .ref q9, .ref q10, .ref q11, .ref q12, .ref q13, .ref q14, .ref q15, .ref q16, .ref q17, .ref q18, .ref q2, .ref q1, .int 0, .int 0, .int 0, .int 0])), (q1, .inl (G.2.2.1, 3008, .inr (.inl (fun _ => 0)))), (q2, .inl (G.2.2.1, 3008, .inr (.inl (fun _ => 0)))), (q3, .inr (1, [.int 0, .ref q6, .ref q19, .ref q4, .ref q5, .ref q20, .ref q21, .ref q22, .int 1])), (q4, .inr (7, [.ref q23, .int 0, .int 1, .int 3008, .ref q24])), (q5, .inl (G.2.1, 3008, .inl (fun _ => 0))), (q6, .inr (2, [.int 0, .int 0, .ref q25, .ref q26, .ref q27, .ref q28, .ref q29, .ref q30, .ref q31, .ref q32, .ref q33, .ref q34, .ref q35, .ref q36, .ref q37, .ref q38, .int 0]))]) := by
  refine Kl.of b0 (own := RX6) (nm := "rowsOfLength") [(0, .ref q0), (1, .int x0)] rfl rfl (by decide +kernel) (Nat.le_of_ble_eq_true rfl) rfl ?_
  intro p e s m below meth c A C hr H locs w ls hl
  have hx := C.hx
  have hb := C.hb
  refine lv_aload_n hx hb dX6_rowsOfLength_0 rfl (lv_at hl 0 rfl) ?_
  refine r_get C w 0 rfl fr_X6_54 rfl dX6_rowsOfLength_1 ?_
  refine lv_lconst (v := 0) hx hb dX6_rowsOfLength_4 (by decide) ?_
  refine fin_v C w (run_S C w ms_X6_142 (k_fillJ C.b0 q1 3008 (by decide) (fun _ => 0) 0 H.size) [1] rfl rfl (by decide) rfl hl.1 rfl (Nat.le_of_ble_eq_true rfl) dX6_rowsOfLength_5 (cells2 := 0) (slots2 := 0) (by decide)) [1] [0, 2, 3, 4, 5, 6] rfl rfl (by decide) (cells2 := 0) (slots2 := 0) (by decide) (fun u1 H locs w => ?_)
  have w : Wd s G A [(q0, .inr (6, [.int (-1), .ref q3, .ref q7, .ref q8, .ref q9, .ref q10, .ref q11, .ref q12, .ref q13, .ref q14, .ref q15, .ref q16, .ref q17, .ref q18, .ref q1, .ref q2, .int 0, .int 0, .int 0, .int 0])), (q2, .inl (G.2.2.1, 3008, .inr (.inl (fun _ => 0)))), (q3, .inr (1, [.int 0, .ref q6, .ref q19, .ref q4, .ref q5, .ref q20, .ref q21, .ref q22, .int 1])), (q4, .inr (7, [.ref q23, .int 0, .int 1, .int 3008, .ref q24])), (q5, .inl (G.2.1, 3008, .inl (fun _ => 0))), (q6, .inr (2, [.int 0, .int 0, .ref q25, .ref q26, .ref q27, .ref q28, .ref q29, .ref q30, .ref q31, .ref q32, .ref q33, .ref q34, .ref q35, .ref q36, .ref q37, .ref q38, .int 0])), (q1, .inl (G.2.2.1, 3008, .inr (.inl (fun _ => 0))))] H locs := w
  refine lv_aload_n hx hb dX6_rowsOfLength_8 rfl (lv_at hl 0 rfl) ?_
  refine r_get C w 0 rfl fr_X6_54 rfl dX6_rowsOfLength_9 ?_
  refine lv_iconst (v := 0) hx hb dX6_rowsOfLength_12 (by decide) ?_
  refine lv_lconst (v := 1) hx hb dX6_rowsOfLength_13 (by decide) ?_
  refine r_last C w 6 rfl (IX.of (k := 0) (by decide +kernel)) (g := (vp_updL (fun _ => 0) 0 1)) rfl dX6_rowsOfLength_14 (ws2 := [(q0, .inr (6, [.int (-1), .ref q3, .ref q7, .ref q8, .ref q9, .ref q10, .ref q11, .ref q12, .ref q13, .ref q14, .ref q15, .ref q16, .ref q17, .ref q18, .ref q1, .ref q2, .int 0, .int 0, .int 0, .int 0])), (q2, .inl (G.2.2.1, 3008, .inr (.inl (fun _ => 0)))), (q3, .inr (1, [.int 0, .ref q6, .ref q19, .ref q4, .ref q5, .ref q20, .ref q21, .ref q22, .int 1])), (q4, .inr (7, [.ref q23, .int 0, .int 1, .int 3008, .ref q24])), (q5, .inl (G.2.1, 3008, .inl (fun _ => 0))), (q6, .inr (2, [.int 0, .int 0, .ref q25, .ref q26, .ref q27, .ref q28, .ref q29, .ref q30, .ref q31, .ref q32, .ref q33, .ref q34, .ref q35, .ref q36, .ref q37, .ref q38, .int 0])), (q1, .inl (G.2.2.1, 3008, .inr (.inl (vp_updL (fun _ => 0) 0 1))))]) rfl (fun H locs w => ?_)
  refine lv_lconst (v := 1) hx hb dX6_rowsOfLength_15 (by decide) ?_
  refine lv_lstore_n (lv' := [(2, .long 1), (0, .ref q0), (1, .int x0)]) hx hb dX6_rowsOfLength_16 rfl hl (by decide) rfl (fun ls hl => ?_)
  refine lv_iconst (v := 0) hx hb dX6_rowsOfLength_17 (by decide) ?_
  refine lv_istore (lv' := [(4, .int 0), (2, .long 1), (0, .ref q0), (1, .int x0)]) hx hb dX6_rowsOfLength_18 hl (by decide) rfl (fun ls hl => ?_)
  refine lv_iload hx hb dX6_rowsOfLength_20 (lv_at hl 0 rfl) ?_
  refine lv_iload_n hx hb dX6_rowsOfLength_22 rfl (lv_at hl 3 rfl) ?_
  refine lv_icmp_ge (tgt := 39) hx hb dX6_rowsOfLength_23 (by decide) (fun h => absurd h (Int32.not_le.mpr h0)) (fun _ => ?_)
  refine lv_aload_n hx hb dX6_rowsOfLength_26 rfl (lv_at hl 2 rfl) ?_
  refine lv_iload hx hb dX6_rowsOfLength_27 (lv_at hl 0 rfl) ?_
  refine fin_l C w (run_V C w mv_X6_145 (k276_lengthen C.b0 q0 q2 q3 q4 q5 q6 q7 q8 q9 q10 q11 q12 q13 q14 q15 q16 q17 q18 q1 q19 q20 q21 q22 q23 q24 q25 q26 q27 q28 q29 q30 q31 q32 q33 q34 q35 q36 q37 q38 H.size) [0, 1, 2, 3, 4, 5] rfl rfl 0 rfl rfl (by decide) rfl hl.1 rfl (Nat.le_of_ble_eq_true rfl) dX6_rowsOfLength_29 (cells2 := 0) (slots2 := 0) (by decide)) [0, 1, 2, 3, 4, 5] [6] rfl rfl (by decide) (cells2 := 0) (slots2 := 0) (by decide) (fun u2 H locs w => ?_)
  have w : Wd s G A [(q1, .inl (G.2.2.1, 3008, .inr (.inl (vp_updL (fun _ => 0) 0 1)))), (q0, .inr (6, [.int (-1), .ref q3, .ref q7, .ref q8, .ref q9, .ref q10, .ref q11, .ref q12, .ref q13, .ref q14, .ref q15, .ref q16, .ref q17, .ref q18, .ref q2, .ref q1, .int 0, .int 0, .int 0, .int 0])), (q2, .inl (G.2.2.1, 3008, .inr (.inl (fun _ => 0)))), (q3, .inr (1, [.int 0, .ref q6, .ref q19, .ref q4, .ref q5, .ref q20, .ref q21, .ref q22, .int 1])), (q4, .inr (7, [.ref q23, .int 0, .int 1, .int 3008, .ref q24])), (q5, .inl (G.2.1, 3008, .inl (fun _ => 0))), (q6, .inr (2, [.int 0, .int 0, .ref q25, .ref q26, .ref q27, .ref q28, .ref q29, .ref q30, .ref q31, .ref q32, .ref q33, .ref q34, .ref q35, .ref q36, .ref q37, .ref q38, .int 0]))] H locs := w
  refine lv_lstore_n (lv' := [(2, .long 0), (4, .int 0), (0, .ref q0), (1, .int x0)]) hx hb dX6_rowsOfLength_32 rfl hl (by decide) rfl (fun ls hl => ?_)
  refine lv_iinc (v := 1) (lv' := [(4, .int 1), (2, .long 0), (0, .ref q0), (1, .int x0)]) hx hb dX6_rowsOfLength_33 hl (k := 1) rfl (by decide +kernel) (by decide) rfl (fun ls hl => ?_)
  refine lv_goto (tgt := 20) hx hb dX6_rowsOfLength_36 (by decide) ?_
  refine lv_iload hx hb dX6_rowsOfLength_20 (lv_at hl 0 rfl) ?_
  refine lv_iload_n hx hb dX6_rowsOfLength_22 rfl (lv_at hl 3 rfl) ?_
  refine lv_icmp_ge (tgt := 39) hx hb dX6_rowsOfLength_23 (by decide) (fun h => absurd h (Int32.not_le.mpr h1)) (fun _ => ?_)
  refine lv_aload_n hx hb dX6_rowsOfLength_26 rfl (lv_at hl 2 rfl) ?_
  refine lv_iload hx hb dX6_rowsOfLength_27 (lv_at hl 0 rfl) ?_
  refine fin_l C w (run_V C w mv_X6_145 (k277_lengthen C.b0 q0 q1 q3 q4 q5 q6 q7 q8 q9 q10 q11 q12 q13 q14 q15 q16 q17 q18 q2 q19 q20 q21 q22 q23 q24 q25 q26 q27 q28 q29 q30 q31 q32 q33 q34 q35 q36 q37 q38 (vp_updL (fun _ => 0) 0 1) H.size) [1, 0, 3, 4, 5, 6] rfl rfl 1 rfl rfl (by decide) rfl hl.1 rfl (Nat.le_of_ble_eq_true rfl) dX6_rowsOfLength_29 (cells2 := 0) (slots2 := 0) (by decide)) [1, 0, 3, 4, 5, 6] [2] rfl rfl (by decide) (cells2 := 0) (slots2 := 0) (by decide) (fun u3 H locs w => ?_)
  have w : Wd s G A [(q2, .inl (G.2.2.1, 3008, .inr (.inl (fun _ => 0)))), (q0, .inr (6, [.int (-1), .ref q3, .ref q7, .ref q8, .ref q9, .ref q10, .ref q11, .ref q12, .ref q13, .ref q14, .ref q15, .ref q16, .ref q17, .ref q18, .ref q1, .ref q2, .int 0, .int 0, .int 0, .int 0])), (q1, .inl (G.2.2.1, 3008, .inr (.inl (fun _ => 0)))), (q3, .inr (1, [.int 0, .ref q6, .ref q19, .ref q4, .ref q5, .ref q20, .ref q21, .ref q22, .int 1])), (q4, .inr (7, [.ref q23, .int 0, .int 1, .int 3008, .ref q24])), (q5, .inl (G.2.1, 3008, .inl (fun _ => 0))), (q6, .inr (2, [.int 0, .int 0, .ref q25, .ref q26, .ref q27, .ref q28, .ref q29, .ref q30, .ref q31, .ref q32, .ref q33, .ref q34, .ref q35, .ref q36, .ref q37, .ref q38, .int 0]))] H locs := w
  refine lv_lstore_n (lv' := [(2, .long 0), (4, .int 1), (0, .ref q0), (1, .int x0)]) hx hb dX6_rowsOfLength_32 rfl hl (by decide) rfl (fun ls hl => ?_)
  refine lv_iinc (v := 2) (lv' := [(4, .int 2), (2, .long 0), (0, .ref q0), (1, .int x0)]) hx hb dX6_rowsOfLength_33 hl (k := 1) rfl (by decide +kernel) (by decide) rfl (fun ls hl => ?_)
  refine lv_goto (tgt := 20) hx hb dX6_rowsOfLength_36 (by decide) ?_
  refine lv_iload hx hb dX6_rowsOfLength_20 (lv_at hl 0 rfl) ?_
  refine lv_iload_n hx hb dX6_rowsOfLength_22 rfl (lv_at hl 3 rfl) ?_
  refine lv_icmp_ge (tgt := 39) hx hb dX6_rowsOfLength_23 (by decide) (fun h => absurd h (Int32.not_le.mpr h2)) (fun _ => ?_)
  refine lv_aload_n hx hb dX6_rowsOfLength_26 rfl (lv_at hl 2 rfl) ?_
  refine lv_iload hx hb dX6_rowsOfLength_27 (lv_at hl 0 rfl) ?_
  refine fin_l C w (run_V C w mv_X6_145 (k278_lengthen C.b0 q0 q2 q3 q4 q5 q6 q7 q8 q9 q10 q11 q12 q13 q14 q15 q16 q17 q18 q1 q19 q20 q21 q22 q23 q24 q25 q26 q27 q28 q29 q30 q31 q32 q33 q34 q35 q36 q37 q38 H.size) [1, 0, 3, 4, 5, 6] rfl rfl 1 rfl rfl (by decide) rfl hl.1 rfl (Nat.le_of_ble_eq_true rfl) dX6_rowsOfLength_29 (cells2 := 0) (slots2 := 0) (by decide)) [1, 0, 3, 4, 5, 6] [2] rfl rfl (by decide) (cells2 := 0) (slots2 := 0) (by decide) (fun u4 H locs w => ?_)
  have w : Wd s G A [(q1, .inl (G.2.2.1, 3008, .inr (.inl (fun _ => 0)))), (q0, .inr (6, [.int (-1), .ref q3, .ref q7, .ref q8, .ref q9, .ref q10, .ref q11, .ref q12, .ref q13, .ref q14, .ref q15, .ref q16, .ref q17, .ref q18, .ref q2, .ref q1, .int 0, .int 0, .int 0, .int 0])), (q2, .inl (G.2.2.1, 3008, .inr (.inl (fun _ => 0)))), (q3, .inr (1, [.int 0, .ref q6, .ref q19, .ref q4, .ref q5, .ref q20, .ref q21, .ref q22, .int 1])), (q4, .inr (7, [.ref q23, .int 0, .int 1, .int 3008, .ref q24])), (q5, .inl (G.2.1, 3008, .inl (fun _ => 0))), (q6, .inr (2, [.int 0, .int 0, .ref q25, .ref q26, .ref q27, .ref q28, .ref q29, .ref q30, .ref q31, .ref q32, .ref q33, .ref q34, .ref q35, .ref q36, .ref q37, .ref q38, .int 0]))] H locs := w
  refine lv_lstore_n (lv' := [(2, .long 0), (4, .int 2), (0, .ref q0), (1, .int x0)]) hx hb dX6_rowsOfLength_32 rfl hl (by decide) rfl (fun ls hl => ?_)
  refine lv_iinc (v := 3) (lv' := [(4, .int 3), (2, .long 0), (0, .ref q0), (1, .int x0)]) hx hb dX6_rowsOfLength_33 hl (k := 1) rfl (by decide +kernel) (by decide) rfl (fun ls hl => ?_)
  refine lv_goto (tgt := 20) hx hb dX6_rowsOfLength_36 (by decide) ?_
  refine lv_iload hx hb dX6_rowsOfLength_20 (lv_at hl 0 rfl) ?_
  refine lv_iload_n hx hb dX6_rowsOfLength_22 rfl (lv_at hl 3 rfl) ?_
  refine lv_icmp_ge (tgt := 39) hx hb dX6_rowsOfLength_23 (by decide) (fun h => absurd h (Int32.not_le.mpr h3)) (fun _ => ?_)
  refine lv_aload_n hx hb dX6_rowsOfLength_26 rfl (lv_at hl 2 rfl) ?_
  refine lv_iload hx hb dX6_rowsOfLength_27 (lv_at hl 0 rfl) ?_
  refine fin_l C w (run_V C w mv_X6_145 (k279_lengthen C.b0 q0 q1 q3 q4 q5 q6 q7 q8 q9 q10 q11 q12 q13 q14 q15 q16 q17 q18 q2 q19 q20 q21 q22 q23 q24 q25 q26 q27 q28 q29 q30 q31 q32 q33 q34 q35 q36 q37 q38 H.size) [1, 0, 3, 4, 5, 6] rfl rfl 1 rfl rfl (by decide) rfl hl.1 rfl (Nat.le_of_ble_eq_true rfl) dX6_rowsOfLength_29 (cells2 := 0) (slots2 := 0) (by decide)) [1, 0, 3, 4, 5, 6] [2] rfl rfl (by decide) (cells2 := 0) (slots2 := 0) (by decide) (fun u5 H locs w => ?_)
  have w : Wd s G A [(q2, .inl (G.2.2.1, 3008, .inr (.inl (fun _ => 0)))), (q0, .inr (6, [.int (-1), .ref q3, .ref q7, .ref q8, .ref q9, .ref q10, .ref q11, .ref q12, .ref q13, .ref q14, .ref q15, .ref q16, .ref q17, .ref q18, .ref q1, .ref q2, .int 0, .int 0, .int 0, .int 0])), (q1, .inl (G.2.2.1, 3008, .inr (.inl (fun _ => 0)))), (q3, .inr (1, [.int 0, .ref q6, .ref q19, .ref q4, .ref q5, .ref q20, .ref q21, .ref q22, .int 1])), (q4, .inr (7, [.ref q23, .int 0, .int 1, .int 3008, .ref q24])), (q5, .inl (G.2.1, 3008, .inl (fun _ => 0))), (q6, .inr (2, [.int 0, .int 0, .ref q25, .ref q26, .ref q27, .ref q28, .ref q29, .ref q30, .ref q31, .ref q32, .ref q33, .ref q34, .ref q35, .ref q36, .ref q37, .ref q38, .int 0]))] H locs := w
  refine lv_lstore_n (lv' := [(2, .long 0), (4, .int 3), (0, .ref q0), (1, .int x0)]) hx hb dX6_rowsOfLength_32 rfl hl (by decide) rfl (fun ls hl => ?_)
  refine lv_iinc (v := 4) (lv' := [(4, .int 4), (2, .long 0), (0, .ref q0), (1, .int x0)]) hx hb dX6_rowsOfLength_33 hl (k := 1) rfl (by decide +kernel) (by decide) rfl (fun ls hl => ?_)
  refine lv_goto (tgt := 20) hx hb dX6_rowsOfLength_36 (by decide) ?_
  refine lv_iload hx hb dX6_rowsOfLength_20 (lv_at hl 0 rfl) ?_
  refine lv_iload_n hx hb dX6_rowsOfLength_22 rfl (lv_at hl 3 rfl) ?_
  refine lv_icmp_ge (tgt := 39) hx hb dX6_rowsOfLength_23 (by decide) (fun h => absurd h (Int32.not_le.mpr h4)) (fun _ => ?_)
  refine lv_aload_n hx hb dX6_rowsOfLength_26 rfl (lv_at hl 2 rfl) ?_
  refine lv_iload hx hb dX6_rowsOfLength_27 (lv_at hl 0 rfl) ?_
  refine fin_l C w (run_V C w mv_X6_145 (k280_lengthen C.b0 q0 q2 q3 q4 q5 q6 q7 q8 q9 q10 q11 q12 q13 q14 q15 q16 q17 q18 q1 q19 q20 q21 q22 q23 q24 q25 q26 q27 q28 q29 q30 q31 q32 q33 q34 q35 q36 q37 q38 H.size) [1, 0, 3, 4, 5, 6] rfl rfl 1 rfl rfl (by decide) rfl hl.1 rfl (Nat.le_of_ble_eq_true rfl) dX6_rowsOfLength_29 (cells2 := 0) (slots2 := 0) (by decide)) [1, 0, 3, 4, 5, 6] [2] rfl rfl (by decide) (cells2 := 0) (slots2 := 0) (by decide) (fun u6 H locs w => ?_)
  have w : Wd s G A [(q1, .inl (G.2.2.1, 3008, .inr (.inl (fun _ => 0)))), (q0, .inr (6, [.int (-1), .ref q3, .ref q7, .ref q8, .ref q9, .ref q10, .ref q11, .ref q12, .ref q13, .ref q14, .ref q15, .ref q16, .ref q17, .ref q18, .ref q2, .ref q1, .int 0, .int 0, .int 0, .int 0])), (q2, .inl (G.2.2.1, 3008, .inr (.inl (fun _ => 0)))), (q3, .inr (1, [.int 0, .ref q6, .ref q19, .ref q4, .ref q5, .ref q20, .ref q21, .ref q22, .int 1])), (q4, .inr (7, [.ref q23, .int 0, .int 1, .int 3008, .ref q24])), (q5, .inl (G.2.1, 3008, .inl (fun _ => 0))), (q6, .inr (2, [.int 0, .int 0, .ref q25, .ref q26, .ref q27, .ref q28, .ref q29, .ref q30, .ref q31, .ref q32, .ref q33, .ref q34, .ref q35, .ref q36, .ref q37, .ref q38, .int 0]))] H locs := w
  refine lv_lstore_n (lv' := [(2, .long 0), (4, .int 4), (0, .ref q0), (1, .int x0)]) hx hb dX6_rowsOfLength_32 rfl hl (by decide) rfl (fun ls hl => ?_)
  refine lv_iinc (v := 5) (lv' := [(4, .int 5), (2, .long 0), (0, .ref q0), (1, .int x0)]) hx hb dX6_rowsOfLength_33 hl (k := 1) rfl (by decide +kernel) (by decide) rfl (fun ls hl => ?_)
  refine lv_goto (tgt := 20) hx hb dX6_rowsOfLength_36 (by decide) ?_
  refine lv_iload hx hb dX6_rowsOfLength_20 (lv_at hl 0 rfl) ?_
  refine lv_iload_n hx hb dX6_rowsOfLength_22 rfl (lv_at hl 3 rfl) ?_
  refine lv_icmp_ge (tgt := 39) hx hb dX6_rowsOfLength_23 (by decide) (fun h => absurd h (Int32.not_le.mpr h5)) (fun _ => ?_)
  refine lv_aload_n hx hb dX6_rowsOfLength_26 rfl (lv_at hl 2 rfl) ?_
  refine lv_iload hx hb dX6_rowsOfLength_27 (lv_at hl 0 rfl) ?_
  refine fin_l C w (run_V C w mv_X6_145 (k281_lengthen C.b0 q0 q1 q3 q4 q5 q6 q7 q8 q9 q10 q11 q12 q13 q14 q15 q16 q17 q18 q2 q19 q20 q21 q22 q23 q24 q25 q26 q27 q28 q29 q30 q31 q32 q33 q34 q35 q36 q37 q38 H.size) [1, 0, 3, 4, 5, 6] rfl rfl 1 rfl rfl (by decide) rfl hl.1 rfl (Nat.le_of_ble_eq_true rfl) dX6_rowsOfLength_29 (cells2 := 0) (slots2 := 0) (by decide)) [1, 0, 3, 4, 5, 6] [2] rfl rfl (by decide) (cells2 := 0) (slots2 := 0) (by decide) (fun u7 H locs w => ?_)
  have w : Wd s G A [(q2, .inl (G.2.2.1, 3008, .inr (.inl (fun _ => 0)))), (q0, .inr (6, [.int (-1), .ref q3, .ref q7, .ref q8, .ref q9, .ref q10, .ref q11, .ref q12, .ref q13, .ref q14, .ref q15, .ref q16, .ref q17, .ref q18, .ref q1, .ref q2, .int 0, .int 0, .int 0, .int 0])), (q1, .inl (G.2.2.1, 3008, .inr (.inl (fun _ => 0)))), (q3, .inr (1, [.int 0, .ref q6, .ref q19, .ref q4, .ref q5, .ref q20, .ref q21, .ref q22, .int 1])), (q4, .inr (7, [.ref q23, .int 0, .int 1, .int 3008, .ref q24])), (q5, .inl (G.2.1, 3008, .inl (fun _ => 0))), (q6, .inr (2, [.int 0, .int 0, .ref q25, .ref q26, .ref q27, .ref q28, .ref q29, .ref q30, .ref q31, .ref q32, .ref q33, .ref q34, .ref q35, .ref q36, .ref q37, .ref q38, .int 0]))] H locs := w
  refine lv_lstore_n (lv' := [(2, .long 0), (4, .int 5), (0, .ref q0), (1, .int x0)]) hx hb dX6_rowsOfLength_32 rfl hl (by decide) rfl (fun ls hl => ?_)
  refine lv_iinc (v := 6) (lv' := [(4, .int 6), (2, .long 0), (0, .ref q0), (1, .int x0)]) hx hb dX6_rowsOfLength_33 hl (k := 1) rfl (by decide +kernel) (by decide) rfl (fun ls hl => ?_)
  refine lv_goto (tgt := 20) hx hb dX6_rowsOfLength_36 (by decide) ?_
  refine lv_iload hx hb dX6_rowsOfLength_20 (lv_at hl 0 rfl) ?_
  refine lv_iload_n hx hb dX6_rowsOfLength_22 rfl (lv_at hl 3 rfl) ?_
  refine lv_icmp_ge (tgt := 39) hx hb dX6_rowsOfLength_23 (by decide) (fun h => absurd h (Int32.not_le.mpr h6)) (fun _ => ?_)
  refine lv_aload_n hx hb dX6_rowsOfLength_26 rfl (lv_at hl 2 rfl) ?_
  refine lv_iload hx hb dX6_rowsOfLength_27 (lv_at hl 0 rfl) ?_
  refine fin_l C w (run_V C w mv_X6_145 (k282_lengthen C.b0 q0 q2 q3 q4 q5 q6 q7 q8 q9 q10 q11 q12 q13 q14 q15 q16 q17 q18 q1 q19 q20 q21 q22 q23 q24 q25 q26 q27 q28 q29 q30 q31 q32 q33 q34 q35 q36 q37 q38 H.size) [1, 0, 3, 4, 5, 6] rfl rfl 1 rfl rfl (by decide) rfl hl.1 rfl (Nat.le_of_ble_eq_true rfl) dX6_rowsOfLength_29 (cells2 := 0) (slots2 := 0) (by decide)) [1, 0, 3, 4, 5, 6] [2] rfl rfl (by decide) (cells2 := 0) (slots2 := 0) (by decide) (fun u8 H locs w => ?_)
  have w : Wd s G A [(q1, .inl (G.2.2.1, 3008, .inr (.inl (fun _ => 0)))), (q0, .inr (6, [.int (-1), .ref q3, .ref q7, .ref q8, .ref q9, .ref q10, .ref q11, .ref q12, .ref q13, .ref q14, .ref q15, .ref q16, .ref q17, .ref q18, .ref q2, .ref q1, .int 0, .int 0, .int 0, .int 0])), (q2, .inl (G.2.2.1, 3008, .inr (.inl (fun _ => 0)))), (q3, .inr (1, [.int 0, .ref q6, .ref q19, .ref q4, .ref q5, .ref q20, .ref q21, .ref q22, .int 1])), (q4, .inr (7, [.ref q23, .int 0, .int 1, .int 3008, .ref q24])), (q5, .inl (G.2.1, 3008, .inl (fun _ => 0))), (q6, .inr (2, [.int 0, .int 0, .ref q25, .ref q26, .ref q27, .ref q28, .ref q29, .ref q30, .ref q31, .ref q32, .ref q33, .ref q34, .ref q35, .ref q36, .ref q37, .ref q38, .int 0]))] H locs := w
  refine lv_lstore_n (lv' := [(2, .long 0), (4, .int 6), (0, .ref q0), (1, .int x0)]) hx hb dX6_rowsOfLength_32 rfl hl (by decide) rfl (fun ls hl => ?_)
  refine lv_iinc (v := 7) (lv' := [(4, .int 7), (2, .long 0), (0, .ref q0), (1, .int x0)]) hx hb dX6_rowsOfLength_33 hl (k := 1) rfl (by decide +kernel) (by decide) rfl (fun ls hl => ?_)
  refine lv_goto (tgt := 20) hx hb dX6_rowsOfLength_36 (by decide) ?_
  refine lv_iload hx hb dX6_rowsOfLength_20 (lv_at hl 0 rfl) ?_
  refine lv_iload_n hx hb dX6_rowsOfLength_22 rfl (lv_at hl 3 rfl) ?_
  refine lv_icmp_ge (tgt := 39) hx hb dX6_rowsOfLength_23 (by decide) (fun _ => ?_) (fun h => absurd (Int32.not_lt.mp h7) h)
  refine lv_lload_n hx hb dX6_rowsOfLength_39 rfl (lv_at hl 1 rfl) ?_
  exact e_l C hr w (fun _ => 0) [1, 0, 2, 3, 4, 5, 6] rfl rfl dX6_rowsOfLength_40 (by decide) (by decide)
set_option maxRecDepth 100000 in
set_option maxHeartbeats 4000000 in
theorem k350_rows {l : Launch} {s0 : State} {a0 : Array Value} {G : GT} (b0 : B0 l s0 a0 G) (q0 q1 q2 q3 q4 q5 q6 q7 q8 q9 q10 q11 q12 q13 q14 q15 q16 q17 q18 q19 q20 q21 q22 q23 q24 q25 q26 q27 : Nat) (x0 : Int32) (x1 : Int32) (h0 : 0 < x1) (h1 : 1 < x1) (h2 : 2 < x1) (h3 : ¬ 20 < x1) (h4 : 3 < x1) (h5 : ¬ 3000 < x0) (h6 : 4 < x1) (h7 : 5 < x1) (h8 : 6 < x1) (h9 : ¬ 7 < x1) (h10 : ¬ x0 < 1) (h11 : ¬ x1 < 0) (sz : Nat) : Kl l s0 G yX11_rows cX11_rows 4 (some .long) { frames := 4, cells := 24, slots := 104590, locals := 168 } [.ref q0, .int x0, .int x1] [(q0, .inr (11, [.ref q4, .ref q5, .ref q1, .ref q6, .ref q7, .ref q8, .ref q9, .ref q10, .ref q2, .ref q11, .int 0, .int (-1), .int 0, .int 0, .null, .null, .null, .null, .null])), (q1, .inr (5, [.ref q3, .ref q12, .ref q13, .int 0])), (q2, .inr (2, [.int 0, .int 0, .ref q14, .ref q15, .ref q16, .ref q17, .ref q18, .ref q19, .ref q20, .ref q21, .ref q22, .ref q23, .ref q24, .ref q25, .ref q26, .ref q27, .int 0])), (q3, .inl (G.2.1, 8, .inl (fun _ => 0)))] sz 0 (fun u => [(q0, .inr (11, [.ref q4, .ref q5, .ref q1, .ref q6, .ref q7, .ref q8, .ref q9, .ref q10, .ref q2, .ref q11, .int 0, .int (-1), .int 0, .int 0, .ref (u 0), .ref (u 9), .null, .null, .null])), (q1, .inr (5, [.ref q3, .ref q12, .ref q13, .int 0])), (q2, .inr (2, [.int 0, .int 0, .ref q14, .ref q15, .ref q16, .ref q17, .ref q18, .ref q19, .ref q20, .ref q21, .ref q22, .ref q23, .ref q24, .ref q25, .ref q26, .ref q27, .int 0])), (q3, .inl (G.2.1, 8, .inl (fun _ => 0))), ((u 0), .inr (1, [.int 0, .ref q2, .ref (u 1), .ref (u 2), .ref (u 5), .ref (u 6), .ref (u 7), .ref (u 8), .int 1])), ((u 1), .inl (G.2.1, 24064, .inl (fun _ => 0))), ((u 2), .inr (7, [.ref (u 3), .int 0, .int 1, .int 3008, .ref (u 4)])), ((u 3), .inl (G.2.1, 24064, .inl (fun _ => 0))), ((u 4), .inl (G.2.1, 8192, .inl (upd (fun _ => (-1)) 7 0))), ((u 5), .inl (G.2.1, 3008, .inl (fun _ => 0))), ((u 6), .inl (G.2.1, 3008, .inl (upd (fun _ => 0) 0 (-1)))), ((u 7), .inl (G.2.1, 3008, .inl (upd (fun _ => 0) 0 (-1)))), ((u 8), .inl (G.2.1, 8, .inl (fun _ => 0))), ((u 9), .inr (6, [.int (-1), .ref (u 0), .ref (u 10), .ref (u 11), .ref (u 12), .ref (u 13), .ref (u 14), .ref (u 15), .ref (u 16), .ref (u 17), .ref (u 18), .ref (u 19), .ref (u 20), .ref (u 21), .ref (u 23), .ref (u 22), .int 0, .int 0, .int 0, .int 0])), ((u 10), .inl (G.2.1, 3008, .inl (fun _ => 0))), ((u 11), .inl (G.2.1, 3008, .inl (fun _ => 0))), ((u 12), .inl (G.2.1, 3008, .inl (fun _ => 0))), ((u 13), .inl (G.2.1, 3008, .inl (fun _ => 0))), ((u 14), .inl (G.2.1, 3008, .inl (fun _ => 0))), ((u 15), .inl (G.2.1, 3008, .inl (fun _ => 0))), ((u 16), .inl (G.2.1, 3008, .inl (fun _ => 0))), ((u 17), .inl (G.2.1, 3008, .inl (fun _ => 0))), ((u 18), .inl (G.2.1, 3008, .inl (fun _ => 0))), ((u 19), .inl (G.2.1, 3008, .inl (fun _ => 0))), ((u 20), .inl (G.2.1, 3008, .inl (fun _ => 0))), ((u 21), .inl (G.2.1, 100, .inl (fun _ => 0))), ((u 22), .inl (G.2.2.1, 3008, .inr (.inl (fun _ => 0)))), ((u 23), .inl (G.2.2.1, 3008, .inr (.inl (fun _ => 0))))]) := by
  refine Kl.of b0 (own := RX11) (nm := "rows") [(0, .ref q0), (1, .int x0), (2, .int x1)] rfl rfl (by decide +kernel) (Nat.le_of_ble_eq_true rfl) rfl ?_
  intro p e s m below meth c A C hr H locs w ls hl
  have hx := C.hx
  have hb := C.hb
  refine lv_iload_n hx hb dX11_rows_0 rfl (lv_at hl 1 rfl) ?_
  refine fin_v C w (run_S C w ms_X11_161 (k106_needMost C.b0 x0 h5 h10 H.size) [] rfl rfl (by decide) rfl hl.1 rfl (Nat.le_of_ble_eq_true rfl) dX11_rows_1 (cells2 := 0) (slots2 := 0) (by decide)) [] [0, 1, 2, 3] rfl rfl (by decide) (cells2 := 0) (slots2 := 0) (by decide) (fun u1 H locs w => ?_)
  have w : Wd s G A [(q0, .inr (11, [.ref q4, .ref q5, .ref q1, .ref q6, .ref q7, .ref q8, .ref q9, .ref q10, .ref q2, .ref q11, .int 0, .int (-1), .int 0, .int 0, .null, .null, .null, .null, .null])), (q1, .inr (5, [.ref q3, .ref q12, .ref q13, .int 0])), (q2, .inr (2, [.int 0, .int 0, .ref q14, .ref q15, .ref q16, .ref q17, .ref q18, .ref q19, .ref q20, .ref q21, .ref q22, .ref q23, .ref q24, .ref q25, .ref q26, .ref q27, .int 0])), (q3, .inl (G.2.1, 8, .inl (fun _ => 0)))] H locs := w
  refine lv_iload_n hx hb dX11_rows_4 rfl (lv_at hl 2 rfl) ?_
  refine lv_iconst (v := 0) hx hb dX11_rows_5 (by decide) ?_
  refine lv_bipush (v := 20) hx hb dX11_rows_6 (by decide) ?_
  refine fin_v C w (run_S C w ms_X11_72 (k275_needWithin C.b0 x1 h3 h11 H.size) [] rfl rfl (by decide) rfl hl.1 rfl (Nat.le_of_ble_eq_true rfl) dX11_rows_8 (cells2 := 0) (slots2 := 0) (by decide)) [] [0, 1, 2, 3] rfl rfl (by decide) (cells2 := 0) (slots2 := 0) (by decide) (fun u2 H locs w => ?_)
  have w : Wd s G A [(q0, .inr (11, [.ref q4, .ref q5, .ref q1, .ref q6, .ref q7, .ref q8, .ref q9, .ref q10, .ref q2, .ref q11, .int 0, .int (-1), .int 0, .int 0, .null, .null, .null, .null, .null])), (q1, .inr (5, [.ref q3, .ref q12, .ref q13, .int 0])), (q2, .inr (2, [.int 0, .int 0, .ref q14, .ref q15, .ref q16, .ref q17, .ref q18, .ref q19, .ref q20, .ref q21, .ref q22, .ref q23, .ref q24, .ref q25, .ref q26, .ref q27, .int 0])), (q3, .inl (G.2.1, 8, .inl (fun _ => 0)))] H locs := w
  refine lv_aload_n hx hb dX11_rows_11 rfl (lv_at hl 0 rfl) ?_
  refine lv_iload_n hx hb dX11_rows_12 rfl (lv_at hl 1 rfl) ?_
  refine fin_r C w (run_V C w mv_X11_164 (k114_explored C.b0 q0 q1 q2 q3 q4 q5 q6 q7 q8 q9 q10 q11 q12 q13 q14 q15 q16 q17 q18 q19 q20 q21 q22 q23 q24 q25 q26 q27 x0 h10 H.size) [0, 1, 2, 3] rfl rfl 0 rfl rfl (by decide) rfl hl.1 rfl (Nat.le_of_ble_eq_true rfl) dX11_rows_13 (cells2 := 9) (slots2 := 65366) (by decide)) [0, 1, 2, 3] [] rfl rfl (by decide) (cells2 := 9) (slots2 := 65366) (by decide) (fun u3 H locs w => ?_)
  have w : Wd s G A [(q0, .inr (11, [.ref q4, .ref q5, .ref q1, .ref q6, .ref q7, .ref q8, .ref q9, .ref q10, .ref q2, .ref q11, .int 0, .int (-1), .int 0, .int 0, .ref (u3 0), .null, .null, .null, .null])), (q1, .inr (5, [.ref q3, .ref q12, .ref q13, .int 0])), (q2, .inr (2, [.int 0, .int 0, .ref q14, .ref q15, .ref q16, .ref q17, .ref q18, .ref q19, .ref q20, .ref q21, .ref q22, .ref q23, .ref q24, .ref q25, .ref q26, .ref q27, .int 0])), (q3, .inl (G.2.1, 8, .inl (fun _ => 0))), ((u3 0), .inr (1, [.int 0, .ref q2, .ref (u3 1), .ref (u3 2), .ref (u3 5), .ref (u3 6), .ref (u3 7), .ref (u3 8), .int 1])), ((u3 1), .inl (G.2.1, 24064, .inl (fun _ => 0))), ((u3 2), .inr (7, [.ref (u3 3), .int 0, .int 1, .int 3008, .ref (u3 4)])), ((u3 3), .inl (G.2.1, 24064, .inl (fun _ => 0))), ((u3 4), .inl (G.2.1, 8192, .inl (upd (fun _ => (-1)) 7 0))), ((u3 5), .inl (G.2.1, 3008, .inl (fun _ => 0))), ((u3 6), .inl (G.2.1, 3008, .inl (upd (fun _ => 0) 0 (-1)))), ((u3 7), .inl (G.2.1, 3008, .inl (upd (fun _ => 0) 0 (-1)))), ((u3 8), .inl (G.2.1, 8, .inl (fun _ => 0)))] H locs := w
  refine lv_astore_n (lv' := [(3, .ref (u3 0)), (0, .ref q0), (1, .int x0), (2, .int x1)]) hx hb dX11_rows_16 rfl hl (by decide) rfl (fun ls hl => ?_)
  refine lv_aload_n hx hb dX11_rows_17 rfl (lv_at hl 0 rfl) ?_
  refine lv_iload_n hx hb dX11_rows_18 rfl (lv_at hl 2 rfl) ?_
  refine fin_i C w (run_V C w mv_X11_168 (k115_isBeyond C.b0 (u3 0) (u3 2) q2 (u3 1) (u3 5) (u3 6) (u3 7) (u3 8) (u3 3) (u3 4) x0 h10 H.size) [4, 6] rfl rfl 4 rfl rfl (by decide) rfl hl.1 rfl (Nat.le_of_ble_eq_true rfl) dX11_rows_19 (cells2 := 9) (slots2 := 65366) (by decide)) [4, 6] [0, 1, 2, 3, 5, 7, 8, 9, 10, 11, 12] rfl rfl (by decide) (cells2 := 9) (slots2 := 65366) (by decide) (fun u4 H locs w => ?_)
  have w : Wd s G A [(q0, .inr (11, [.ref q4, .ref q5, .ref q1, .ref q6, .ref q7, .ref q8, .ref q9, .ref q10, .ref q2, .ref q11, .int 0, .int (-1), .int 0, .int 0, .ref (u3 0), .null, .null, .null, .null])), (q1, .inr (5, [.ref q3, .ref q12, .ref q13, .int 0])), (q2, .inr (2, [.int 0, .int 0, .ref q14, .ref q15, .ref q16, .ref q17, .ref q18, .ref q19, .ref q20, .ref q21, .ref q22, .ref q23, .ref q24, .ref q25, .ref q26, .ref q27, .int 0])), (q3, .inl (G.2.1, 8, .inl (fun _ => 0))), ((u3 1), .inl (G.2.1, 24064, .inl (fun _ => 0))), ((u3 3), .inl (G.2.1, 24064, .inl (fun _ => 0))), ((u3 4), .inl (G.2.1, 8192, .inl (upd (fun _ => (-1)) 7 0))), ((u3 5), .inl (G.2.1, 3008, .inl (fun _ => 0))), ((u3 6), .inl (G.2.1, 3008, .inl (upd (fun _ => 0) 0 (-1)))), ((u3 7), .inl (G.2.1, 3008, .inl (upd (fun _ => 0) 0 (-1)))), ((u3 8), .inl (G.2.1, 8, .inl (fun _ => 0))), ((u3 0), .inr (1, [.int 0, .ref q2, .ref (u3 1), .ref (u3 2), .ref (u3 5), .ref (u3 6), .ref (u3 7), .ref (u3 8), .int 1])), ((u3 2), .inr (7, [.ref (u3 3), .int 0, .int 1, .int 3008, .ref (u3 4)]))] H locs := w
  refine lv_if_eq (tgt := 31) hx hb dX11_rows_22 (by decide) (fun _ => ?_) (fun h => absurd (by decide) h)
  refine lv_aload_n hx hb dX11_rows_31 rfl (lv_at hl 1 rfl) ?_
  refine lv_aload_n hx hb dX11_rows_32 rfl (lv_at hl 0 rfl) ?_
  refine fin_r C w (run_V C w mv_X11_215 (k167_studied C.b0 q0 (u3 0) q4 q5 q1 q6 q7 q8 q9 q10 q2 q11 H.size) [0] rfl rfl 0 rfl rfl (by decide) rfl hl.1 rfl (Nat.le_of_ble_eq_true rfl) dX11_rows_33 (cells2 := 24) (slots2 := 104590) (by decide)) [0] [1, 2, 3, 4, 5, 6, 7, 8, 9, 10, 11, 12] rfl rfl (by decide) (cells2 := 24) (slots2 := 104590) (by decide) (fun u5 H locs w => ?_)
  have w : Wd s G A [(q1, .inr (5, [.ref q3, .ref q12, .ref q13, .int 0])), (q2, .inr (2, [.int 0, .int 0, .ref q14, .ref q15, .ref q16, .ref q17, .ref q18, .ref q19, .ref q20, .ref q21, .ref q22, .ref q23, .ref q24, .ref q25, .ref q26, .ref q27, .int 0])), (q3, .inl (G.2.1, 8, .inl (fun _ => 0))), ((u3 1), .inl (G.2.1, 24064, .inl (fun _ => 0))), ((u3 3), .inl (G.2.1, 24064, .inl (fun _ => 0))), ((u3 4), .inl (G.2.1, 8192, .inl (upd (fun _ => (-1)) 7 0))), ((u3 5), .inl (G.2.1, 3008, .inl (fun _ => 0))), ((u3 6), .inl (G.2.1, 3008, .inl (upd (fun _ => 0) 0 (-1)))), ((u3 7), .inl (G.2.1, 3008, .inl (upd (fun _ => 0) 0 (-1)))), ((u3 8), .inl (G.2.1, 8, .inl (fun _ => 0))), ((u3 0), .inr (1, [.int 0, .ref q2, .ref (u3 1), .ref (u3 2), .ref (u3 5), .ref (u3 6), .ref (u3 7), .ref (u3 8), .int 1])), ((u3 2), .inr (7, [.ref (u3 3), .int 0, .int 1, .int 3008, .ref (u3 4)])), (q0, .inr (11, [.ref q4, .ref q5, .ref q1, .ref q6, .ref q7, .ref q8, .ref q9, .ref q10, .ref q2, .ref q11, .int 0, .int (-1), .int 0, .int 0, .ref (u3 0), .ref (u5 0), .null, .null, .null])), ((u5 0), .inr (6, [.int (-1), .ref (u3 0), .ref (u5 1), .ref (u5 2), .ref (u5 3), .ref (u5 4), .ref (u5 5), .ref (u5 6), .ref (u5 7), .ref (u5 8), .ref (u5 9), .ref (u5 10), .ref (u5 11), .ref (u5 12), .ref (u5 13), .ref (u5 14), .int 0, .int 0, .int 0, .int 0])), ((u5 1), .inl (G.2.1, 3008, .inl (fun _ => 0))), ((u5 2), .inl (G.2.1, 3008, .inl (fun _ => 0))), ((u5 3), .inl (G.2.1, 3008, .inl (fun _ => 0))), ((u5 4), .inl (G.2.1, 3008, .inl (fun _ => 0))), ((u5 5), .inl (G.2.1, 3008, .inl (fun _ => 0))), ((u5 6), .inl (G.2.1, 3008, .inl (fun _ => 0))), ((u5 7), .inl (G.2.1, 3008, .inl (fun _ => 0))), ((u5 8), .inl (G.2.1, 3008, .inl (fun _ => 0))), ((u5 9), .inl (G.2.1, 3008, .inl (fun _ => 0))), ((u5 10), .inl (G.2.1, 3008, .inl (fun _ => 0))), ((u5 11), .inl (G.2.1, 3008, .inl (fun _ => 0))), ((u5 12), .inl (G.2.1, 100, .inl (fun _ => 0))), ((u5 13), .inl (G.2.2.1, 3008, .inr (.inl (fun _ => 0)))), ((u5 14), .inl (G.2.2.1, 3008, .inr (.inl (fun _ => 0))))] H locs := w
  refine lv_iload_n hx hb dX11_rows_36 rfl (lv_at hl 3 rfl) ?_
  refine fin_l C w (run_V C w mv_X11_224 (k349_rowsOfLength C.b0 (u5 0) (u5 13) (u5 14) (u3 0) (u3 2) (u3 5) q2 (u5 1) (u5 2) (u5 3) (u5 4) (u5 5) (u5 6) (u5 7) (u5 8) (u5 9) (u5 10) (u5 11) (u5 12) (u3 1) (u3 6) (u3 7) (u3 8) (u3 3) (u3 4) q14 q15 q16 q17 q18 q19 q20 q21 q22 q23 q24 q25 q26 q27 x1 h0 h1 h2 h4 h6 h7 h8 h9 H.size) [13, 26, 27, 10, 11, 6, 1] rfl rfl 13 rfl rfl (by decide) rfl hl.1 rfl (Nat.le_of_ble_eq_true rfl) dX11_rows_37 (cells2 := 24) (slots2 := 104590) (by decide)) [13, 26, 27, 10, 11, 6, 1] [0, 2, 3, 4, 5, 7, 8, 9, 12, 14, 15, 16, 17, 18, 19, 20, 21, 22, 23, 24, 25] rfl rfl (by decide) (cells2 := 24) (slots2 := 104590) (by decide) (fun u6 H locs w => ?_)
  have w : Wd s G A [(q1, .inr (5, [.ref q3, .ref q12, .ref q13, .int 0])), (q3, .inl (G.2.1, 8, .inl (fun _ => 0))), ((u3 1), .inl (G.2.1, 24064, .inl (fun _ => 0))), ((u3 3), .inl (G.2.1, 24064, .inl (fun _ => 0))), ((u3 4), .inl (G.2.1, 8192, .inl (upd (fun _ => (-1)) 7 0))), ((u3 6), .inl (G.2.1, 3008, .inl (upd (fun _ => 0) 0 (-1)))), ((u3 7), .inl (G.2.1, 3008, .inl (upd (fun _ => 0) 0 (-1)))), ((u3 8), .inl (G.2.1, 8, .inl (fun _ => 0))), (q0, .inr (11, [.ref q4, .ref q5, .ref q1, .ref q6, .ref q7, .ref q8, .ref q9, .ref q10, .ref q2, .ref q11, .int 0, .int (-1), .int 0, .int 0, .ref (u3 0), .ref (u5 0), .null, .null, .null])), ((u5 1), .inl (G.2.1, 3008, .inl (fun _ => 0))), ((u5 2), .inl (G.2.1, 3008, .inl (fun _ => 0))), ((u5 3), .inl (G.2.1, 3008, .inl (fun _ => 0))), ((u5 4), .inl (G.2.1, 3008, .inl (fun _ => 0))), ((u5 5), .inl (G.2.1, 3008, .inl (fun _ => 0))), ((u5 6), .inl (G.2.1, 3008, .inl (fun _ => 0))), ((u5 7), .inl (G.2.1, 3008, .inl (fun _ => 0))), ((u5 8), .inl (G.2.1, 3008, .inl (fun _ => 0))), ((u5 9), .inl (G.2.1, 3008, .inl (fun _ => 0))), ((u5 10), .inl (G.2.1, 3008, .inl (fun _ => 0))), ((u5 11), .inl (G.2.1, 3008, .inl (fun _ => 0))), ((u5 12), .inl (G.2.1, 100, .inl (fun _ => 0))), ((u5 0), .inr (6, [.int (-1), .ref (u3 0), .ref (u5 1), .ref (u5 2), .ref (u5 3), .ref (u5 4), .ref (u5 5), .ref (u5 6), .ref (u5 7), .ref (u5 8), .ref (u5 9), .ref (u5 10), .ref (u5 11), .ref (u5 12), .ref (u5 14), .ref (u5 13), .int 0, .int 0, .int 0, .int 0])), ((u5 13), .inl (G.2.2.1, 3008, .inr (.inl (fun _ => 0)))), ((u5 14), .inl (G.2.2.1, 3008, .inr (.inl (fun _ => 0)))), ((u3 0), .inr (1, [.int 0, .ref q2, .ref (u3 1), .ref (u3 2), .ref (u3 5), .ref (u3 6), .ref (u3 7), .ref (u3 8), .int 1])), ((u3 2), .inr (7, [.ref (u3 3), .int 0, .int 1, .int 3008, .ref (u3 4)])), ((u3 5), .inl (G.2.1, 3008, .inl (fun _ => 0))), (q2, .inr (2, [.int 0, .int 0, .ref q14, .ref q15, .ref q16, .ref q17, .ref q18, .ref q19, .ref q20, .ref q21, .ref q22, .ref q23, .ref q24, .ref q25, .ref q26, .ref q27, .int 0]))] H locs := w
  exact e_l C hr w (fun k => [(u3 0), (u3 1), (u3 2), (u3 3), (u3 4), (u3 5), (u3 6), (u3 7), (u3 8), (u5 0), (u5 1), (u5 2), (u5 3), (u5 4), (u5 5), (u5 6), (u5 7), (u5 8), (u5 9), (u5 10), (u5 11), (u5 12), (u5 13), (u5 14)].getD k 0) [8, 0, 27, 1, 24, 2, 25, 3, 4, 26, 5, 6, 7, 21, 9, 10, 11, 12, 13, 14, 15, 16, 17, 18, 19, 20, 22, 23] rfl rfl dX11_rows_40 (by decide) (by decide)
