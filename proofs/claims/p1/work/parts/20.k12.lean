set_option maxRecDepth 100000 in
set_option maxHeartbeats 4000000 in
theorem k445_clock {l : Launch} {s0 : State} {a0 : Array Value} {G : GT} (b0 : B0 l s0 a0 G) (q0 q1 q2 q3 q4 q5 q6 q7 q8 q9 q10 q11 q12 q13 q14 q15 q16 q17 q18 q19 q20 q21 q22 q23 q24 : Nat) (x0 : Int32) (x1 : Int32) (sz : Nat) : Kx l s0 G yX11_clock cX11_clock 3 (some .int) { frames := 7, cells := 1, slots := 6, locals := 111 } [.ref q0, .int x0, .int x1] [(q0, .inr (11, [.ref q2, .ref q3, .ref q4, .ref q5, .ref q6, .ref q7, .ref q8, .ref q9, .ref q1, .ref q10, .int 0, .int (-1), .int 0, .int 0, .null, .null, .null, .null, .null])), (q1, .inr (2, [.int 0, .int 0, .ref q11, .ref q12, .ref q13, .ref q14, .ref q15, .ref q16, .ref q17, .ref q18, .ref q19, .ref q20, .ref q21, .ref q22, .ref q23, .ref q24, .int 0]))] sz "java/lang/IndexOutOfBoundsException" := by
  refine Kx.of b0 (own := RX11) (nm := "clock") [(0, .ref q0), (1, .int x0), (2, .int x1)] rfl rfl (by decide +kernel) (Nat.le_of_ble_eq_true rfl) rfl ?_
  intro p e s m below meth c A C ht H locs w ls hl
  have hx := C.hx
  have hb := C.hb
  refine lv_aload_n hx hb dX11_clock_0 rfl (lv_at hl 0 rfl) ?_
  refine lv_iload_n hx hb dX11_clock_1 rfl (lv_at hl 2 rfl) ?_
  refine fin_x C w (run_Vx C w mv_X11_107 (k69_needPlace C.b0 q0 q1 q2 q3 q4 q5 q6 q7 q8 q9 q10 q11 q12 q13 q14 q15 q16 q17 q18 q19 q20 q21 q22 q23 q24 x1 H.size) [0, 1] rfl rfl 0 rfl rfl (by decide) rfl hl.1 rfl (Nat.le_of_ble_eq_true rfl) dX11_clock_2 (cells2 := 1) (slots2 := 6) (by decide)) [0, 1] [] rfl rfl (by decide) (cells2 := 1) (slots2 := 6) (by decide) (fun qx2 ce H locs w hce hcv hcl => ?_)
  have w : Wd s G A [(q0, .inr (11, [.ref q2, .ref q3, .ref q4, .ref q5, .ref q6, .ref q7, .ref q8, .ref q9, .ref q1, .ref q10, .int 0, .int (-1), .int 0, .int 0, .null, .null, .null, .null, .null])), (q1, .inr (2, [.int 0, .int 0, .ref q11, .ref q12, .ref q13, .ref q14, .ref q15, .ref q16, .ref q17, .ref q18, .ref q19, .ref q20, .ref q21, .ref q22, .ref q23, .ref q24, .int 0]))] H locs := w
  exact r_out C ht w [0, 1] rfl rfl hce hcv hcl (by decide) (by decide)
set_option maxRecDepth 100000 in
set_option maxHeartbeats 4000000 in
theorem k446_clock {l : Launch} {s0 : State} {a0 : Array Value} {G : GT} (b0 : B0 l s0 a0 G) (q0 q1 q2 q3 q4 q5 q6 q7 q8 q9 q10 q11 q12 q13 q14 q15 q16 q17 q18 q19 q20 q21 q22 q23 q24 q25 : Nat) (x0 : Int32) (x1 : Int32) (sz : Nat) : Kh l s0 G yL_clock cL_clock 5 (some .int) [(0, 10, 13, 24), (0, 10, 17, 13)] { frames := 8, cells := 1, slots := 6, locals := 133 } [.ref q0, .int x0, .int x1, .ref q2] [(q0, .inr (11, [.ref q3, .ref q4, .ref q5, .ref q6, .ref q7, .ref q8, .ref q9, .ref q10, .ref q1, .ref q11, .int 0, .int (-1), .int 0, .int 0, .null, .null, .null, .null, .null])), (q1, .inr (2, [.int 0, .int 0, .ref q12, .ref q13, .ref q14, .ref q15, .ref q16, .ref q17, .ref q18, .ref q19, .ref q20, .ref q21, .ref q22, .ref q23, .ref q24, .ref q25, .int 0]))] sz 1 (fun u => [(q0, .inr (11, [.ref q3, .ref q4, .ref q5, .ref q6, .ref q7, .ref q8, .ref q9, .ref q10, .ref q1, .ref q11, .int 0, .int (-1), .int 0, .int 0, .null, .null, .null, .null, .null])), (q1, .inr (2, [.int 0, .int 0, .ref q12, .ref q13, .ref q14, .ref q15, .ref q16, .ref q17, .ref q18, .ref q19, .ref q20, .ref q21, .ref q22, .ref q23, .ref q24, .ref q25, .int 0]))]) := by
  refine Kh.of b0 (own := RL) (nm := "clock") [(0, .ref q0), (1, .int x0), (2, .int x1), (3, .ref q2)] rfl rfl (by decide +kernel) (Nat.le_of_ble_eq_true rfl) rfl ?_
  intro p e s m below meth c A C hr ht H locs w ls hl
  have hx := C.hx
  have hb := C.hb
  refine lv_aload_n hx hb dL_clock_0 rfl (lv_at hl 3 rfl) ?_
  refine lv_iconst (v := 0) hx hb dL_clock_1 (by decide) ?_
  refine lv_aload_n hx hb dL_clock_2 rfl (lv_at hl 0 rfl) ?_
  refine lv_iload_n hx hb dL_clock_3 rfl (lv_at hl 1 rfl) ?_
  refine lv_iload_n hx hb dL_clock_4 rfl (lv_at hl 2 rfl) ?_
  refine fin_x C w (run_Vx C w mv_L_105 (k445_clock C.b0 q0 q1 q3 q4 q5 q6 q7 q8 q9 q10 q11 q12 q13 q14 q15 q16 q17 q18 q19 q20 q21 q22 q23 q24 q25 x0 x1 H.size) [0, 1] rfl rfl 0 rfl rfl (by decide) rfl hl.1 rfl (Nat.le_of_ble_eq_true rfl) dL_clock_5 (cells2 := 1) (slots2 := 6) (by decide)) [0, 1] [] rfl rfl (by decide) (cells2 := 1) (slots2 := 6) (by decide) (fun qx2 ce H locs w hce hcv hcl => ?_)
  have w : Wd s G A [(q0, .inr (11, [.ref q3, .ref q4, .ref q5, .ref q6, .ref q7, .ref q8, .ref q9, .ref q10, .ref q1, .ref q11, .int 0, .int (-1), .int 0, .int 0, .null, .null, .null, .null, .null])), (q1, .inr (2, [.int 0, .int 0, .ref q12, .ref q13, .ref q14, .ref q15, .ref q16, .ref q17, .ref q18, .ref q19, .ref q20, .ref q21, .ref q22, .ref q23, .ref q24, .ref q25, .int 0]))] H locs := w
  refine r_catch C ht (by decide) (by decide) tl_L_24 tk_java_lang_IndexOutOfBoundsException hce hcv hcl ?_
  refine lv_astore (lv' := [(4, .ref qx2), (0, .ref q0), (1, .int x0), (2, .int x1), (3, .ref q2)]) hx hb dL_clock_13 hl (by decide) rfl (fun ls hl => ?_)
  refine lv_iconst (v := 1) hx hb dL_clock_15 (by decide) ?_
  exact e_i C hr w (fun _ => 0) [0, 1] rfl rfl rfl dL_clock_16 (by decide) (by decide)
set_option maxRecDepth 100000 in
set_option maxHeartbeats 4000000 in
theorem k447_clock {l : Launch} {s0 : State} {a0 : Array Value} {G : GT} (b0 : B0 l s0 a0 G) (q0 q1 q2 q3 q4 q5 q6 q7 q8 q9 q10 q11 q12 q13 q14 q15 q16 q17 q18 q19 q20 q21 q22 q23 q24 q25 q26 q27 q28 q29 q30 q31 q32 q33 q34 q35 q36 q37 q38 q39 q40 q41 q42 : Nat) (x0 : Int32) (x1 : Int32) (sz : Nat) : Ki l s0 G yX12_clock cX12_clock 4 (some .int) { frames := 2, cells := 0, slots := 0, locals := 44 } [.ref q0, .int x0, .int x1] [(q0, .inr (12, [.int 0, .int 0, .int 0, .int 0, .int 0, .int 0, .int 0, .int (-1), .ref q2, .ref q1, .ref q3, .int 0, .ref q4, .ref q5, .ref q6, .ref q7, .ref q8, .ref q9, .ref q10, .int 0, .ref q11, .ref q12, .ref q13, .ref q14, .ref q15, .ref q16, .ref q17, .int 0, .int (-1), .int 0, .ref q18, .ref q19, .ref q20, .ref q21, .ref q22, .ref q23, .ref q24, .ref q25, .int 0, .ref q26, .ref q27, .ref q28, .ref q29, .ref q30, .int 0, .ref q31, .ref q32, .ref q33, .ref q34, .int 0, .ref q35, .ref q36, .ref q37, .ref q38, .int 0, .int 0, .ref q39, .ref q40, .ref q41, .ref q42])), (q1, .inl (G.2.1, 242, .inl (fun _ => 0)))] sz 0 (fun u => [(q0, .inr (12, [.int 1, .int 0, .int 0, .int 0, .int 0, .int 0, .int 0, .int (-1), .ref q2, .ref q1, .ref q3, .int 0, .ref q4, .ref q5, .ref q6, .ref q7, .ref q8, .ref q9, .ref q10, .int 0, .ref q11, .ref q12, .ref q13, .ref q14, .ref q15, .ref q16, .ref q17, .int 0, .int (-1), .int 0, .ref q18, .ref q19, .ref q20, .ref q21, .ref q22, .ref q23, .ref q24, .ref q25, .int 0, .ref q26, .ref q27, .ref q28, .ref q29, .ref q30, .int 0, .ref q31, .ref q32, .ref q33, .ref q34, .int 0, .ref q35, .ref q36, .ref q37, .ref q38, .int 0, .int 0, .ref q39, .ref q40, .ref q41, .ref q42])), (q1, .inl (G.2.1, 242, .inl (fun _ => 0)))]) := by
  refine Ki.of b0 (own := RX12) (nm := "clock") [(0, .ref q0), (1, .int x0), (2, .int x1)] rfl rfl (by decide +kernel) (Nat.le_of_ble_eq_true rfl) rfl ?_
  intro p e s m below meth c A C hr H locs w ls hl
  have hx := C.hx
  have hb := C.hb
  refine lv_aload_n hx hb dX12_clock_0 rfl (lv_at hl 0 rfl) ?_
  refine lv_iconst (v := 0) hx hb dX12_clock_1 (by decide) ?_
  refine r_put C w 0 rfl fl_X12_1 (Nat.le_of_ble_eq_true rfl) rfl rfl dX12_clock_2 (ws2 := [(q0, .inr (12, [.int 0, .int 0, .int 0, .int 0, .int 0, .int 0, .int 0, .int (-1), .ref q2, .ref q1, .ref q3, .int 0, .ref q4, .ref q5, .ref q6, .ref q7, .ref q8, .ref q9, .ref q10, .int 0, .ref q11, .ref q12, .ref q13, .ref q14, .ref q15, .ref q16, .ref q17, .int 0, .int (-1), .int 0, .ref q18, .ref q19, .ref q20, .ref q21, .ref q22, .ref q23, .ref q24, .ref q25, .int 0, .ref q26, .ref q27, .ref q28, .ref q29, .ref q30, .int 0, .ref q31, .ref q32, .ref q33, .ref q34, .int 0, .ref q35, .ref q36, .ref q37, .ref q38, .int 0, .int 0, .ref q39, .ref q40, .ref q41, .ref q42])), (q1, .inl (G.2.1, 242, .inl (fun _ => 0)))]) rfl (fun H locs w => ?_)
  refine lv_aload_n hx hb dX12_clock_5 rfl (lv_at hl 0 rfl) ?_
  refine lv_iload_n hx hb dX12_clock_6 rfl (lv_at hl 2 rfl) ?_
  refine lv_iconst (v := 1) hx hb dX12_clock_7 (by decide) ?_
  refine fin_i C w (run_V C w mv_X12_297 (k72_isPlace C.b0 q0 q1 q2 q3 q4 q5 q6 q7 q8 q9 q10 q11 q12 q13 q14 q15 q16 q17 q18 q19 q20 q21 q22 q23 q24 q25 q26 q27 q28 q29 q30 q31 q32 q33 q34 q35 q36 q37 q38 q39 q40 q41 q42 x1 H.size) [0, 1] rfl rfl 0 rfl rfl (by decide) rfl hl.1 rfl (Nat.le_of_ble_eq_true rfl) dX12_clock_8 (cells2 := 0) (slots2 := 0) (by decide)) [0, 1] [] rfl rfl (by decide) (cells2 := 0) (slots2 := 0) (by decide) (fun u1 H locs w => ?_)
  have w : Wd s G A [(q0, .inr (12, [.int 1, .int 0, .int 0, .int 0, .int 0, .int 0, .int 0, .int (-1), .ref q2, .ref q1, .ref q3, .int 0, .ref q4, .ref q5, .ref q6, .ref q7, .ref q8, .ref q9, .ref q10, .int 0, .ref q11, .ref q12, .ref q13, .ref q14, .ref q15, .ref q16, .ref q17, .int 0, .int (-1), .int 0, .ref q18, .ref q19, .ref q20, .ref q21, .ref q22, .ref q23, .ref q24, .ref q25, .int 0, .ref q26, .ref q27, .ref q28, .ref q29, .ref q30, .int 0, .ref q31, .ref q32, .ref q33, .ref q34, .int 0, .ref q35, .ref q36, .ref q37, .ref q38, .int 0, .int 0, .ref q39, .ref q40, .ref q41, .ref q42])), (q1, .inl (G.2.1, 242, .inl (fun _ => 0)))] H locs := w
  refine lv_if_eq (tgt := 26) hx hb dX12_clock_11 (by decide) (fun _ => ?_) (fun h => absurd (by decide) h)
  refine lv_iconst (v := 0) hx hb dX12_clock_26 (by decide) ?_
  exact e_i C hr w (fun _ => 0) [0, 1] rfl rfl rfl dX12_clock_27 (by decide) (by decide)
set_option maxRecDepth 100000 in
set_option maxHeartbeats 4000000 in
theorem k448_began {l : Launch} {s0 : State} {a0 : Array Value} {G : GT} (b0 : B0 l s0 a0 G) (q0 q1 q2 q3 q4 q5 q6 q7 q8 q9 q10 q11 q12 q13 q14 q15 q16 q17 q18 q19 q20 q21 q22 q23 q24 : Nat) (x0 : Int32) (x1 : Int32) (sz : Nat) : Kx l s0 G yX11_began cX11_began 3 (some .int) { frames := 7, cells := 1, slots := 6, locals := 111 } [.ref q0, .int x0, .int x1] [(q0, .inr (11, [.ref q2, .ref q3, .ref q4, .ref q5, .ref q6, .ref q7, .ref q8, .ref q9, .ref q1, .ref q10, .int 0, .int (-1), .int 0, .int 0, .null, .null, .null, .null, .null])), (q1, .inr (2, [.int 0, .int 0, .ref q11, .ref q12, .ref q13, .ref q14, .ref q15, .ref q16, .ref q17, .ref q18, .ref q19, .ref q20, .ref q21, .ref q22, .ref q23, .ref q24, .int 0]))] sz "java/util/NoSuchElementException" := by
  refine Kx.of b0 (own := RX11) (nm := "began") [(0, .ref q0), (1, .int x0), (2, .int x1)] rfl rfl (by decide +kernel) (Nat.le_of_ble_eq_true rfl) rfl ?_
  intro p e s m below meth c A C ht H locs w ls hl
  have hx := C.hx
  have hb := C.hb
  refine lv_aload_n hx hb dX11_began_0 rfl (lv_at hl 0 rfl) ?_
  refine lv_iload_n hx hb dX11_began_1 rfl (lv_at hl 2 rfl) ?_
  refine fin_x C w (run_Vx C w mv_X11_104 (k60_needAct C.b0 q0 q1 q2 q3 q4 q5 q6 q7 q8 q9 q10 q11 q12 q13 q14 q15 q16 q17 q18 q19 q20 q21 q22 q23 q24 x1 H.size) [0, 1] rfl rfl 0 rfl rfl (by decide) rfl hl.1 rfl (Nat.le_of_ble_eq_true rfl) dX11_began_2 (cells2 := 1) (slots2 := 6) (by decide)) [0, 1] [] rfl rfl (by decide) (cells2 := 1) (slots2 := 6) (by decide) (fun qx2 ce H locs w hce hcv hcl => ?_)
  have w : Wd s G A [(q0, .inr (11, [.ref q2, .ref q3, .ref q4, .ref q5, .ref q6, .ref q7, .ref q8, .ref q9, .ref q1, .ref q10, .int 0, .int (-1), .int 0, .int 0, .null, .null, .null, .null, .null])), (q1, .inr (2, [.int 0, .int 0, .ref q11, .ref q12, .ref q13, .ref q14, .ref q15, .ref q16, .ref q17, .ref q18, .ref q19, .ref q20, .ref q21, .ref q22, .ref q23, .ref q24, .int 0]))] H locs := w
  exact r_out C ht w [0, 1] rfl rfl hce hcv hcl (by decide) (by decide)
set_option maxRecDepth 100000 in
set_option maxHeartbeats 4000000 in
theorem k449_began {l : Launch} {s0 : State} {a0 : Array Value} {G : GT} (b0 : B0 l s0 a0 G) (q0 q1 q2 q3 q4 q5 q6 q7 q8 q9 q10 q11 q12 q13 q14 q15 q16 q17 q18 q19 q20 q21 q22 q23 q24 q25 : Nat) (x0 : Int32) (x1 : Int32) (sz : Nat) : Kh l s0 G yL_began cL_began 5 (some .int) [(0, 10, 13, 22), (0, 10, 17, 13)] { frames := 8, cells := 1, slots := 6, locals := 133 } [.ref q0, .int x0, .int x1, .ref q2] [(q0, .inr (11, [.ref q3, .ref q4, .ref q5, .ref q6, .ref q7, .ref q8, .ref q9, .ref q10, .ref q1, .ref q11, .int 0, .int (-1), .int 0, .int 0, .null, .null, .null, .null, .null])), (q1, .inr (2, [.int 0, .int 0, .ref q12, .ref q13, .ref q14, .ref q15, .ref q16, .ref q17, .ref q18, .ref q19, .ref q20, .ref q21, .ref q22, .ref q23, .ref q24, .ref q25, .int 0]))] sz 1 (fun u => [(q0, .inr (11, [.ref q3, .ref q4, .ref q5, .ref q6, .ref q7, .ref q8, .ref q9, .ref q10, .ref q1, .ref q11, .int 0, .int (-1), .int 0, .int 0, .null, .null, .null, .null, .null])), (q1, .inr (2, [.int 0, .int 0, .ref q12, .ref q13, .ref q14, .ref q15, .ref q16, .ref q17, .ref q18, .ref q19, .ref q20, .ref q21, .ref q22, .ref q23, .ref q24, .ref q25, .int 0]))]) := by
  refine Kh.of b0 (own := RL) (nm := "began") [(0, .ref q0), (1, .int x0), (2, .int x1), (3, .ref q2)] rfl rfl (by decide +kernel) (Nat.le_of_ble_eq_true rfl) rfl ?_
  intro p e s m below meth c A C hr ht H locs w ls hl
  have hx := C.hx
  have hb := C.hb
  refine lv_aload_n hx hb dL_began_0 rfl (lv_at hl 3 rfl) ?_
  refine lv_iconst (v := 0) hx hb dL_began_1 (by decide) ?_
  refine lv_aload_n hx hb dL_began_2 rfl (lv_at hl 0 rfl) ?_
  refine lv_iload_n hx hb dL_began_3 rfl (lv_at hl 1 rfl) ?_
  refine lv_iload_n hx hb dL_began_4 rfl (lv_at hl 2 rfl) ?_
  refine fin_x C w (run_Vx C w mv_L_108 (k448_began C.b0 q0 q1 q3 q4 q5 q6 q7 q8 q9 q10 q11 q12 q13 q14 q15 q16 q17 q18 q19 q20 q21 q22 q23 q24 q25 x0 x1 H.size) [0, 1] rfl rfl 0 rfl rfl (by decide) rfl hl.1 rfl (Nat.le_of_ble_eq_true rfl) dL_began_5 (cells2 := 1) (slots2 := 6) (by decide)) [0, 1] [] rfl rfl (by decide) (cells2 := 1) (slots2 := 6) (by decide) (fun qx2 ce H locs w hce hcv hcl => ?_)
  have w : Wd s G A [(q0, .inr (11, [.ref q3, .ref q4, .ref q5, .ref q6, .ref q7, .ref q8, .ref q9, .ref q10, .ref q1, .ref q11, .int 0, .int (-1), .int 0, .int 0, .null, .null, .null, .null, .null])), (q1, .inr (2, [.int 0, .int 0, .ref q12, .ref q13, .ref q14, .ref q15, .ref q16, .ref q17, .ref q18, .ref q19, .ref q20, .ref q21, .ref q22, .ref q23, .ref q24, .ref q25, .int 0]))] H locs := w
  refine r_catch C ht (by decide) (by decide) tl_L_22 tk_java_util_NoSuchElementException hce hcv hcl ?_
  refine lv_astore (lv' := [(4, .ref qx2), (0, .ref q0), (1, .int x0), (2, .int x1), (3, .ref q2)]) hx hb dL_began_13 hl (by decide) rfl (fun ls hl => ?_)
  refine lv_iconst (v := 1) hx hb dL_began_15 (by decide) ?_
  exact e_i C hr w (fun _ => 0) [0, 1] rfl rfl rfl dL_began_16 (by decide) (by decide)
set_option maxRecDepth 100000 in
set_option maxHeartbeats 4000000 in
theorem k450_began {l : Launch} {s0 : State} {a0 : Array Value} {G : GT} (b0 : B0 l s0 a0 G) (q0 q1 q2 q3 q4 q5 q6 q7 q8 q9 q10 q11 q12 q13 q14 q15 q16 q17 q18 q19 q20 q21 q22 q23 q24 q25 q26 q27 q28 q29 q30 q31 q32 q33 q34 q35 q36 q37 q38 q39 q40 q41 q42 : Nat) (x0 : Int32) (x1 : Int32) (sz : Nat) : Ki l s0 G yX12_began cX12_began 4 (some .int) { frames := 2, cells := 0, slots := 0, locals := 44 } [.ref q0, .int x0, .int x1] [(q0, .inr (12, [.int 0, .int 0, .int 0, .int 0, .int 0, .int 0, .int 0, .int (-1), .ref q2, .ref q1, .ref q3, .int 0, .ref q4, .ref q5, .ref q6, .ref q7, .ref q8, .ref q9, .ref q10, .int 0, .ref q11, .ref q12, .ref q13, .ref q14, .ref q15, .ref q16, .ref q17, .int 0, .int (-1), .int 0, .ref q18, .ref q19, .ref q20, .ref q21, .ref q22, .ref q23, .ref q24, .ref q25, .int 0, .ref q26, .ref q27, .ref q28, .ref q29, .ref q30, .int 0, .ref q31, .ref q32, .ref q33, .ref q34, .int 0, .ref q35, .ref q36, .ref q37, .ref q38, .int 0, .int 0, .ref q39, .ref q40, .ref q41, .ref q42])), (q1, .inl (G.2.1, 242, .inl (fun _ => 0)))] sz 0 (fun u => [(q0, .inr (12, [.int 1, .int 0, .int 0, .int 0, .int 0, .int 0, .int 0, .int (-1), .ref q2, .ref q1, .ref q3, .int 0, .ref q4, .ref q5, .ref q6, .ref q7, .ref q8, .ref q9, .ref q10, .int 0, .ref q11, .ref q12, .ref q13, .ref q14, .ref q15, .ref q16, .ref q17, .int 0, .int (-1), .int 0, .ref q18, .ref q19, .ref q20, .ref q21, .ref q22, .ref q23, .ref q24, .ref q25, .int 0, .ref q26, .ref q27, .ref q28, .ref q29, .ref q30, .int 0, .ref q31, .ref q32, .ref q33, .ref q34, .int 0, .ref q35, .ref q36, .ref q37, .ref q38, .int 0, .int 0, .ref q39, .ref q40, .ref q41, .ref q42])), (q1, .inl (G.2.1, 242, .inl (fun _ => 0)))]) := by
  refine Ki.of b0 (own := RX12) (nm := "began") [(0, .ref q0), (1, .int x0), (2, .int x1)] rfl rfl (by decide +kernel) (Nat.le_of_ble_eq_true rfl) rfl ?_
  intro p e s m below meth c A C hr H locs w ls hl
  have hx := C.hx
  have hb := C.hb
  refine lv_aload_n hx hb dX12_began_0 rfl (lv_at hl 0 rfl) ?_
  refine lv_iconst (v := 0) hx hb dX12_began_1 (by decide) ?_
  refine r_put C w 0 rfl fl_X12_1 (Nat.le_of_ble_eq_true rfl) rfl rfl dX12_began_2 (ws2 := [(q0, .inr (12, [.int 0, .int 0, .int 0, .int 0, .int 0, .int 0, .int 0, .int (-1), .ref q2, .ref q1, .ref q3, .int 0, .ref q4, .ref q5, .ref q6, .ref q7, .ref q8, .ref q9, .ref q10, .int 0, .ref q11, .ref q12, .ref q13, .ref q14, .ref q15, .ref q16, .ref q17, .int 0, .int (-1), .int 0, .ref q18, .ref q19, .ref q20, .ref q21, .ref q22, .ref q23, .ref q24, .ref q25, .int 0, .ref q26, .ref q27, .ref q28, .ref q29, .ref q30, .int 0, .ref q31, .ref q32, .ref q33, .ref q34, .int 0, .ref q35, .ref q36, .ref q37, .ref q38, .int 0, .int 0, .ref q39, .ref q40, .ref q41, .ref q42])), (q1, .inl (G.2.1, 242, .inl (fun _ => 0)))]) rfl (fun H locs w => ?_)
  refine lv_aload_n hx hb dX12_began_5 rfl (lv_at hl 0 rfl) ?_
  refine lv_iload_n hx hb dX12_began_6 rfl (lv_at hl 2 rfl) ?_
  refine lv_iconst (v := 1) hx hb dX12_began_7 (by decide) ?_
  refine fin_i C w (run_V C w mv_X12_293 (k64_isAct C.b0 q0 q1 q2 q3 q4 q5 q6 q7 q8 q9 q10 q11 q12 q13 q14 q15 q16 q17 q18 q19 q20 q21 q22 q23 q24 q25 q26 q27 q28 q29 q30 q31 q32 q33 q34 q35 q36 q37 q38 q39 q40 q41 q42 x1 H.size) [0, 1] rfl rfl 0 rfl rfl (by decide) rfl hl.1 rfl (Nat.le_of_ble_eq_true rfl) dX12_began_8 (cells2 := 0) (slots2 := 0) (by decide)) [0, 1] [] rfl rfl (by decide) (cells2 := 0) (slots2 := 0) (by decide) (fun u1 H locs w => ?_)
  have w : Wd s G A [(q0, .inr (12, [.int 1, .int 0, .int 0, .int 0, .int 0, .int 0, .int 0, .int (-1), .ref q2, .ref q1, .ref q3, .int 0, .ref q4, .ref q5, .ref q6, .ref q7, .ref q8, .ref q9, .ref q10, .int 0, .ref q11, .ref q12, .ref q13, .ref q14, .ref q15, .ref q16, .ref q17, .int 0, .int (-1), .int 0, .ref q18, .ref q19, .ref q20, .ref q21, .ref q22, .ref q23, .ref q24, .ref q25, .int 0, .ref q26, .ref q27, .ref q28, .ref q29, .ref q30, .int 0, .ref q31, .ref q32, .ref q33, .ref q34, .int 0, .ref q35, .ref q36, .ref q37, .ref q38, .int 0, .int 0, .ref q39, .ref q40, .ref q41, .ref q42])), (q1, .inl (G.2.1, 242, .inl (fun _ => 0)))] H locs := w
  refine lv_if_eq (tgt := 26) hx hb dX12_began_11 (by decide) (fun _ => ?_) (fun h => absurd (by decide) h)
  refine lv_iconst (v := 0) hx hb dX12_began_26 (by decide) ?_
  exact e_i C hr w (fun _ => 0) [0, 1] rfl rfl rfl dX12_began_27 (by decide) (by decide)
set_option maxRecDepth 100000 in
set_option maxHeartbeats 4000000 in
theorem k451_period {l : Launch} {s0 : State} {a0 : Array Value} {G : GT} (b0 : B0 l s0 a0 G) (q0 : Nat) (x0 : Int32) (h0 : x0 < 0) (sz : Nat) : Kx l s0 G yX11_period cX11_period 3 (some .int) { frames := 7, cells := 1, slots := 6, locals := 112 } [.ref q0, .int x0] [] sz "java/lang/IllegalArgumentException" := by
  refine Kx.of b0 (own := RX11) (nm := "period") [(0, .ref q0), (1, .int x0)] rfl rfl (by decide +kernel) (Nat.le_of_ble_eq_true rfl) rfl ?_
  intro p e s m below meth c A C ht H locs w ls hl
  have hx := C.hx
  have hb := C.hb
  refine lv_iload_n hx hb dX11_period_0 rfl (lv_at hl 1 rfl) ?_
  refine lv_iconst (v := 0) hx hb dX11_period_1 (by decide) ?_
  refine lv_iconst (v := 1) hx hb dX11_period_2 (by decide) ?_
  refine fin_x C w (run_Sx C w ms_X11_72 (k42_needWithin C.b0 x0 h0 H.size) [] rfl rfl (by decide) rfl hl.1 rfl (Nat.le_of_ble_eq_true rfl) dX11_period_3 (cells2 := 1) (slots2 := 6) (by decide)) [] [] rfl rfl (by decide) (cells2 := 1) (slots2 := 6) (by decide) (fun qx2 ce H locs w hce hcv hcl => ?_)
  have w : Wd s G A [] H locs := w
  exact r_out C ht w [] rfl rfl hce hcv hcl (by decide) (by decide)
set_option maxRecDepth 100000 in
set_option maxHeartbeats 4000000 in
theorem k452_period {l : Launch} {s0 : State} {a0 : Array Value} {G : GT} (b0 : B0 l s0 a0 G) (q0 q1 q2 q3 q4 q5 q6 q7 q8 q9 q10 q11 : Nat) (x0 : Int32) (h0 : x0 < 0) (sz : Nat) : Kh l s0 G yL_period cL_period 4 (some .int) [(0, 9, 12, 13)] { frames := 8, cells := 1, slots := 6, locals := 134 } [.ref q0, .int x0, .ref q1] [(q0, .inr (11, [.ref q2, .ref q3, .ref q4, .ref q5, .ref q6, .ref q7, .ref q8, .ref q9, .ref q10, .ref q11, .int 0, .int (-1), .int 0, .int 0, .null, .null, .null, .null, .null]))] sz 1 (fun u => [(q0, .inr (11, [.ref q2, .ref q3, .ref q4, .ref q5, .ref q6, .ref q7, .ref q8, .ref q9, .ref q10, .ref q11, .int 0, .int (-1), .int 0, .int 0, .null, .null, .null, .null, .null]))]) := by
  refine Kh.of b0 (own := RL) (nm := "period") [(0, .ref q0), (1, .int x0), (2, .ref q1)] rfl rfl (by decide +kernel) (Nat.le_of_ble_eq_true rfl) rfl ?_
  intro p e s m below meth c A C hr ht H locs w ls hl
  have hx := C.hx
  have hb := C.hb
  refine lv_aload_n hx hb dL_period_0 rfl (lv_at hl 2 rfl) ?_
  refine lv_iconst (v := 0) hx hb dL_period_1 (by decide) ?_
  refine lv_aload_n hx hb dL_period_2 rfl (lv_at hl 0 rfl) ?_
  refine lv_iload_n hx hb dL_period_3 rfl (lv_at hl 1 rfl) ?_
  refine fin_x C w (run_Vx C w mv_L_111 (k451_period C.b0 q0 x0 h0 H.size) [] rfl rfl 0 rfl rfl (by decide) rfl hl.1 rfl (Nat.le_of_ble_eq_true rfl) dL_period_4 (cells2 := 1) (slots2 := 6) (by decide)) [] [0] rfl rfl (by decide) (cells2 := 1) (slots2 := 6) (by decide) (fun qx2 ce H locs w hce hcv hcl => ?_)
  have w : Wd s G A [(q0, .inr (11, [.ref q2, .ref q3, .ref q4, .ref q5, .ref q6, .ref q7, .ref q8, .ref q9, .ref q10, .ref q11, .int 0, .int (-1), .int 0, .int 0, .null, .null, .null, .null, .null]))] H locs := w
  refine r_catch C ht (by decide) (by decide) tl_L_13 tk_java_lang_IllegalArgumentException hce hcv hcl ?_
  refine lv_astore_n (lv' := [(3, .ref qx2), (0, .ref q0), (1, .int x0), (2, .ref q1)]) hx hb dL_period_12 rfl hl (by decide) rfl (fun ls hl => ?_)
  refine lv_iconst (v := 1) hx hb dL_period_13 (by decide) ?_
  exact e_i C hr w (fun _ => 0) [0] rfl rfl rfl dL_period_14 (by decide) (by decide)
set_option maxRecDepth 100000 in
set_option maxHeartbeats 4000000 in
theorem k453_period {l : Launch} {s0 : State} {a0 : Array Value} {G : GT} (b0 : B0 l s0 a0 G) (q0 q1 q2 q3 q4 q5 q6 q7 q8 q9 q10 q11 q12 q13 q14 q15 q16 q17 q18 q19 q20 q21 q22 q23 q24 q25 q26 q27 q28 q29 q30 q31 q32 q33 q34 q35 q36 q37 q38 q39 q40 q41 q42 : Nat) (x0 : Int32) (h0 : x0 < 0) (sz : Nat) : Ki l s0 G yX12_period cX12_period 2 (some .int) { frames := 1, cells := 0, slots := 0, locals := 22 } [.ref q0, .int x0] [(q0, .inr (12, [.int 0, .int 0, .int 0, .int 0, .int 0, .int 0, .int 0, .int (-1), .ref q1, .ref q2, .ref q3, .int 0, .ref q4, .ref q5, .ref q6, .ref q7, .ref q8, .ref q9, .ref q10, .int 0, .ref q11, .ref q12, .ref q13, .ref q14, .ref q15, .ref q16, .ref q17, .int 0, .int (-1), .int 0, .ref q18, .ref q19, .ref q20, .ref q21, .ref q22, .ref q23, .ref q24, .ref q25, .int 0, .ref q26, .ref q27, .ref q28, .ref q29, .ref q30, .int 0, .ref q31, .ref q32, .ref q33, .ref q34, .int 0, .ref q35, .ref q36, .ref q37, .ref q38, .int 0, .int 0, .ref q39, .ref q40, .ref q41, .ref q42]))] sz 0 (fun u => [(q0, .inr (12, [.int 1, .int 0, .int 0, .int 0, .int 0, .int 0, .int 0, .int (-1), .ref q1, .ref q2, .ref q3, .int 0, .ref q4, .ref q5, .ref q6, .ref q7, .ref q8, .ref q9, .ref q10, .int 0, .ref q11, .ref q12, .ref q13, .ref q14, .ref q15, .ref q16, .ref q17, .int 0, .int (-1), .int 0, .ref q18, .ref q19, .ref q20, .ref q21, .ref q22, .ref q23, .ref q24, .ref q25, .int 0, .ref q26, .ref q27, .ref q28, .ref q29, .ref q30, .int 0, .ref q31, .ref q32, .ref q33, .ref q34, .int 0, .ref q35, .ref q36, .ref q37, .ref q38, .int 0, .int 0, .ref q39, .ref q40, .ref q41, .ref q42]))]) := by
  refine Ki.of b0 (own := RX12) (nm := "period") [(0, .ref q0), (1, .int x0)] rfl rfl (by decide +kernel) (Nat.le_of_ble_eq_true rfl) rfl ?_
  intro p e s m below meth c A C hr H locs w ls hl
  have hx := C.hx
  have hb := C.hb
  refine lv_aload_n hx hb dX12_period_0 rfl (lv_at hl 0 rfl) ?_
  refine lv_iconst (v := 0) hx hb dX12_period_1 (by decide) ?_
  refine r_put C w 0 rfl fl_X12_1 (Nat.le_of_ble_eq_true rfl) rfl rfl dX12_period_2 (ws2 := [(q0, .inr (12, [.int 0, .int 0, .int 0, .int 0, .int 0, .int 0, .int 0, .int (-1), .ref q1, .ref q2, .ref q3, .int 0, .ref q4, .ref q5, .ref q6, .ref q7, .ref q8, .ref q9, .ref q10, .int 0, .ref q11, .ref q12, .ref q13, .ref q14, .ref q15, .ref q16, .ref q17, .int 0, .int (-1), .int 0, .ref q18, .ref q19, .ref q20, .ref q21, .ref q22, .ref q23, .ref q24, .ref q25, .int 0, .ref q26, .ref q27, .ref q28, .ref q29, .ref q30, .int 0, .ref q31, .ref q32, .ref q33, .ref q34, .int 0, .ref q35, .ref q36, .ref q37, .ref q38, .int 0, .int 0, .ref q39, .ref q40, .ref q41, .ref q42]))]) rfl (fun H locs w => ?_)
  refine lv_aload_n hx hb dX12_period_5 rfl (lv_at hl 0 rfl) ?_
  refine lv_iload_n hx hb dX12_period_6 rfl (lv_at hl 1 rfl) ?_
  refine lv_iconst (v := 0) hx hb dX12_period_7 (by decide) ?_
  refine lv_iconst (v := 1) hx hb dX12_period_8 (by decide) ?_
  refine fin_i C w (run_S C w ms_X12_289 (k45_within C.b0 x0 h0 H.size) [] rfl rfl (by decide) rfl hl.1 rfl (Nat.le_of_ble_eq_true rfl) dX12_period_9 (cells2 := 0) (slots2 := 0) (by decide)) [] [0] rfl rfl (by decide) (cells2 := 0) (slots2 := 0) (by decide) (fun u1 H locs w => ?_)
  have w : Wd s G A [(q0, .inr (12, [.int 0, .int 0, .int 0, .int 0, .int 0, .int 0, .int 0, .int (-1), .ref q1, .ref q2, .ref q3, .int 0, .ref q4, .ref q5, .ref q6, .ref q7, .ref q8, .ref q9, .ref q10, .int 0, .ref q11, .ref q12, .ref q13, .ref q14, .ref q15, .ref q16, .ref q17, .int 0, .int (-1), .int 0, .ref q18, .ref q19, .ref q20, .ref q21, .ref q22, .ref q23, .ref q24, .ref q25, .int 0, .ref q26, .ref q27, .ref q28, .ref q29, .ref q30, .int 0, .ref q31, .ref q32, .ref q33, .ref q34, .int 0, .ref q35, .ref q36, .ref q37, .ref q38, .int 0, .int 0, .ref q39, .ref q40, .ref q41, .ref q42]))] H locs := w
  refine lv_iconst (v := 1) hx hb dX12_period_12 (by decide) ?_
  refine fin_i C w (run_V C w mv_X12_267 (k18_may C.b0 q0 q1 q2 q3 q4 q5 q6 q7 q8 q9 q10 q11 q12 q13 q14 q15 q16 q17 q18 q19 q20 q21 q22 q23 q24 q25 q26 q27 q28 q29 q30 q31 q32 q33 q34 q35 q36 q37 q38 q39 q40 q41 q42 H.size) [0] rfl rfl 0 rfl rfl (by decide) rfl hl.1 rfl (Nat.le_of_ble_eq_true rfl) dX12_period_13 (cells2 := 0) (slots2 := 0) (by decide)) [0] [] rfl rfl (by decide) (cells2 := 0) (slots2 := 0) (by decide) (fun u2 H locs w => ?_)
  have w : Wd s G A [(q0, .inr (12, [.int 1, .int 0, .int 0, .int 0, .int 0, .int 0, .int 0, .int (-1), .ref q1, .ref q2, .ref q3, .int 0, .ref q4, .ref q5, .ref q6, .ref q7, .ref q8, .ref q9, .ref q10, .int 0, .ref q11, .ref q12, .ref q13, .ref q14, .ref q15, .ref q16, .ref q17, .int 0, .int (-1), .int 0, .ref q18, .ref q19, .ref q20, .ref q21, .ref q22, .ref q23, .ref q24, .ref q25, .int 0, .ref q26, .ref q27, .ref q28, .ref q29, .ref q30, .int 0, .ref q31, .ref q32, .ref q33, .ref q34, .int 0, .ref q35, .ref q36, .ref q37, .ref q38, .int 0, .int 0, .ref q39, .ref q40, .ref q41, .ref q42]))] H locs := w
  refine lv_if_ne (tgt := 21) hx hb dX12_period_16 (by decide) (fun h => absurd (by decide) h) (fun _ => ?_)
  refine lv_iconst (v := 0) hx hb dX12_period_19 (by decide) ?_
  exact e_i C hr w (fun _ => 0) [0] rfl rfl rfl dX12_period_20 (by decide) (by decide)
set_option maxRecDepth 100000 in
set_option maxHeartbeats 4000000 in
theorem k454_period {l : Launch} {s0 : State} {a0 : Array Value} {G : GT} (b0 : B0 l s0 a0 G) (q0 : Nat) (x0 : Int32) (h0 : 1 < x0) (h1 : ¬ x0 < 0) (sz : Nat) : Kx l s0 G yX11_period cX11_period 3 (some .int) { frames := 7, cells := 1, slots := 6, locals := 112 } [.ref q0, .int x0] [] sz "java/lang/IllegalArgumentException" := by
  refine Kx.of b0 (own := RX11) (nm := "period") [(0, .ref q0), (1, .int x0)] rfl rfl (by decide +kernel) (Nat.le_of_ble_eq_true rfl) rfl ?_
  intro p e s m below meth c A C ht H locs w ls hl
  have hx := C.hx
  have hb := C.hb
  refine lv_iload_n hx hb dX11_period_0 rfl (lv_at hl 1 rfl) ?_
  refine lv_iconst (v := 0) hx hb dX11_period_1 (by decide) ?_
  refine lv_iconst (v := 1) hx hb dX11_period_2 (by decide) ?_
  refine fin_x C w (run_Sx C w ms_X11_72 (k47_needWithin C.b0 x0 h0 h1 H.size) [] rfl rfl (by decide) rfl hl.1 rfl (Nat.le_of_ble_eq_true rfl) dX11_period_3 (cells2 := 1) (slots2 := 6) (by decide)) [] [] rfl rfl (by decide) (cells2 := 1) (slots2 := 6) (by decide) (fun qx2 ce H locs w hce hcv hcl => ?_)
  have w : Wd s G A [] H locs := w
  exact r_out C ht w [] rfl rfl hce hcv hcl (by decide) (by decide)
set_option maxRecDepth 100000 in
set_option maxHeartbeats 4000000 in
theorem k455_period {l : Launch} {s0 : State} {a0 : Array Value} {G : GT} (b0 : B0 l s0 a0 G) (q0 q1 q2 q3 q4 q5 q6 q7 q8 q9 q10 q11 : Nat) (x0 : Int32) (h0 : 1 < x0) (h1 : ¬ x0 < 0) (sz : Nat) : Kh l s0 G yL_period cL_period 4 (some .int) [(0, 9, 12, 13)] { frames := 8, cells := 1, slots := 6, locals := 134 } [.ref q0, .int x0, .ref q1] [(q0, .inr (11, [.ref q2, .ref q3, .ref q4, .ref q5, .ref q6, .ref q7, .ref q8, .ref q9, .ref q10, .ref q11, .int 0, .int (-1), .int 0, .int 0, .null, .null, .null, .null, .null]))] sz 1 (fun u => [(q0, .inr (11, [.ref q2, .ref q3, .ref q4, .ref q5, .ref q6, .ref q7, .ref q8, .ref q9, .ref q10, .ref q11, .int 0, .int (-1), .int 0, .int 0, .null, .null, .null, .null, .null]))]) := by
  refine Kh.of b0 (own := RL) (nm := "period") [(0, .ref q0), (1, .int x0), (2, .ref q1)] rfl rfl (by decide +kernel) (Nat.le_of_ble_eq_true rfl) rfl ?_
  intro p e s m below meth c A C hr ht H locs w ls hl
  have hx := C.hx
  have hb := C.hb
  refine lv_aload_n hx hb dL_period_0 rfl (lv_at hl 2 rfl) ?_
  refine lv_iconst (v := 0) hx hb dL_period_1 (by decide) ?_
  refine lv_aload_n hx hb dL_period_2 rfl (lv_at hl 0 rfl) ?_
  refine lv_iload_n hx hb dL_period_3 rfl (lv_at hl 1 rfl) ?_
  refine fin_x C w (run_Vx C w mv_L_111 (k454_period C.b0 q0 x0 h0 h1 H.size) [] rfl rfl 0 rfl rfl (by decide) rfl hl.1 rfl (Nat.le_of_ble_eq_true rfl) dL_period_4 (cells2 := 1) (slots2 := 6) (by decide)) [] [0] rfl rfl (by decide) (cells2 := 1) (slots2 := 6) (by decide) (fun qx2 ce H locs w hce hcv hcl => ?_)
  have w : Wd s G A [(q0, .inr (11, [.ref q2, .ref q3, .ref q4, .ref q5, .ref q6, .ref q7, .ref q8, .ref q9, .ref q10, .ref q11, .int 0, .int (-1), .int 0, .int 0, .null, .null, .null, .null, .null]))] H locs := w
  refine r_catch C ht (by decide) (by decide) tl_L_13 tk_java_lang_IllegalArgumentException hce hcv hcl ?_
  refine lv_astore_n (lv' := [(3, .ref qx2), (0, .ref q0), (1, .int x0), (2, .ref q1)]) hx hb dL_period_12 rfl hl (by decide) rfl (fun ls hl => ?_)
  refine lv_iconst (v := 1) hx hb dL_period_13 (by decide) ?_
  exact e_i C hr w (fun _ => 0) [0] rfl rfl rfl dL_period_14 (by decide) (by decide)
set_option maxRecDepth 100000 in
set_option maxHeartbeats 4000000 in
theorem k456_period {l : Launch} {s0 : State} {a0 : Array Value} {G : GT} (b0 : B0 l s0 a0 G) (q0 q1 q2 q3 q4 q5 q6 q7 q8 q9 q10 q11 q12 q13 q14 q15 q16 q17 q18 q19 q20 q21 q22 q23 q24 q25 q26 q27 q28 q29 q30 q31 q32 q33 q34 q35 q36 q37 q38 q39 q40 q41 q42 : Nat) (x0 : Int32) (h0 : 1 < x0) (h1 : ¬ x0 < 0) (sz : Nat) : Ki l s0 G yX12_period cX12_period 2 (some .int) { frames := 1, cells := 0, slots := 0, locals := 22 } [.ref q0, .int x0] [(q0, .inr (12, [.int 0, .int 0, .int 0, .int 0, .int 0, .int 0, .int 0, .int (-1), .ref q1, .ref q2, .ref q3, .int 0, .ref q4, .ref q5, .ref q6, .ref q7, .ref q8, .ref q9, .ref q10, .int 0, .ref q11, .ref q12, .ref q13, .ref q14, .ref q15, .ref q16, .ref q17, .int 0, .int (-1), .int 0, .ref q18, .ref q19, .ref q20, .ref q21, .ref q22, .ref q23, .ref q24, .ref q25, .int 0, .ref q26, .ref q27, .ref q28, .ref q29, .ref q30, .int 0, .ref q31, .ref q32, .ref q33, .ref q34, .int 0, .ref q35, .ref q36, .ref q37, .ref q38, .int 0, .int 0, .ref q39, .ref q40, .ref q41, .ref q42]))] sz 0 (fun u => [(q0, .inr (12, [.int 1, .int 0, .int 0, .int 0, .int 0, .int 0, .int 0, .int (-1), .ref q1, .ref q2, .ref q3, .int 0, .ref q4, .ref q5, .ref q6, .ref q7, .ref q8, .ref q9, .ref q10, .int 0, .ref q11, .ref q12, .ref q13, .ref q14, .ref q15, .ref q16, .ref q17, .int 0, .int (-1), .int 0, .ref q18, .ref q19, .ref q20, .ref q21, .ref q22, .ref q23, .ref q24, .ref q25, .int 0, .ref q26, .ref q27, .ref q28, .ref q29, .ref q30, .int 0, .ref q31, .ref q32, .ref q33, .ref q34, .int 0, .ref q35, .ref q36, .ref q37, .ref q38, .int 0, .int 0, .ref q39, .ref q40, .ref q41, .ref q42]))]) := by
  refine Ki.of b0 (own := RX12) (nm := "period") [(0, .ref q0), (1, .int x0)] rfl rfl (by decide +kernel) (Nat.le_of_ble_eq_true rfl) rfl ?_
  intro p e s m below meth c A C hr H locs w ls hl
  have hx := C.hx
  have hb := C.hb
  refine lv_aload_n hx hb dX12_period_0 rfl (lv_at hl 0 rfl) ?_
  refine lv_iconst (v := 0) hx hb dX12_period_1 (by decide) ?_
  refine r_put C w 0 rfl fl_X12_1 (Nat.le_of_ble_eq_true rfl) rfl rfl dX12_period_2 (ws2 := [(q0, .inr (12, [.int 0, .int 0, .int 0, .int 0, .int 0, .int 0, .int 0, .int (-1), .ref q1, .ref q2, .ref q3, .int 0, .ref q4, .ref q5, .ref q6, .ref q7, .ref q8, .ref q9, .ref q10, .int 0, .ref q11, .ref q12, .ref q13, .ref q14, .ref q15, .ref q16, .ref q17, .int 0, .int (-1), .int 0, .ref q18, .ref q19, .ref q20, .ref q21, .ref q22, .ref q23, .ref q24, .ref q25, .int 0, .ref q26, .ref q27, .ref q28, .ref q29, .ref q30, .int 0, .ref q31, .ref q32, .ref q33, .ref q34, .int 0, .ref q35, .ref q36, .ref q37, .ref q38, .int 0, .int 0, .ref q39, .ref q40, .ref q41, .ref q42]))]) rfl (fun H locs w => ?_)
  refine lv_aload_n hx hb dX12_period_5 rfl (lv_at hl 0 rfl) ?_
  refine lv_iload_n hx hb dX12_period_6 rfl (lv_at hl 1 rfl) ?_
  refine lv_iconst (v := 0) hx hb dX12_period_7 (by decide) ?_
  refine lv_iconst (v := 1) hx hb dX12_period_8 (by decide) ?_
  refine fin_i C w (run_S C w ms_X12_289 (k50_within C.b0 x0 h0 h1 H.size) [] rfl rfl (by decide) rfl hl.1 rfl (Nat.le_of_ble_eq_true rfl) dX12_period_9 (cells2 := 0) (slots2 := 0) (by decide)) [] [0] rfl rfl (by decide) (cells2 := 0) (slots2 := 0) (by decide) (fun u1 H locs w => ?_)
  have w : Wd s G A [(q0, .inr (12, [.int 0, .int 0, .int 0, .int 0, .int 0, .int 0, .int 0, .int (-1), .ref q1, .ref q2, .ref q3, .int 0, .ref q4, .ref q5, .ref q6, .ref q7, .ref q8, .ref q9, .ref q10, .int 0, .ref q11, .ref q12, .ref q13, .ref q14, .ref q15, .ref q16, .ref q17, .int 0, .int (-1), .int 0, .ref q18, .ref q19, .ref q20, .ref q21, .ref q22, .ref q23, .ref q24, .ref q25, .int 0, .ref q26, .ref q27, .ref q28, .ref q29, .ref q30, .int 0, .ref q31, .ref q32, .ref q33, .ref q34, .int 0, .ref q35, .ref q36, .ref q37, .ref q38, .int 0, .int 0, .ref q39, .ref q40, .ref q41, .ref q42]))] H locs := w
  refine lv_iconst (v := 1) hx hb dX12_period_12 (by decide) ?_
  refine fin_i C w (run_V C w mv_X12_267 (k18_may C.b0 q0 q1 q2 q3 q4 q5 q6 q7 q8 q9 q10 q11 q12 q13 q14 q15 q16 q17 q18 q19 q20 q21 q22 q23 q24 q25 q26 q27 q28 q29 q30 q31 q32 q33 q34 q35 q36 q37 q38 q39 q40 q41 q42 H.size) [0] rfl rfl 0 rfl rfl (by decide) rfl hl.1 rfl (Nat.le_of_ble_eq_true rfl) dX12_period_13 (cells2 := 0) (slots2 := 0) (by decide)) [0] [] rfl rfl (by decide) (cells2 := 0) (slots2 := 0) (by decide) (fun u2 H locs w => ?_)
  have w : Wd s G A [(q0, .inr (12, [.int 1, .int 0, .int 0, .int 0, .int 0, .int 0, .int 0, .int (-1), .ref q1, .ref q2, .ref q3, .int 0, .ref q4, .ref q5, .ref q6, .ref q7, .ref q8, .ref q9, .ref q10, .int 0, .ref q11, .ref q12, .ref q13, .ref q14, .ref q15, .ref q16, .ref q17, .int 0, .int (-1), .int 0, .ref q18, .ref q19, .ref q20, .ref q21, .ref q22, .ref q23, .ref q24, .ref q25, .int 0, .ref q26, .ref q27, .ref q28, .ref q29, .ref q30, .int 0, .ref q31, .ref q32, .ref q33, .ref q34, .int 0, .ref q35, .ref q36, .ref q37, .ref q38, .int 0, .int 0, .ref q39, .ref q40, .ref q41, .ref q42]))] H locs := w
  refine lv_if_ne (tgt := 21) hx hb dX12_period_16 (by decide) (fun h => absurd (by decide) h) (fun _ => ?_)
  refine lv_iconst (v := 0) hx hb dX12_period_19 (by decide) ?_
  exact e_i C hr w (fun _ => 0) [0] rfl rfl rfl dX12_period_20 (by decide) (by decide)
set_option maxRecDepth 100000 in
set_option maxHeartbeats 4000000 in
theorem k457_init {l : Launch} {s0 : State} {a0 : Array Value} {G : GT} (b0 : B0 l s0 a0 G) (q0 : Nat) (sz : Nat) : Kv l s0 G yX7_init cX7_init 4 none { frames := 1, cells := 2, slots := 36112, locals := 12 } [.ref q0, .int 16, .int 2001, .int 4096] [(q0, .inr (7, [.null, .int 0, .int 0, .int 0, .null]))] sz (fun u => [(q0, .inr (7, [.ref (u 0), .int 0, .int 0, .int 2001, .ref (u 1)])), ((u 0), .inl (G.2.1, 32016, .inl (fun _ => 0))), ((u 1), .inl (G.2.1, 4096, .inl (fun _ => 0)))]) := by
  refine Kv.of b0 (own := RX7) (nm := "<init>") [(0, .ref q0), (1, .int 16), (2, .int 2001), (3, .int 4096)] rfl rfl (by decide +kernel) (Nat.le_of_ble_eq_true rfl) rfl ?_
  intro p e s m below meth c A C hr H locs w ls hl
  have hx := C.hx
  have hb := C.hb
  refine lv_aload_n hx hb dX7_init_0 rfl (lv_at hl 0 rfl) ?_
  refine r_obj C to_X7_3 hl.1 (by decide) (Nat.le_of_ble_eq_true rfl) dX7_init_1 ?_
  refine lv_aload_n hx hb dX7_init_4 rfl (lv_at hl 0 rfl) ?_
  refine lv_iload_n hx hb dX7_init_5 rfl (lv_at hl 1 rfl) ?_
  refine lv_iload_n hx hb dX7_init_6 rfl (lv_at hl 2 rfl) ?_
  refine lv_imul hx hb dX7_init_7 ?_
  refine z_i (v := 32016) (by decide +kernel) ?_
  refine r_newI C w (N := 32016) (cells2 := 1) (slots2 := 32016) (by decide +kernel) ⟨by decide, by decide, by decide, by decide⟩ dX7_init_8 (fun q1 H w => ?_)
  have w : Wd s G A [(q0, .inr (7, [.null, .int 0, .int 0, .int 0, .null])), (q1, .inl (G.2.1, 32016, .inl (fun _ => 0)))] H locs := w
  refine r_putF C w 0 rfl fl_X7_9 (Nat.le_of_ble_eq_true rfl) rfl rfl dX7_init_10 (ws2 := [(q0, .inr (7, [.ref q1, .int 0, .int 0, .int 0, .null])), (q1, .inl (G.2.1, 32016, .inl (fun _ => 0)))]) rfl (fun H locs w => ?_)
  refine lv_aload_n hx hb dX7_init_13 rfl (lv_at hl 0 rfl) ?_
  refine lv_iload_n hx hb dX7_init_14 rfl (lv_at hl 2 rfl) ?_
  refine r_putF C w 0 rfl fl_X7_15 (Nat.le_of_ble_eq_true rfl) rfl rfl dX7_init_15 (ws2 := [(q0, .inr (7, [.ref q1, .int 0, .int 0, .int 2001, .null])), (q1, .inl (G.2.1, 32016, .inl (fun _ => 0)))]) rfl (fun H locs w => ?_)
  refine lv_aload_n hx hb dX7_init_18 rfl (lv_at hl 0 rfl) ?_
  refine lv_iload_n hx hb dX7_init_19 rfl (lv_at hl 3 rfl) ?_
  refine r_newI C w (N := 4096) (cells2 := 2) (slots2 := 36112) (by decide +kernel) ⟨by decide, by decide, by decide, by decide⟩ dX7_init_20 (fun q2 H w => ?_)
  have w : Wd s G A [(q0, .inr (7, [.ref q1, .int 0, .int 0, .int 2001, .null])), (q1, .inl (G.2.1, 32016, .inl (fun _ => 0))), (q2, .inl (G.2.1, 4096, .inl (fun _ => 0)))] H locs := w
  refine r_putF C w 0 rfl fl_X7_19 (Nat.le_of_ble_eq_true rfl) rfl rfl dX7_init_22 (ws2 := [(q0, .inr (7, [.ref q1, .int 0, .int 0, .int 2001, .ref q2])), (q1, .inl (G.2.1, 32016, .inl (fun _ => 0))), (q2, .inl (G.2.1, 4096, .inl (fun _ => 0)))]) rfl (fun H locs w => ?_)
  exact e_v C hr w (fun k => [q1, q2].getD k 0) [0, 1, 2] rfl rfl dX7_init_25 (by decide) (by decide)
set_option maxRecDepth 100000 in
set_option maxHeartbeats 4000000 in
theorem k458_init {l : Launch} {s0 : State} {a0 : Array Value} {G : GT} (b0 : B0 l s0 a0 G) (q0 : Nat) (sz : Nat) : Kv l s0 G yX10_init cX10_init 1 none { frames := 2, cells := 5, slots := 52149, locals := 35 } [.ref q0] [(q0, .inr (10, [.int 0, .int 0, .int 0, .null, .null, .null, .null]))] sz (fun u => [(q0, .inr (10, [.int (-1), .int (-1), .int (-1), .ref (u 0), .ref (u 3), .ref (u 4), .null])), ((u 0), .inr (7, [.ref (u 1), .int 0, .int 0, .int 2001, .ref (u 2)])), ((u 1), .inl (G.2.1, 32016, .inl (fun _ => 0))), ((u 2), .inl (G.2.1, 4096, .inl (fun _ => 0))), ((u 3), .inl (G.2.1, 16016, .inl (fun _ => 0))), ((u 4), .inl (G.2.1, 16, .inl (fun _ => 0)))]) := by
  refine Kv.of b0 (own := RX10) (nm := "<init>") [(0, .ref q0)] rfl rfl (by decide +kernel) (Nat.le_of_ble_eq_true rfl) rfl ?_
  intro p e s m below meth c A C hr H locs w ls hl
  have hx := C.hx
  have hb := C.hb
  refine lv_aload_n hx hb dX10_init_0 rfl (lv_at hl 0 rfl) ?_
  refine r_obj C to_X10_3 hl.1 (by decide) (Nat.le_of_ble_eq_true rfl) dX10_init_1 ?_
  refine lv_aload_n hx hb dX10_init_4 rfl (lv_at hl 0 rfl) ?_
  refine lv_iconst (v := (-1)) hx hb dX10_init_5 (by decide) ?_
  refine r_put C w 0 rfl fl_X10_9 (Nat.le_of_ble_eq_true rfl) rfl rfl dX10_init_6 (ws2 := [(q0, .inr (10, [.int (-1), .int 0, .int 0, .null, .null, .null, .null]))]) rfl (fun H locs w => ?_)
  refine lv_aload_n hx hb dX10_init_9 rfl (lv_at hl 0 rfl) ?_
  refine lv_iconst (v := (-1)) hx hb dX10_init_10 (by decide) ?_
  refine r_put C w 0 rfl fl_X10_15 (Nat.le_of_ble_eq_true rfl) rfl rfl dX10_init_11 (ws2 := [(q0, .inr (10, [.int (-1), .int (-1), .int 0, .null, .null, .null, .null]))]) rfl (fun H locs w => ?_)
  refine lv_aload_n hx hb dX10_init_14 rfl (lv_at hl 0 rfl) ?_
  refine lv_iconst (v := (-1)) hx hb dX10_init_15 (by decide) ?_
  refine r_put C w 0 rfl fl_X10_18 (Nat.le_of_ble_eq_true rfl) rfl rfl dX10_init_16 (ws2 := [(q0, .inr (10, [.int (-1), .int (-1), .int (-1), .null, .null, .null, .null]))]) rfl (fun H locs w => ?_)
  refine lv_aload_n hx hb dX10_init_19 rfl (lv_at hl 0 rfl) ?_
  refine r_new C w (cells2 := 1) (slots2 := 5) no_X10_21 ⟨by decide, by decide, by decide, by decide⟩ dX10_init_20 (fun q1 H w => ?_)
  have w : Wd s G A [(q0, .inr (10, [.int (-1), .int (-1), .int (-1), .null, .null, .null, .null])), (q1, .inr (7, [.null, .int 0, .int 0, .int 0, .null]))] H locs := w
  refine lv_dup hx hb dX10_init_23 rfl ?_
  refine lv_bipush (v := 16) hx hb dX10_init_24 (by decide) ?_
  refine lv_sipush (v := 2001) hx hb dX10_init_26 (by decide) ?_
  refine lv_sipush (v := 4096) hx hb dX10_init_29 (by decide) ?_
  refine fin_v C w (run_I C w mi_X10_23 (k457_init C.b0 q1 H.size) [1] rfl rfl (by decide) rfl hl.1 rfl (Nat.le_of_ble_eq_true rfl) dX10_init_32 (cells2 := 3) (slots2 := 36117) (by decide)) [1] [0] rfl rfl (by decide) (cells2 := 3) (slots2 := 36117) (by decide) (fun u2 H locs w => ?_)
  have w : Wd s G A [(q0, .inr (10, [.int (-1), .int (-1), .int (-1), .null, .null, .null, .null])), (q1, .inr (7, [.ref (u2 0), .int 0, .int 0, .int 2001, .ref (u2 1)])), ((u2 0), .inl (G.2.1, 32016, .inl (fun _ => 0))), ((u2 1), .inl (G.2.1, 4096, .inl (fun _ => 0)))] H locs := w
  refine r_putF C w 0 rfl fl_X10_26 (Nat.le_of_ble_eq_true rfl) rfl rfl dX10_init_35 (ws2 := [(q0, .inr (10, [.int (-1), .int (-1), .int (-1), .ref q1, .null, .null, .null])), (q1, .inr (7, [.ref (u2 0), .int 0, .int 0, .int 2001, .ref (u2 1)])), ((u2 0), .inl (G.2.1, 32016, .inl (fun _ => 0))), ((u2 1), .inl (G.2.1, 4096, .inl (fun _ => 0)))]) rfl (fun H locs w => ?_)
  refine lv_aload_n hx hb dX10_init_38 rfl (lv_at hl 0 rfl) ?_
  refine lv_sipush (v := 16016) hx hb dX10_init_39 (by decide) ?_
  refine r_newI C w (N := 16016) (cells2 := 4) (slots2 := 52133) (by decide +kernel) ⟨by decide, by decide, by decide, by decide⟩ dX10_init_42 (fun q3 H w => ?_)
  have w : Wd s G A [(q0, .inr (10, [.int (-1), .int (-1), .int (-1), .ref q1, .null, .null, .null])), (q1, .inr (7, [.ref (u2 0), .int 0, .int 0, .int 2001, .ref (u2 1)])), ((u2 0), .inl (G.2.1, 32016, .inl (fun _ => 0))), ((u2 1), .inl (G.2.1, 4096, .inl (fun _ => 0))), (q3, .inl (G.2.1, 16016, .inl (fun _ => 0)))] H locs := w
  refine r_putF C w 0 rfl fl_X10_30 (Nat.le_of_ble_eq_true rfl) rfl rfl dX10_init_44 (ws2 := [(q0, .inr (10, [.int (-1), .int (-1), .int (-1), .ref q1, .ref q3, .null, .null])), (q1, .inr (7, [.ref (u2 0), .int 0, .int 0, .int 2001, .ref (u2 1)])), ((u2 0), .inl (G.2.1, 32016, .inl (fun _ => 0))), ((u2 1), .inl (G.2.1, 4096, .inl (fun _ => 0))), (q3, .inl (G.2.1, 16016, .inl (fun _ => 0)))]) rfl (fun H locs w => ?_)
  refine lv_aload_n hx hb dX10_init_47 rfl (lv_at hl 0 rfl) ?_
  refine lv_bipush (v := 16) hx hb dX10_init_48 (by decide) ?_
  refine r_newI C w (N := 16) (cells2 := 5) (slots2 := 52149) (by decide +kernel) ⟨by decide, by decide, by decide, by decide⟩ dX10_init_50 (fun q4 H w => ?_)
  have w : Wd s G A [(q0, .inr (10, [.int (-1), .int (-1), .int (-1), .ref q1, .ref q3, .null, .null])), (q1, .inr (7, [.ref (u2 0), .int 0, .int 0, .int 2001, .ref (u2 1)])), ((u2 0), .inl (G.2.1, 32016, .inl (fun _ => 0))), ((u2 1), .inl (G.2.1, 4096, .inl (fun _ => 0))), (q3, .inl (G.2.1, 16016, .inl (fun _ => 0))), (q4, .inl (G.2.1, 16, .inl (fun _ => 0)))] H locs := w
  refine r_putF C w 0 rfl fl_X10_34 (Nat.le_of_ble_eq_true rfl) rfl rfl dX10_init_52 (ws2 := [(q0, .inr (10, [.int (-1), .int (-1), .int (-1), .ref q1, .ref q3, .ref q4, .null])), (q1, .inr (7, [.ref (u2 0), .int 0, .int 0, .int 2001, .ref (u2 1)])), ((u2 0), .inl (G.2.1, 32016, .inl (fun _ => 0))), ((u2 1), .inl (G.2.1, 4096, .inl (fun _ => 0))), (q3, .inl (G.2.1, 16016, .inl (fun _ => 0))), (q4, .inl (G.2.1, 16, .inl (fun _ => 0)))]) rfl (fun H locs w => ?_)
  exact e_v C hr w (fun k => [q1, (u2 0), (u2 1), q3, q4].getD k 0) [0, 1, 2, 3, 4, 5] rfl rfl dX10_init_55 (by decide) (by decide)
set_option maxRecDepth 100000 in
set_option maxHeartbeats 4000000 in
theorem k459_wipe {l : Launch} {s0 : State} {a0 : Array Value} {G : GT} (b0 : B0 l s0 a0 G) (q0 q1 q2 : Nat) (sz : Nat) : Kv l s0 G yX7_wipe cX7_wipe 2 none { frames := 1, cells := 0, slots := 0, locals := 23 } [.ref q0, .int 0] [(q0, .inr (7, [.ref q2, .int 0, .int 0, .int 2001, .ref q1])), (q1, .inl (G.2.1, 4096, .inl (fun _ => 0)))] sz (fun u => [(q0, .inr (7, [.ref q2, .int 0, .int 0, .int 2001, .ref q1])), (q1, .inl (G.2.1, 4096, .inl (fun _ => (-1))))]) := by
  refine Kv.of b0 (own := RX7) (nm := "wipe") [(0, .ref q0), (1, .int 0)] rfl rfl (by decide +kernel) (Nat.le_of_ble_eq_true rfl) rfl ?_
  intro p e s m below meth c A C hr H locs w ls hl
  have hx := C.hx
  have hb := C.hb
  refine lv_aload_n hx hb dX7_wipe_0 rfl (lv_at hl 0 rfl) ?_
  refine lv_iload_n hx hb dX7_wipe_1 rfl (lv_at hl 1 rfl) ?_
  refine r_put C w 0 rfl fl_X7_22 (Nat.le_of_ble_eq_true rfl) rfl rfl dX7_wipe_2 (ws2 := [(q0, .inr (7, [.ref q2, .int 0, .int 0, .int 2001, .ref q1])), (q1, .inl (G.2.1, 4096, .inl (fun _ => 0)))]) rfl (fun H locs w => ?_)
  refine lv_aload_n hx hb dX7_wipe_5 rfl (lv_at hl 0 rfl) ?_
  refine lv_iconst (v := 0) hx hb dX7_wipe_6 (by decide) ?_
  refine r_put C w 0 rfl fl_X7_25 (Nat.le_of_ble_eq_true rfl) rfl rfl dX7_wipe_7 (ws2 := [(q0, .inr (7, [.ref q2, .int 0, .int 0, .int 2001, .ref q1])), (q1, .inl (G.2.1, 4096, .inl (fun _ => 0)))]) rfl (fun H locs w => ?_)
  refine lv_aload_n hx hb dX7_wipe_10 rfl (lv_at hl 0 rfl) ?_
  refine r_get C w 0 rfl fr_X7_19 rfl dX7_wipe_11 ?_
  refine lv_iconst (v := (-1)) hx hb dX7_wipe_14 (by decide) ?_
  refine fin_v C w (run_S C w ms_X7_28 (k_fillI C.b0 q1 4096 (by decide) (fun _ => 0) (-1) H.size) [1] rfl rfl (by decide) rfl hl.1 rfl (Nat.le_of_ble_eq_true rfl) dX7_wipe_15 (cells2 := 0) (slots2 := 0) (by decide)) [1] [0] rfl rfl (by decide) (cells2 := 0) (slots2 := 0) (by decide) (fun u1 H locs w => ?_)
  have w : Wd s G A [(q0, .inr (7, [.ref q2, .int 0, .int 0, .int 2001, .ref q1])), (q1, .inl (G.2.1, 4096, .inl (fun _ => (-1))))] H locs := w
  exact e_v C hr w (fun _ => 0) [0, 1] rfl rfl dX7_wipe_18 (by decide) (by decide)
set_option maxRecDepth 100000 in
set_option maxHeartbeats 4000000 in
theorem k460_spread {l : Launch} {s0 : State} {a0 : Array Value} {G : GT} (b0 : B0 l s0 a0 G) (q0 q1 q2 q3 : Nat) (sz : Nat) : Ki l s0 G yX7_spread cX7_spread 4 (some .int) { frames := 0, cells := 0, slots := 0, locals := 0 } [.ref q0, .ref q1] [(q0, .inr (7, [.ref q2, .int 0, .int 0, .int 2001, .ref q3]))] sz 7 (fun u => [(q0, .inr (7, [.ref q2, .int 0, .int 0, .int 2001, .ref q3]))]) := by
  refine Ki.of b0 (own := RX7) (nm := "spread") [(0, .ref q0), (1, .ref q1)] rfl rfl (by decide +kernel) (Nat.le_of_ble_eq_true rfl) rfl ?_
  intro p e s m below meth c A C hr H locs w ls hl
  have hx := C.hx
  have hb := C.hb
  refine lv_bipush (v := 7) hx hb dX7_spread_0 (by decide) ?_
  refine lv_istore_n (lv' := [(2, .int 7), (0, .ref q0), (1, .ref q1)]) hx hb dX7_spread_2 rfl hl (by decide) rfl (fun ls hl => ?_)
  refine lv_iconst (v := 0) hx hb dX7_spread_3 (by decide) ?_
  refine lv_istore_n (lv' := [(3, .int 0), (2, .int 7), (0, .ref q0), (1, .ref q1)]) hx hb dX7_spread_4 rfl hl (by decide) rfl (fun ls hl => ?_)
  refine lv_iload_n hx hb dX7_spread_5 rfl (lv_at hl 0 rfl) ?_
  refine lv_aload_n hx hb dX7_spread_6 rfl (lv_at hl 2 rfl) ?_
  refine r_get C w 0 rfl fr_X7_22 rfl dX7_spread_7 ?_
  refine lv_icmp_ge (tgt := 35) hx hb dX7_spread_10 (by decide) (fun _ => ?_) (fun h => absurd (by decide) h)
  refine lv_iload_n hx hb dX7_spread_35 rfl (lv_at hl 1 rfl) ?_
  exact e_i C hr w (fun _ => 0) [0] rfl rfl rfl dX7_spread_36 (by decide) (by decide)
set_option maxRecDepth 100000 in
set_option maxHeartbeats 4000000 in
theorem k461_enter {l : Launch} {s0 : State} {a0 : Array Value} {G : GT} (b0 : B0 l s0 a0 G) (q0 q1 q2 q3 : Nat) (sz : Nat) : Ki l s0 G yX7_enter cX7_enter 5 (some .int) { frames := 1, cells := 0, slots := 0, locals := 100 } [.ref q0, .ref q2] [(q0, .inr (7, [.ref q3, .int 0, .int 0, .int 2001, .ref q1])), (q1, .inl (G.2.1, 4096, .inl (fun _ => (-1)))), (q2, .inl (G.2.1, 16, .inl (fun _ => 0))), (q3, .inl (G.2.1, 32016, .inl (fun _ => 0)))] sz 0 (fun u => [(q0, .inr (7, [.ref q3, .int 0, .int 1, .int 2001, .ref q1])), (q1, .inl (G.2.1, 4096, .inl (upd (fun _ => (-1)) 7 0))), (q2, .inl (G.2.1, 16, .inl (fun _ => 0))), (q3, .inl (G.2.1, 32016, .inl (fun _ => 0)))]) := by
  refine Ki.of b0 (own := RX7) (nm := "enter") [(0, .ref q0), (1, .ref q2)] rfl rfl (by decide +kernel) (Nat.le_of_ble_eq_true rfl) rfl ?_
  intro p e s m below meth c A C hr H locs w ls hl
  have hx := C.hx
  have hb := C.hb
  refine lv_aload_n hx hb dX7_enter_0 rfl (lv_at hl 0 rfl) ?_
  refine r_get C w 0 rfl fr_X7_19 rfl dX7_enter_1 ?_
  refine r_alenI C w 1 rfl (v := 4096) (by decide +kernel) dX7_enter_4 ?_
  refine lv_iconst (v := 1) hx hb dX7_enter_5 (by decide) ?_
  refine lv_isub hx hb dX7_enter_6 ?_
  refine z_i (v := 4095) (by decide +kernel) ?_
  refine lv_istore_n (lv' := [(2, .int 4095), (0, .ref q0), (1, .ref q2)]) hx hb dX7_enter_7 rfl hl (by decide) rfl (fun ls hl => ?_)
  refine lv_aload_n hx hb dX7_enter_8 rfl (lv_at hl 1 rfl) ?_
  refine lv_aload_n hx hb dX7_enter_9 rfl (lv_at hl 2 rfl) ?_
  refine fin_i C w (run_V C w mv_X7_34 (k460_spread C.b0 q0 q2 q3 q1 H.size) [0] rfl rfl 0 rfl rfl (by decide) rfl hl.1 rfl (Nat.le_of_ble_eq_true rfl) dX7_enter_10 (cells2 := 0) (slots2 := 0) (by decide)) [0] [1, 2, 3] rfl rfl (by decide) (cells2 := 0) (slots2 := 0) (by decide) (fun u1 H locs w => ?_)
  have w : Wd s G A [(q1, .inl (G.2.1, 4096, .inl (fun _ => (-1)))), (q2, .inl (G.2.1, 16, .inl (fun _ => 0))), (q3, .inl (G.2.1, 32016, .inl (fun _ => 0))), (q0, .inr (7, [.ref q3, .int 0, .int 0, .int 2001, .ref q1]))] H locs := w
  refine lv_iload_n hx hb dX7_enter_13 rfl (lv_at hl 0 rfl) ?_
  refine lv_iand hx hb dX7_enter_14 ?_
  refine z_i (v := 7) (by decide +kernel) ?_
  refine lv_istore_n (lv' := [(3, .int 7), (2, .int 4095), (0, .ref q0), (1, .ref q2)]) hx hb dX7_enter_15 rfl hl (by decide) rfl (fun ls hl => ?_)
  refine lv_iconst (v := 0) hx hb dX7_enter_16 (by decide) ?_
  refine lv_istore (lv' := [(4, .int 0), (3, .int 7), (2, .int 4095), (0, .ref q0), (1, .ref q2)]) hx hb dX7_enter_17 hl (by decide) rfl (fun ls hl => ?_)
  refine lv_iload hx hb dX7_enter_19 (lv_at hl 0 rfl) ?_
  refine lv_iload_n hx hb dX7_enter_21 rfl (lv_at hl 2 rfl) ?_
  refine lv_icmp_gt (tgt := 68) hx hb dX7_enter_22 (by decide) (fun h => absurd h (by decide)) (fun _ => ?_)
  refine lv_aload_n hx hb dX7_enter_25 rfl (lv_at hl 3 rfl) ?_
  refine r_get C w 3 rfl fr_X7_19 rfl dX7_enter_26 ?_
  refine lv_iload_n hx hb dX7_enter_29 rfl (lv_at hl 1 rfl) ?_
  refine r_iald C w 0 rfl (IX.of (k := 7) (by decide +kernel)) (v := (-1)) rfl dX7_enter_30 ?_
  refine lv_iconst (v := (-1)) hx hb dX7_enter_31 (by decide) ?_
  refine lv_icmp_eq (tgt := 68) hx hb dX7_enter_32 (by decide) (fun _ => ?_) (fun h => absurd (by decide) h)
  refine lv_aload_n hx hb dX7_enter_68 rfl (lv_at hl 3 rfl) ?_
  refine r_get C w 3 rfl fr_X7_25 rfl dX7_enter_69 ?_
  refine lv_aload_n hx hb dX7_enter_72 rfl (lv_at hl 3 rfl) ?_
  refine r_get C w 3 rfl fr_X7_15 rfl dX7_enter_73 ?_
  refine lv_icmp_lt (tgt := 81) hx hb dX7_enter_76 (by decide) (fun _ => ?_) (fun h => absurd (by decide) h)
  refine lv_aload_n hx hb dX7_enter_81 rfl (lv_at hl 4 rfl) ?_
  refine lv_iconst (v := 0) hx hb dX7_enter_82 (by decide) ?_
  refine lv_aload_n hx hb dX7_enter_83 rfl (lv_at hl 3 rfl) ?_
  refine r_get C w 3 rfl fr_X7_9 rfl dX7_enter_84 ?_
  refine lv_aload_n hx hb dX7_enter_87 rfl (lv_at hl 3 rfl) ?_
  refine r_get C w 3 rfl fr_X7_25 rfl dX7_enter_88 ?_
  refine lv_aload_n hx hb dX7_enter_91 rfl (lv_at hl 3 rfl) ?_
  refine r_get C w 3 rfl fr_X7_22 rfl dX7_enter_92 ?_
  refine lv_imul hx hb dX7_enter_95 ?_
  refine z_i (v := 0) (by decide +kernel) ?_
  refine lv_aload_n hx hb dX7_enter_96 rfl (lv_at hl 3 rfl) ?_
  refine r_get C w 3 rfl fr_X7_22 rfl dX7_enter_97 ?_
  refine r_copyI C w 1 2 rfl rfl (sp' := 0) (dp' := 0) (n' := 0) (by decide +kernel) cp_X7_42 hl.1 (cpy_0 _ _ _ _) (by decide) (Nat.le_of_ble_eq_true rfl) dX7_enter_100 (ws2 := [(q1, .inl (G.2.1, 4096, .inl (fun _ => (-1)))), (q2, .inl (G.2.1, 16, .inl (fun _ => 0))), (q3, .inl (G.2.1, 32016, .inl (fun _ => 0))), (q0, .inr (7, [.ref q3, .int 0, .int 0, .int 2001, .ref q1]))]) rfl (fun H locs w => ?_)
  refine lv_aload_n hx hb dX7_enter_103 rfl (lv_at hl 3 rfl) ?_
  refine r_get C w 3 rfl fr_X7_19 rfl dX7_enter_104 ?_
  refine lv_iload_n hx hb dX7_enter_107 rfl (lv_at hl 1 rfl) ?_
  refine lv_aload_n hx hb dX7_enter_108 rfl (lv_at hl 3 rfl) ?_
  refine r_get C w 3 rfl fr_X7_25 rfl dX7_enter_109 ?_
  refine r_iast C w 0 rfl (IX.of (k := 7) (by decide +kernel)) (g := (upd (fun _ => (-1)) 7 0)) rfl dX7_enter_112 (ws2 := [(q1, .inl (G.2.1, 4096, .inl (upd (fun _ => (-1)) 7 0))), (q2, .inl (G.2.1, 16, .inl (fun _ => 0))), (q3, .inl (G.2.1, 32016, .inl (fun _ => 0))), (q0, .inr (7, [.ref q3, .int 0, .int 0, .int 2001, .ref q1]))]) rfl (fun H locs w => ?_)
  refine lv_aload_n hx hb dX7_enter_113 rfl (lv_at hl 3 rfl) ?_
  refine lv_dup hx hb dX7_enter_114 rfl ?_
  refine r_get C w 3 rfl fr_X7_25 rfl dX7_enter_115 ?_
  refine lv_iconst (v := 1) hx hb dX7_enter_118 (by decide) ?_
  refine lv_iadd hx hb dX7_enter_119 ?_
  refine z_i (v := 1) (by decide +kernel) ?_
  refine r_put C w 3 rfl fl_X7_25 (Nat.le_of_ble_eq_true rfl) rfl rfl dX7_enter_120 (ws2 := [(q1, .inl (G.2.1, 4096, .inl (upd (fun _ => (-1)) 7 0))), (q2, .inl (G.2.1, 16, .inl (fun _ => 0))), (q3, .inl (G.2.1, 32016, .inl (fun _ => 0))), (q0, .inr (7, [.ref q3, .int 0, .int 1, .int 2001, .ref q1]))]) rfl (fun H locs w => ?_)
  refine lv_aload_n hx hb dX7_enter_123 rfl (lv_at hl 3 rfl) ?_
  refine r_get C w 3 rfl fr_X7_25 rfl dX7_enter_124 ?_
  refine lv_iconst (v := 1) hx hb dX7_enter_127 (by decide) ?_
  refine lv_isub hx hb dX7_enter_128 ?_
  refine z_i (v := 0) (by decide +kernel) ?_
  exact e_i C hr w (fun _ => 0) [3, 0, 1, 2] rfl rfl rfl dX7_enter_129 (by decide) (by decide)
set_option maxRecDepth 100000 in
set_option maxHeartbeats 4000000 in
theorem k462_begin {l : Launch} {s0 : State} {a0 : Array Value} {G : GT} (b0 : B0 l s0 a0 G) (q0 q1 q2 q3 q4 q5 q6 q7 q8 q9 q10 q11 q12 q13 q14 q15 q16 q17 q18 q19 q20 q21 : Nat) (sz : Nat) : Kv l s0 G yX10_begin cX10_begin 4 none { frames := 2, cells := 0, slots := 0, locals := 124 } [.ref q0, .ref q2, .ref q3, .int 0] [(q0, .inr (10, [.int (-1), .int (-1), .int (-1), .ref q4, .ref q7, .ref q1, .null])), (q1, .inl (G.2.1, 16, .inl (fun _ => 0))), (q2, .inr (2, [.int 0, .int 0, .ref q8, .ref q9, .ref q10, .ref q11, .ref q12, .ref q13, .ref q14, .ref q15, .ref q16, .ref q17, .ref q18, .ref q19, .ref q20, .ref q21, .int 0])), (q3, .inl (G.2.1, 8, .inl (fun _ => 0))), (q4, .inr (7, [.ref q6, .int 0, .int 0, .int 2001, .ref q5])), (q5, .inl (G.2.1, 4096, .inl (fun _ => 0))), (q6, .inl (G.2.1, 32016, .inl (fun _ => 0)))] sz (fun u => [(q0, .inr (10, [.int 0, .int (-1), .int (-1), .ref q4, .ref q7, .ref q1, .ref q2])), (q1, .inl (G.2.1, 16, .inl (fun _ => 0))), (q2, .inr (2, [.int 0, .int 0, .ref q8, .ref q9, .ref q10, .ref q11, .ref q12, .ref q13, .ref q14, .ref q15, .ref q16, .ref q17, .ref q18, .ref q19, .ref q20, .ref q21, .int 0])), (q3, .inl (G.2.1, 8, .inl (fun _ => 0))), (q4, .inr (7, [.ref q6, .int 0, .int 1, .int 2001, .ref q5])), (q5, .inl (G.2.1, 4096, .inl (upd (fun _ => (-1)) 7 0))), (q6, .inl (G.2.1, 32016, .inl (fun _ => 0)))]) := by
  refine Kv.of b0 (own := RX10) (nm := "begin") [(0, .ref q0), (1, .ref q2), (2, .ref q3), (3, .int 0)] rfl rfl (by decide +kernel) (Nat.le_of_ble_eq_true rfl) rfl ?_
  intro p e s m below meth c A C hr H locs w ls hl
  have hx := C.hx
  have hb := C.hb
  refine lv_aload_n hx hb dX10_begin_0 rfl (lv_at hl 0 rfl) ?_
  refine lv_aload_n hx hb dX10_begin_1 rfl (lv_at hl 1 rfl) ?_
  refine r_put C w 0 rfl fl_X10_37 (Nat.le_of_ble_eq_true rfl) rfl rfl dX10_begin_2 (ws2 := [(q0, .inr (10, [.int (-1), .int (-1), .int (-1), .ref q4, .ref q7, .ref q1, .ref q2])), (q1, .inl (G.2.1, 16, .inl (fun _ => 0))), (q2, .inr (2, [.int 0, .int 0, .ref q8, .ref q9, .ref q10, .ref q11, .ref q12, .ref q13, .ref q14, .ref q15, .ref q16, .ref q17, .ref q18, .ref q19, .ref q20, .ref q21, .int 0])), (q3, .inl (G.2.1, 8, .inl (fun _ => 0))), (q4, .inr (7, [.ref q6, .int 0, .int 0, .int 2001, .ref q5])), (q5, .inl (G.2.1, 4096, .inl (fun _ => 0))), (q6, .inl (G.2.1, 32016, .inl (fun _ => 0)))]) rfl (fun H locs w => ?_)
  refine lv_aload_n hx hb dX10_begin_5 rfl (lv_at hl 0 rfl) ?_
  refine lv_iload_n hx hb dX10_begin_6 rfl (lv_at hl 3 rfl) ?_
  refine r_put C w 0 rfl fl_X10_9 (Nat.le_of_ble_eq_true rfl) rfl rfl dX10_begin_7 (ws2 := [(q0, .inr (10, [.int 0, .int (-1), .int (-1), .ref q4, .ref q7, .ref q1, .ref q2])), (q1, .inl (G.2.1, 16, .inl (fun _ => 0))), (q2, .inr (2, [.int 0, .int 0, .ref q8, .ref q9, .ref q10, .ref q11, .ref q12, .ref q13, .ref q14, .ref q15, .ref q16, .ref q17, .ref q18, .ref q19, .ref q20, .ref q21, .int 0])), (q3, .inl (G.2.1, 8, .inl (fun _ => 0))), (q4, .inr (7, [.ref q6, .int 0, .int 0, .int 2001, .ref q5])), (q5, .inl (G.2.1, 4096, .inl (fun _ => 0))), (q6, .inl (G.2.1, 32016, .inl (fun _ => 0)))]) rfl (fun H locs w => ?_)
  refine lv_aload_n hx hb dX10_begin_10 rfl (lv_at hl 0 rfl) ?_
  refine lv_iconst (v := (-1)) hx hb dX10_begin_11 (by decide) ?_
  refine r_put C w 0 rfl fl_X10_15 (Nat.le_of_ble_eq_true rfl) rfl rfl dX10_begin_12 (ws2 := [(q0, .inr (10, [.int 0, .int (-1), .int (-1), .ref q4, .ref q7, .ref q1, .ref q2])), (q1, .inl (G.2.1, 16, .inl (fun _ => 0))), (q2, .inr (2, [.int 0, .int 0, .ref q8, .ref q9, .ref q10, .ref q11, .ref q12, .ref q13, .ref q14, .ref q15, .ref q16, .ref q17, .ref q18, .ref q19, .ref q20, .ref q21, .int 0])), (q3, .inl (G.2.1, 8, .inl (fun _ => 0))), (q4, .inr (7, [.ref q6, .int 0, .int 0, .int 2001, .ref q5])), (q5, .inl (G.2.1, 4096, .inl (fun _ => 0))), (q6, .inl (G.2.1, 32016, .inl (fun _ => 0)))]) rfl (fun H locs w => ?_)
  refine lv_aload_n hx hb dX10_begin_15 rfl (lv_at hl 0 rfl) ?_
  refine lv_iconst (v := (-1)) hx hb dX10_begin_16 (by decide) ?_
  refine r_put C w 0 rfl fl_X10_18 (Nat.le_of_ble_eq_true rfl) rfl rfl dX10_begin_17 (ws2 := [(q0, .inr (10, [.int 0, .int (-1), .int (-1), .ref q4, .ref q7, .ref q1, .ref q2])), (q1, .inl (G.2.1, 16, .inl (fun _ => 0))), (q2, .inr (2, [.int 0, .int 0, .ref q8, .ref q9, .ref q10, .ref q11, .ref q12, .ref q13, .ref q14, .ref q15, .ref q16, .ref q17, .ref q18, .ref q19, .ref q20, .ref q21, .int 0])), (q3, .inl (G.2.1, 8, .inl (fun _ => 0))), (q4, .inr (7, [.ref q6, .int 0, .int 0, .int 2001, .ref q5])), (q5, .inl (G.2.1, 4096, .inl (fun _ => 0))), (q6, .inl (G.2.1, 32016, .inl (fun _ => 0)))]) rfl (fun H locs w => ?_)
  refine lv_aload_n hx hb dX10_begin_20 rfl (lv_at hl 0 rfl) ?_
  refine r_get C w 0 rfl fr_X10_34 rfl dX10_begin_21 ?_
  refine lv_iconst (v := 0) hx hb dX10_begin_24 (by decide) ?_
  refine fin_v C w (run_S C w ms_X10_41 (k_fillI C.b0 q1 16 (by decide) (fun _ => 0) 0 H.size) [1] rfl rfl (by decide) rfl hl.1 rfl (Nat.le_of_ble_eq_true rfl) dX10_begin_25 (cells2 := 0) (slots2 := 0) (by decide)) [1] [0, 2, 3, 4, 5, 6] rfl rfl (by decide) (cells2 := 0) (slots2 := 0) (by decide) (fun u1 H locs w => ?_)
  have w : Wd s G A [(q0, .inr (10, [.int 0, .int (-1), .int (-1), .ref q4, .ref q7, .ref q1, .ref q2])), (q2, .inr (2, [.int 0, .int 0, .ref q8, .ref q9, .ref q10, .ref q11, .ref q12, .ref q13, .ref q14, .ref q15, .ref q16, .ref q17, .ref q18, .ref q19, .ref q20, .ref q21, .int 0])), (q3, .inl (G.2.1, 8, .inl (fun _ => 0))), (q4, .inr (7, [.ref q6, .int 0, .int 0, .int 2001, .ref q5])), (q5, .inl (G.2.1, 4096, .inl (fun _ => 0))), (q6, .inl (G.2.1, 32016, .inl (fun _ => 0))), (q1, .inl (G.2.1, 16, .inl (fun _ => 0)))] H locs := w
  refine lv_aload_n hx hb dX10_begin_28 rfl (lv_at hl 2 rfl) ?_
  refine lv_iconst (v := 0) hx hb dX10_begin_29 (by decide) ?_
  refine lv_aload_n hx hb dX10_begin_30 rfl (lv_at hl 0 rfl) ?_
  refine r_get C w 0 rfl fr_X10_34 rfl dX10_begin_31 ?_
  refine lv_iconst (v := 0) hx hb dX10_begin_34 (by decide) ?_
  refine lv_aload_n hx hb dX10_begin_35 rfl (lv_at hl 0 rfl) ?_
  refine r_get C w 0 rfl fr_X10_37 rfl dX10_begin_36 ?_
  refine r_get C w 1 rfl fr_X10_47 rfl dX10_begin_39 ?_
  refine r_copyI C w 2 6 rfl rfl (sp' := 0) (dp' := 0) (n' := 0) (by decide +kernel) cp_X10_52 hl.1 (cpy_0 _ _ _ _) (by decide) (Nat.le_of_ble_eq_true rfl) dX10_begin_42 (ws2 := [(q0, .inr (10, [.int 0, .int (-1), .int (-1), .ref q4, .ref q7, .ref q1, .ref q2])), (q2, .inr (2, [.int 0, .int 0, .ref q8, .ref q9, .ref q10, .ref q11, .ref q12, .ref q13, .ref q14, .ref q15, .ref q16, .ref q17, .ref q18, .ref q19, .ref q20, .ref q21, .int 0])), (q3, .inl (G.2.1, 8, .inl (fun _ => 0))), (q4, .inr (7, [.ref q6, .int 0, .int 0, .int 2001, .ref q5])), (q5, .inl (G.2.1, 4096, .inl (fun _ => 0))), (q6, .inl (G.2.1, 32016, .inl (fun _ => 0))), (q1, .inl (G.2.1, 16, .inl (fun _ => 0)))]) rfl (fun H locs w => ?_)
  refine lv_aload_n hx hb dX10_begin_45 rfl (lv_at hl 0 rfl) ?_
  refine r_get C w 0 rfl fr_X10_26 rfl dX10_begin_46 ?_
  refine lv_aload_n hx hb dX10_begin_49 rfl (lv_at hl 0 rfl) ?_
  refine r_get C w 0 rfl fr_X10_37 rfl dX10_begin_50 ?_
  refine r_get C w 1 rfl fr_X10_47 rfl dX10_begin_53 ?_
  refine lv_aload_n hx hb dX10_begin_56 rfl (lv_at hl 0 rfl) ?_
  refine r_get C w 0 rfl fr_X10_37 rfl dX10_begin_57 ?_
  refine r_get C w 1 rfl fr_X10_58 rfl dX10_begin_60 ?_
  refine lv_iadd hx hb dX10_begin_63 ?_
  refine z_i (v := 0) (by decide +kernel) ?_
  refine fin_v C w (run_V C w mv_X10_61 (k459_wipe C.b0 q4 q5 q6 H.size) [3, 4] rfl rfl 3 rfl rfl (by decide) rfl hl.1 rfl (Nat.le_of_ble_eq_true rfl) dX10_begin_64 (cells2 := 0) (slots2 := 0) (by decide)) [3, 4] [0, 1, 2, 5, 6] rfl rfl (by decide) (cells2 := 0) (slots2 := 0) (by decide) (fun u2 H locs w => ?_)
  have w : Wd s G A [(q0, .inr (10, [.int 0, .int (-1), .int (-1), .ref q4, .ref q7, .ref q1, .ref q2])), (q2, .inr (2, [.int 0, .int 0, .ref q8, .ref q9, .ref q10, .ref q11, .ref q12, .ref q13, .ref q14, .ref q15, .ref q16, .ref q17, .ref q18, .ref q19, .ref q20, .ref q21, .int 0])), (q3, .inl (G.2.1, 8, .inl (fun _ => 0))), (q6, .inl (G.2.1, 32016, .inl (fun _ => 0))), (q1, .inl (G.2.1, 16, .inl (fun _ => 0))), (q4, .inr (7, [.ref q6, .int 0, .int 0, .int 2001, .ref q5])), (q5, .inl (G.2.1, 4096, .inl (fun _ => (-1))))] H locs := w
  refine lv_aload_n hx hb dX10_begin_67 rfl (lv_at hl 0 rfl) ?_
  refine r_get C w 0 rfl fr_X10_26 rfl dX10_begin_68 ?_
  refine lv_aload_n hx hb dX10_begin_71 rfl (lv_at hl 0 rfl) ?_
  refine r_get C w 0 rfl fr_X10_34 rfl dX10_begin_72 ?_
  refine fin_i C w (run_V C w mv_X10_65 (k461_enter C.b0 q4 q5 q1 q6 H.size) [5, 6, 4, 3] rfl rfl 5 rfl rfl (by decide) rfl hl.1 rfl (Nat.le_of_ble_eq_true rfl) dX10_begin_75 (cells2 := 0) (slots2 := 0) (by decide)) [5, 6, 4, 3] [0, 1, 2] rfl rfl (by decide) (cells2 := 0) (slots2 := 0) (by decide) (fun u3 H locs w => ?_)
  have w : Wd s G A [(q0, .inr (10, [.int 0, .int (-1), .int (-1), .ref q4, .ref q7, .ref q1, .ref q2])), (q2, .inr (2, [.int 0, .int 0, .ref q8, .ref q9, .ref q10, .ref q11, .ref q12, .ref q13, .ref q14, .ref q15, .ref q16, .ref q17, .ref q18, .ref q19, .ref q20, .ref q21, .int 0])), (q3, .inl (G.2.1, 8, .inl (fun _ => 0))), (q4, .inr (7, [.ref q6, .int 0, .int 1, .int 2001, .ref q5])), (q5, .inl (G.2.1, 4096, .inl (upd (fun _ => (-1)) 7 0))), (q1, .inl (G.2.1, 16, .inl (fun _ => 0))), (q6, .inl (G.2.1, 32016, .inl (fun _ => 0)))] H locs := w
  refine lv_pop hx hb dX10_begin_78 rfl ?_
  exact e_v C hr w (fun _ => 0) [0, 5, 1, 2, 3, 4, 6] rfl rfl dX10_begin_79 (by decide) (by decide)
set_option maxRecDepth 100000 in
set_option maxHeartbeats 4000000 in
theorem k463_passMoment {l : Launch} {s0 : State} {a0 : Array Value} {G : GT} (b0 : B0 l s0 a0 G) (q0 q1 q2 q3 q4 q5 q6 q7 q8 q9 q10 q11 q12 q13 q14 q15 q16 q17 q18 : Nat) (sz : Nat) : Kv l s0 G yX10_passMoment cX10_passMoment 5 none { frames := 1, cells := 0, slots := 0, locals := 100 } [.ref q0, .int 0] [(q0, .inr (10, [.int 0, .int (-1), .int (-1), .ref q3, .ref q1, .ref q4, .ref q2])), (q1, .inl (G.2.1, 16016, .inl (fun _ => 0))), (q2, .inr (2, [.int 0, .int 0, .ref q5, .ref q6, .ref q7, .ref q8, .ref q9, .ref q10, .ref q11, .ref q12, .ref q13, .ref q14, .ref q15, .ref q16, .ref q17, .ref q18, .int 0]))] sz (fun u => [(q0, .inr (10, [.int 0, .int (-1), .int (-1), .ref q3, .ref q1, .ref q4, .ref q2])), (q1, .inl (G.2.1, 16016, .inl (fun _ => 0))), (q2, .inr (2, [.int 0, .int 0, .ref q5, .ref q6, .ref q7, .ref q8, .ref q9, .ref q10, .ref q11, .ref q12, .ref q13, .ref q14, .ref q15, .ref q16, .ref q17, .ref q18, .int 0]))]) := by
  refine Kv.of b0 (own := RX10) (nm := "passMoment") [(0, .ref q0), (1, .int 0)] rfl rfl (by decide +kernel) (Nat.le_of_ble_eq_true rfl) rfl ?_
  intro p e s m below meth c A C hr H locs w ls hl
  have hx := C.hx
  have hb := C.hb
  refine lv_iload_n hx hb dX10_passMoment_0 rfl (lv_at hl 1 rfl) ?_
  refine lv_iconst (v := 1) hx hb dX10_passMoment_1 (by decide) ?_
  refine lv_iadd hx hb dX10_passMoment_2 ?_
  refine z_i (v := 1) (by decide +kernel) ?_
  refine lv_bipush (v := 8) hx hb dX10_passMoment_3 (by decide) ?_
  refine lv_imul hx hb dX10_passMoment_5 ?_
  refine z_i (v := 8) (by decide +kernel) ?_
  refine lv_istore_n (lv' := [(2, .int 8), (0, .ref q0), (1, .int 0)]) hx hb dX10_passMoment_6 rfl hl (by decide) rfl (fun ls hl => ?_)
  refine lv_aload_n hx hb dX10_passMoment_7 rfl (lv_at hl 1 rfl) ?_
  refine r_get C w 0 rfl fr_X10_30 rfl dX10_passMoment_8 ?_
  refine lv_iload_n hx hb dX10_passMoment_11 rfl (lv_at hl 2 rfl) ?_
  refine lv_bipush (v := 8) hx hb dX10_passMoment_12 (by decide) ?_
  refine lv_imul hx hb dX10_passMoment_14 ?_
  refine z_i (v := 0) (by decide +kernel) ?_
  refine lv_aload_n hx hb dX10_passMoment_15 rfl (lv_at hl 1 rfl) ?_
  refine r_get C w 0 rfl fr_X10_30 rfl dX10_passMoment_16 ?_
  refine lv_iload_n hx hb dX10_passMoment_19 rfl (lv_at hl 0 rfl) ?_
  refine lv_bipush (v := 8) hx hb dX10_passMoment_20 (by decide) ?_
  refine r_copyI C w 1 1 rfl rfl (sp' := 0) (dp' := 8) (n' := 8) (by decide +kernel) cp_X10_52 hl.1 (cpy_c _ _ _ _) (by decide) (Nat.le_of_ble_eq_true rfl) dX10_passMoment_22 (ws2 := [(q0, .inr (10, [.int 0, .int (-1), .int (-1), .ref q3, .ref q1, .ref q4, .ref q2])), (q1, .inl (G.2.1, 16016, .inl (fun _ => 0))), (q2, .inr (2, [.int 0, .int 0, .ref q5, .ref q6, .ref q7, .ref q8, .ref q9, .ref q10, .ref q11, .ref q12, .ref q13, .ref q14, .ref q15, .ref q16, .ref q17, .ref q18, .int 0]))]) rfl (fun H locs w => ?_)
  refine lv_iconst (v := 0) hx hb dX10_passMoment_25 (by decide) ?_
  refine lv_istore_n (lv' := [(3, .int 0), (2, .int 8), (0, .ref q0), (1, .int 0)]) hx hb dX10_passMoment_26 rfl hl (by decide) rfl (fun ls hl => ?_)
  refine lv_iload_n hx hb dX10_passMoment_27 rfl (lv_at hl 0 rfl) ?_
  refine lv_aload_n hx hb dX10_passMoment_28 rfl (lv_at hl 2 rfl) ?_
  refine r_get C w 0 rfl fr_X10_37 rfl dX10_passMoment_29 ?_
  refine r_get C w 2 rfl fr_X10_58 rfl dX10_passMoment_32 ?_
  refine lv_icmp_ge (tgt := 98) hx hb dX10_passMoment_35 (by decide) (fun _ => ?_) (fun h => absurd (by decide) h)
  refine lv_iconst (v := 0) hx hb dX10_passMoment_98 (by decide) ?_
  refine lv_istore_n (lv' := [(3, .int 0), (2, .int 8), (0, .ref q0), (1, .int 0)]) hx hb dX10_passMoment_99 rfl hl (by decide) rfl (fun ls hl => ?_)
  refine lv_iload_n hx hb dX10_passMoment_100 rfl (lv_at hl 0 rfl) ?_
  refine lv_aload_n hx hb dX10_passMoment_101 rfl (lv_at hl 2 rfl) ?_
  refine r_get C w 0 rfl fr_X10_37 rfl dX10_passMoment_102 ?_
  refine r_get C w 2 rfl fr_X10_58 rfl dX10_passMoment_105 ?_
  refine lv_icmp_ge (tgt := 167) hx hb dX10_passMoment_108 (by decide) (fun _ => ?_) (fun h => absurd (by decide) h)
  exact e_v C hr w (fun _ => 0) [0, 1, 2] rfl rfl dX10_passMoment_167 (by decide) (by decide)
set_option maxRecDepth 100000 in
set_option maxHeartbeats 4000000 in
theorem k464_spread {l : Launch} {s0 : State} {a0 : Array Value} {G : GT} (b0 : B0 l s0 a0 G) (q0 q1 q2 q3 : Nat) (sz : Nat) : Ki l s0 G yX7_spread cX7_spread 4 (some .int) { frames := 0, cells := 0, slots := 0, locals := 0 } [.ref q0, .ref q1] [(q0, .inr (7, [.ref q2, .int 0, .int 1, .int 2001, .ref q3]))] sz 7 (fun u => [(q0, .inr (7, [.ref q2, .int 0, .int 1, .int 2001, .ref q3]))]) := by
  refine Ki.of b0 (own := RX7) (nm := "spread") [(0, .ref q0), (1, .ref q1)] rfl rfl (by decide +kernel) (Nat.le_of_ble_eq_true rfl) rfl ?_
  intro p e s m below meth c A C hr H locs w ls hl
  have hx := C.hx
  have hb := C.hb
  refine lv_bipush (v := 7) hx hb dX7_spread_0 (by decide) ?_
  refine lv_istore_n (lv' := [(2, .int 7), (0, .ref q0), (1, .ref q1)]) hx hb dX7_spread_2 rfl hl (by decide) rfl (fun ls hl => ?_)
  refine lv_iconst (v := 0) hx hb dX7_spread_3 (by decide) ?_
  refine lv_istore_n (lv' := [(3, .int 0), (2, .int 7), (0, .ref q0), (1, .ref q1)]) hx hb dX7_spread_4 rfl hl (by decide) rfl (fun ls hl => ?_)
  refine lv_iload_n hx hb dX7_spread_5 rfl (lv_at hl 0 rfl) ?_
  refine lv_aload_n hx hb dX7_spread_6 rfl (lv_at hl 2 rfl) ?_
  refine r_get C w 0 rfl fr_X7_22 rfl dX7_spread_7 ?_
  refine lv_icmp_ge (tgt := 35) hx hb dX7_spread_10 (by decide) (fun _ => ?_) (fun h => absurd (by decide) h)
  refine lv_iload_n hx hb dX7_spread_35 rfl (lv_at hl 1 rfl) ?_
  exact e_i C hr w (fun _ => 0) [0] rfl rfl rfl dX7_spread_36 (by decide) (by decide)
set_option maxRecDepth 100000 in
set_option maxHeartbeats 4000000 in
theorem k465_isAlike {l : Launch} {s0 : State} {a0 : Array Value} {G : GT} (b0 : B0 l s0 a0 G) (q0 q1 q2 q3 : Nat) (sz : Nat) : Ki l s0 G yX7_isAlike cX7_isAlike 4 (some .boolean) { frames := 0, cells := 0, slots := 0, locals := 0 } [.ref q0, .int 0, .ref q1] [(q0, .inr (7, [.ref q2, .int 0, .int 1, .int 2001, .ref q3]))] sz 1 (fun u => [(q0, .inr (7, [.ref q2, .int 0, .int 1, .int 2001, .ref q3]))]) := by
  refine Ki.of b0 (own := RX7) (nm := "isAlike") [(0, .ref q0), (1, .int 0), (2, .ref q1)] rfl rfl (by decide +kernel) (Nat.le_of_ble_eq_true rfl) rfl ?_
  intro p e s m below meth c A C hr H locs w ls hl
  have hx := C.hx
  have hb := C.hb
  refine lv_iconst (v := 0) hx hb dX7_isAlike_0 (by decide) ?_
  refine lv_istore_n (lv' := [(3, .int 0), (0, .ref q0), (1, .int 0), (2, .ref q1)]) hx hb dX7_isAlike_1 rfl hl (by decide) rfl (fun ls hl => ?_)
  refine lv_iload_n hx hb dX7_isAlike_2 rfl (lv_at hl 0 rfl) ?_
  refine lv_aload_n hx hb dX7_isAlike_3 rfl (lv_at hl 1 rfl) ?_
  refine r_get C w 0 rfl fr_X7_22 rfl dX7_isAlike_4 ?_
  refine lv_icmp_ge (tgt := 37) hx hb dX7_isAlike_7 (by decide) (fun _ => ?_) (fun h => absurd (by decide) h)
  refine lv_iconst (v := 1) hx hb dX7_isAlike_37 (by decide) ?_
  exact e_i C hr w (fun _ => 0) [0] rfl rfl (by decide) dX7_isAlike_38 (by decide) (by decide)
set_option maxRecDepth 100000 in
set_option maxHeartbeats 4000000 in
theorem k466_enter {l : Launch} {s0 : State} {a0 : Array Value} {G : GT} (b0 : B0 l s0 a0 G) (q0 q1 q2 q3 : Nat) (sz : Nat) : Ki l s0 G yX7_enter cX7_enter 5 (some .int) { frames := 1, cells := 0, slots := 0, locals := 23 } [.ref q0, .ref q2] [(q0, .inr (7, [.ref q3, .int 0, .int 1, .int 2001, .ref q1])), (q1, .inl (G.2.1, 4096, .inl (upd (fun _ => (-1)) 7 0)))] sz 0 (fun u => [(q0, .inr (7, [.ref q3, .int 0, .int 1, .int 2001, .ref q1])), (q1, .inl (G.2.1, 4096, .inl (upd (fun _ => (-1)) 7 0)))]) := by
  refine Ki.of b0 (own := RX7) (nm := "enter") [(0, .ref q0), (1, .ref q2)] rfl rfl (by decide +kernel) (Nat.le_of_ble_eq_true rfl) rfl ?_
  intro p e s m below meth c A C hr H locs w ls hl
  have hx := C.hx
  have hb := C.hb
  refine lv_aload_n hx hb dX7_enter_0 rfl (lv_at hl 0 rfl) ?_
  refine r_get C w 0 rfl fr_X7_19 rfl dX7_enter_1 ?_
  refine r_alenI C w 1 rfl (v := 4096) (by decide +kernel) dX7_enter_4 ?_
  refine lv_iconst (v := 1) hx hb dX7_enter_5 (by decide) ?_
  refine lv_isub hx hb dX7_enter_6 ?_
  refine z_i (v := 4095) (by decide +kernel) ?_
  refine lv_istore_n (lv' := [(2, .int 4095), (0, .ref q0), (1, .ref q2)]) hx hb dX7_enter_7 rfl hl (by decide) rfl (fun ls hl => ?_)
  refine lv_aload_n hx hb dX7_enter_8 rfl (lv_at hl 1 rfl) ?_
  refine lv_aload_n hx hb dX7_enter_9 rfl (lv_at hl 2 rfl) ?_
  refine fin_i C w (run_V C w mv_X7_34 (k464_spread C.b0 q0 q2 q3 q1 H.size) [0] rfl rfl 0 rfl rfl (by decide) rfl hl.1 rfl (Nat.le_of_ble_eq_true rfl) dX7_enter_10 (cells2 := 0) (slots2 := 0) (by decide)) [0] [1] rfl rfl (by decide) (cells2 := 0) (slots2 := 0) (by decide) (fun u1 H locs w => ?_)
  have w : Wd s G A [(q1, .inl (G.2.1, 4096, .inl (upd (fun _ => (-1)) 7 0))), (q0, .inr (7, [.ref q3, .int 0, .int 1, .int 2001, .ref q1]))] H locs := w
  refine lv_iload_n hx hb dX7_enter_13 rfl (lv_at hl 0 rfl) ?_
  refine lv_iand hx hb dX7_enter_14 ?_
  refine z_i (v := 7) (by decide +kernel) ?_
  refine lv_istore_n (lv' := [(3, .int 7), (2, .int 4095), (0, .ref q0), (1, .ref q2)]) hx hb dX7_enter_15 rfl hl (by decide) rfl (fun ls hl => ?_)
  refine lv_iconst (v := 0) hx hb dX7_enter_16 (by decide) ?_
  refine lv_istore (lv' := [(4, .int 0), (3, .int 7), (2, .int 4095), (0, .ref q0), (1, .ref q2)]) hx hb dX7_enter_17 hl (by decide) rfl (fun ls hl => ?_)
  refine lv_iload hx hb dX7_enter_19 (lv_at hl 0 rfl) ?_
  refine lv_iload_n hx hb dX7_enter_21 rfl (lv_at hl 2 rfl) ?_
  refine lv_icmp_gt (tgt := 68) hx hb dX7_enter_22 (by decide) (fun h => absurd h (by decide)) (fun _ => ?_)
  refine lv_aload_n hx hb dX7_enter_25 rfl (lv_at hl 3 rfl) ?_
  refine r_get C w 1 rfl fr_X7_19 rfl dX7_enter_26 ?_
  refine lv_iload_n hx hb dX7_enter_29 rfl (lv_at hl 1 rfl) ?_
  refine r_iald C w 0 rfl (IX.of (k := 7) (by decide +kernel)) (v := 0) rfl dX7_enter_30 ?_
  refine lv_iconst (v := (-1)) hx hb dX7_enter_31 (by decide) ?_
  refine lv_icmp_eq (tgt := 68) hx hb dX7_enter_32 (by decide) (fun h => absurd h (by decide)) (fun _ => ?_)
  refine lv_aload_n hx hb dX7_enter_35 rfl (lv_at hl 3 rfl) ?_
  refine lv_aload_n hx hb dX7_enter_36 rfl (lv_at hl 3 rfl) ?_
  refine r_get C w 1 rfl fr_X7_19 rfl dX7_enter_37 ?_
  refine lv_iload_n hx hb dX7_enter_40 rfl (lv_at hl 1 rfl) ?_
  refine r_iald C w 0 rfl (IX.of (k := 7) (by decide +kernel)) (v := 0) rfl dX7_enter_41 ?_
  refine lv_aload_n hx hb dX7_enter_42 rfl (lv_at hl 4 rfl) ?_
  refine fin_i C w (run_V C w mv_X7_38 (k465_isAlike C.b0 q0 q2 q3 q1 H.size) [1] rfl rfl 1 rfl rfl (by decide) rfl hl.1 rfl (Nat.le_of_ble_eq_true rfl) dX7_enter_43 (cells2 := 0) (slots2 := 0) (by decide)) [1] [0] rfl rfl (by decide) (cells2 := 0) (slots2 := 0) (by decide) (fun u2 H locs w => ?_)
  have w : Wd s G A [(q1, .inl (G.2.1, 4096, .inl (upd (fun _ => (-1)) 7 0))), (q0, .inr (7, [.ref q3, .int 0, .int 1, .int 2001, .ref q1]))] H locs := w
  refine lv_if_eq (tgt := 56) hx hb dX7_enter_46 (by decide) (fun h => absurd h (by decide)) (fun _ => ?_)
  refine lv_aload_n hx hb dX7_enter_49 rfl (lv_at hl 3 rfl) ?_
  refine r_get C w 1 rfl fr_X7_19 rfl dX7_enter_50 ?_
  refine lv_iload_n hx hb dX7_enter_53 rfl (lv_at hl 1 rfl) ?_
  refine r_iald C w 0 rfl (IX.of (k := 7) (by decide +kernel)) (v := 0) rfl dX7_enter_54 ?_
  exact e_i C hr w (fun _ => 0) [1, 0] rfl rfl rfl dX7_enter_55 (by decide) (by decide)
set_option maxRecDepth 100000 in
set_option maxHeartbeats 4000000 in
theorem k467_reach {l : Launch} {s0 : State} {a0 : Array Value} {G : GT} (b0 : B0 l s0 a0 G) (q0 q1 q2 q3 q4 q5 q6 q7 q8 q9 q10 q11 q12 q13 q14 q15 q16 q17 q18 q19 q20 : Nat) (sz : Nat) : Kv l s0 G yX10_reach cX10_reach 5 none { frames := 2, cells := 0, slots := 0, locals := 124 } [.ref q0, .int 2000] [(q0, .inr (10, [.int 0, .int (-1), .int (-1), .ref q1, .ref q2, .ref q5, .ref q3])), (q1, .inr (7, [.ref q6, .int 0, .int 1, .int 2001, .ref q4])), (q2, .inl (G.2.1, 16016, .inl (fun _ => 0))), (q3, .inr (2, [.int 0, .int 0, .ref q7, .ref q8, .ref q9, .ref q10, .ref q11, .ref q12, .ref q13, .ref q14, .ref q15, .ref q16, .ref q17, .ref q18, .ref q19, .ref q20, .int 0])), (q4, .inl (G.2.1, 4096, .inl (upd (fun _ => (-1)) 7 0)))] sz (fun u => [(q0, .inr (10, [.int 0, .int 0, .int 1, .ref q1, .ref q2, .ref q5, .ref q3])), (q1, .inr (7, [.ref q6, .int 0, .int 1, .int 2001, .ref q4])), (q2, .inl (G.2.1, 16016, .inl (fun _ => 0))), (q3, .inr (2, [.int 0, .int 0, .ref q7, .ref q8, .ref q9, .ref q10, .ref q11, .ref q12, .ref q13, .ref q14, .ref q15, .ref q16, .ref q17, .ref q18, .ref q19, .ref q20, .int 0])), (q4, .inl (G.2.1, 4096, .inl (upd (fun _ => (-1)) 7 0)))]) := by
  refine Kv.of b0 (own := RX10) (nm := "reach") [(0, .ref q0), (1, .int 2000)] rfl rfl (by decide +kernel) (Nat.le_of_ble_eq_true rfl) rfl ?_
  intro p e s m below meth c A C hr H locs w ls hl
  have hx := C.hx
  have hb := C.hb
  refine lv_aload_n hx hb dX10_reach_0 rfl (lv_at hl 0 rfl) ?_
  refine r_get C w 0 rfl fr_X10_26 rfl dX10_reach_1 ?_
  refine r_get C w 1 rfl fr_X10_69 rfl dX10_reach_4 ?_
  refine lv_iconst (v := 1) hx hb dX10_reach_7 (by decide) ?_
  refine lv_isub hx hb dX10_reach_8 ?_
  refine z_i (v := 0) (by decide +kernel) ?_
  refine lv_istore_n (lv' := [(2, .int 0), (0, .ref q0), (1, .int 2000)]) hx hb dX10_reach_9 rfl hl (by decide) rfl (fun ls hl => ?_)
  refine lv_iload_n hx hb dX10_reach_10 rfl (lv_at hl 0 rfl) ?_
  refine lv_iload_n hx hb dX10_reach_11 rfl (lv_at hl 2 rfl) ?_
  refine lv_icmp_ge (tgt := 75) hx hb dX10_reach_12 (by decide) (fun h => absurd h (by decide)) (fun _ => ?_)
  refine lv_aload_n hx hb dX10_reach_15 rfl (lv_at hl 1 rfl) ?_
  refine r_get C w 0 rfl fr_X10_18 rfl dX10_reach_16 ?_
  refine lv_iconst (v := (-1)) hx hb dX10_reach_19 (by decide) ?_
  refine lv_icmp_ne (tgt := 75) hx hb dX10_reach_20 (by decide) (fun h => absurd (by decide) h) (fun _ => ?_)
  refine lv_aload_n hx hb dX10_reach_23 rfl (lv_at hl 1 rfl) ?_
  refine lv_iload_n hx hb dX10_reach_24 rfl (lv_at hl 0 rfl) ?_
  refine fin_v C w (run_V C w mv_X10_72 (k463_passMoment C.b0 q0 q2 q3 q1 q5 q7 q8 q9 q10 q11 q12 q13 q14 q15 q16 q17 q18 q19 q20 H.size) [0, 2, 3] rfl rfl 0 rfl rfl (by decide) rfl hl.1 rfl (Nat.le_of_ble_eq_true rfl) dX10_reach_25 (cells2 := 0) (slots2 := 0) (by decide)) [0, 2, 3] [1, 4] rfl rfl (by decide) (cells2 := 0) (slots2 := 0) (by decide) (fun u1 H locs w => ?_)
  have w : Wd s G A [(q1, .inr (7, [.ref q6, .int 0, .int 1, .int 2001, .ref q4])), (q4, .inl (G.2.1, 4096, .inl (upd (fun _ => (-1)) 7 0))), (q0, .inr (10, [.int 0, .int (-1), .int (-1), .ref q1, .ref q2, .ref q5, .ref q3])), (q2, .inl (G.2.1, 16016, .inl (fun _ => 0))), (q3, .inr (2, [.int 0, .int 0, .ref q7, .ref q8, .ref q9, .ref q10, .ref q11, .ref q12, .ref q13, .ref q14, .ref q15, .ref q16, .ref q17, .ref q18, .ref q19, .ref q20, .int 0]))] H locs := w
  refine lv_aload_n hx hb dX10_reach_28 rfl (lv_at hl 1 rfl) ?_
  refine r_get C w 2 rfl fr_X10_26 rfl dX10_reach_29 ?_
  refine r_get C w 0 rfl fr_X10_69 rfl dX10_reach_32 ?_
  refine lv_istore_n (lv' := [(3, .int 1), (2, .int 0), (0, .ref q0), (1, .int 2000)]) hx hb dX10_reach_35 rfl hl (by decide) rfl (fun ls hl => ?_)
  refine lv_aload_n hx hb dX10_reach_36 rfl (lv_at hl 2 rfl) ?_
  refine r_get C w 2 rfl fr_X10_26 rfl dX10_reach_37 ?_
  refine lv_aload_n hx hb dX10_reach_40 rfl (lv_at hl 2 rfl) ?_
  refine r_get C w 2 rfl fr_X10_34 rfl dX10_reach_41 ?_
  refine fin_i C w (run_V C w mv_X10_65 (k466_enter C.b0 q1 q4 q5 q6 H.size) [0, 1] rfl rfl 0 rfl rfl (by decide) rfl hl.1 rfl (Nat.le_of_ble_eq_true rfl) dX10_reach_44 (cells2 := 0) (slots2 := 0) (by decide)) [0, 1] [2, 3, 4] rfl rfl (by decide) (cells2 := 0) (slots2 := 0) (by decide) (fun u2 H locs w => ?_)
  have w : Wd s G A [(q0, .inr (10, [.int 0, .int (-1), .int (-1), .ref q1, .ref q2, .ref q5, .ref q3])), (q2, .inl (G.2.1, 16016, .inl (fun _ => 0))), (q3, .inr (2, [.int 0, .int 0, .ref q7, .ref q8, .ref q9, .ref q10, .ref q11, .ref q12, .ref q13, .ref q14, .ref q15, .ref q16, .ref q17, .ref q18, .ref q19, .ref q20, .int 0])), (q1, .inr (7, [.ref q6, .int 0, .int 1, .int 2001, .ref q4])), (q4, .inl (G.2.1, 4096, .inl (upd (fun _ => (-1)) 7 0)))] H locs := w
  refine lv_istore (lv' := [(4, .int 0), (3, .int 1), (2, .int 0), (0, .ref q0), (1, .int 2000)]) hx hb dX10_reach_47 hl (by decide) rfl (fun ls hl => ?_)
  refine lv_iload hx hb dX10_reach_49 (lv_at hl 0 rfl) ?_
  refine lv_iload_n hx hb dX10_reach_51 rfl (lv_at hl 1 rfl) ?_
  refine lv_icmp_ge (tgt := 69) hx hb dX10_reach_52 (by decide) (fun h => absurd h (by decide)) (fun _ => ?_)
  refine lv_aload_n hx hb dX10_reach_55 rfl (lv_at hl 3 rfl) ?_
  refine lv_iload hx hb dX10_reach_56 (lv_at hl 0 rfl) ?_
  refine r_put C w 0 rfl fl_X10_15 (Nat.le_of_ble_eq_true rfl) rfl rfl dX10_reach_58 (ws2 := [(q0, .inr (10, [.int 0, .int 0, .int (-1), .ref q1, .ref q2, .ref q5, .ref q3])), (q2, .inl (G.2.1, 16016, .inl (fun _ => 0))), (q3, .inr (2, [.int 0, .int 0, .ref q7, .ref q8, .ref q9, .ref q10, .ref q11, .ref q12, .ref q13, .ref q14, .ref q15, .ref q16, .ref q17, .ref q18, .ref q19, .ref q20, .int 0])), (q1, .inr (7, [.ref q6, .int 0, .int 1, .int 2001, .ref q4])), (q4, .inl (G.2.1, 4096, .inl (upd (fun _ => (-1)) 7 0)))]) rfl (fun H locs w => ?_)
  refine lv_aload_n hx hb dX10_reach_61 rfl (lv_at hl 3 rfl) ?_
  refine lv_iload_n hx hb dX10_reach_62 rfl (lv_at hl 1 rfl) ?_
  refine lv_iload hx hb dX10_reach_63 (lv_at hl 0 rfl) ?_
  refine lv_isub hx hb dX10_reach_65 ?_
  refine z_i (v := 1) (by decide +kernel) ?_
  refine r_put C w 0 rfl fl_X10_18 (Nat.le_of_ble_eq_true rfl) rfl rfl dX10_reach_66 (ws2 := [(q0, .inr (10, [.int 0, .int 0, .int 1, .ref q1, .ref q2, .ref q5, .ref q3])), (q2, .inl (G.2.1, 16016, .inl (fun _ => 0))), (q3, .inr (2, [.int 0, .int 0, .ref q7, .ref q8, .ref q9, .ref q10, .ref q11, .ref q12, .ref q13, .ref q14, .ref q15, .ref q16, .ref q17, .ref q18, .ref q19, .ref q20, .int 0])), (q1, .inr (7, [.ref q6, .int 0, .int 1, .int 2001, .ref q4])), (q4, .inl (G.2.1, 4096, .inl (upd (fun _ => (-1)) 7 0)))]) rfl (fun H locs w => ?_)
  refine lv_iinc (v := 1) (lv' := [(2, .int 1), (4, .int 0), (3, .int 1), (0, .ref q0), (1, .int 2000)]) hx hb dX10_reach_69 hl (k := 2) rfl (by decide +kernel) (by decide) rfl (fun ls hl => ?_)
  refine lv_goto (tgt := 10) hx hb dX10_reach_72 (by decide) ?_
  refine lv_iload_n hx hb dX10_reach_10 rfl (lv_at hl 0 rfl) ?_
  refine lv_iload_n hx hb dX10_reach_11 rfl (lv_at hl 4 rfl) ?_
  refine lv_icmp_ge (tgt := 75) hx hb dX10_reach_12 (by decide) (fun h => absurd h (by decide)) (fun _ => ?_)
  refine lv_aload_n hx hb dX10_reach_15 rfl (lv_at hl 3 rfl) ?_
  refine r_get C w 0 rfl fr_X10_18 rfl dX10_reach_16 ?_
  refine lv_iconst (v := (-1)) hx hb dX10_reach_19 (by decide) ?_
  refine lv_icmp_ne (tgt := 75) hx hb dX10_reach_20 (by decide) (fun _ => ?_) (fun h => h.elim (by decide))
  exact e_v C hr w (fun _ => 0) [0, 3, 1, 2, 4] rfl rfl dX10_reach_75 (by decide) (by decide)
set_option maxRecDepth 100000 in
set_option maxHeartbeats 4000000 in
theorem k468_working {l : Launch} {s0 : State} {a0 : Array Value} {G : GT} (b0 : B0 l s0 a0 G) (q0 q1 q2 q3 q4 q5 q6 q7 q8 q9 q10 q11 q12 q13 q14 q15 q16 q17 q18 q19 q20 q21 q22 q23 q24 q25 q26 q27 : Nat) (sz : Nat) : Kr l s0 G yX11_working cX11_working 2 (some (.object "TokenHall$Works")) { frames := 3, cells := 6, slots := 52156, locals := 148 } [.ref q0, .int 2000] [(q0, .inr (11, [.ref q4, .ref q5, .ref q1, .ref q6, .ref q7, .ref q8, .ref q9, .ref q10, .ref q2, .ref q11, .int 0, .int (-1), .int 0, .int 0, .null, .null, .null, .null, .null])), (q1, .inr (5, [.ref q3, .ref q12, .ref q13, .int 0])), (q2, .inr (2, [.int 0, .int 0, .ref q14, .ref q15, .ref q16, .ref q17, .ref q18, .ref q19, .ref q20, .ref q21, .ref q22, .ref q23, .ref q24, .ref q25, .ref q26, .ref q27, .int 0])), (q3, .inl (G.2.1, 8, .inl (fun _ => 0)))] sz (fun u => (u 0)) (fun u => [(q0, .inr (11, [.ref q4, .ref q5, .ref q1, .ref q6, .ref q7, .ref q8, .ref q9, .ref q10, .ref q2, .ref q11, .int 0, .int (-1), .int 0, .int 0, .null, .null, .null, .ref (u 0), .null])), (q1, .inr (5, [.ref q3, .ref q12, .ref q13, .int 0])), (q2, .inr (2, [.int 0, .int 0, .ref q14, .ref q15, .ref q16, .ref q17, .ref q18, .ref q19, .ref q20, .ref q21, .ref q22, .ref q23, .ref q24, .ref q25, .ref q26, .ref q27, .int 0])), (q3, .inl (G.2.1, 8, .inl (fun _ => 0))), ((u 0), .inr (10, [.int 0, .int 0, .int 1, .ref (u 1), .ref (u 4), .ref (u 5), .ref q2])), ((u 1), .inr (7, [.ref (u 2), .int 0, .int 1, .int 2001, .ref (u 3)])), ((u 2), .inl (G.2.1, 32016, .inl (fun _ => 0))), ((u 3), .inl (G.2.1, 4096, .inl (upd (fun _ => (-1)) 7 0))), ((u 4), .inl (G.2.1, 16016, .inl (fun _ => 0))), ((u 5), .inl (G.2.1, 16, .inl (fun _ => 0)))]) := by
  refine Kr.of b0 (own := RX11) (nm := "working") [(0, .ref q0), (1, .int 2000)] rfl rfl (by decide +kernel) (Nat.le_of_ble_eq_true rfl) rfl ?_
  intro p e s m below meth c A C hr H locs w ls hl
  have hx := C.hx
  have hb := C.hb
  refine lv_aload_n hx hb dX11_working_0 rfl (lv_at hl 0 rfl) ?_
  refine r_get C w 0 rfl fr_X11_400 rfl dX11_working_1 ?_
  refine lv_ifnonnullN hx hb dX11_working_4 ?_
  refine lv_aload_n hx hb dX11_working_7 rfl (lv_at hl 0 rfl) ?_
  refine r_new C w (cells2 := 1) (slots2 := 7) no_X11_298 ⟨by decide, by decide, by decide, by decide⟩ dX11_working_8 (fun q1 H w => ?_)
  have w : Wd s G A [(q0, .inr (11, [.ref q4, .ref q5, .ref q1, .ref q6, .ref q7, .ref q8, .ref q9, .ref q10, .ref q2, .ref q11, .int 0, .int (-1), .int 0, .int 0, .null, .null, .null, .null, .null])), (q1, .inr (5, [.ref q3, .ref q12, .ref q13, .int 0])), (q2, .inr (2, [.int 0, .int 0, .ref q14, .ref q15, .ref q16, .ref q17, .ref q18, .ref q19, .ref q20, .ref q21, .ref q22, .ref q23, .ref q24, .ref q25, .ref q26, .ref q27, .int 0])), (q3, .inl (G.2.1, 8, .inl (fun _ => 0))), (q1, .inr (10, [.int 0, .int 0, .int 0, .null, .null, .null, .null]))] H locs := w
  refine lv_dup hx hb dX11_working_11 rfl ?_
  refine fin_v C w (run_N C w mn_X11_404 (k458_init C.b0 q1 H.size) [4] rfl rfl (by decide) rfl hl.1 rfl (Nat.le_of_ble_eq_true rfl) dX11_working_12 (cells2 := 6) (slots2 := 52156) (by decide)) [4] [0, 1, 2, 3] rfl rfl (by decide) (cells2 := 6) (slots2 := 52156) (by decide) (fun u2 H locs w => ?_)
  have w : Wd s G A [(q0, .inr (11, [.ref q4, .ref q5, .ref q1, .ref q6, .ref q7, .ref q8, .ref q9, .ref q10, .ref q2, .ref q11, .int 0, .int (-1), .int 0, .int 0, .null, .null, .null, .null, .null])), (q1, .inr (5, [.ref q3, .ref q12, .ref q13, .int 0])), (q2, .inr (2, [.int 0, .int 0, .ref q14, .ref q15, .ref q16, .ref q17, .ref q18, .ref q19, .ref q20, .ref q21, .ref q22, .ref q23, .ref q24, .ref q25, .ref q26, .ref q27, .int 0])), (q3, .inl (G.2.1, 8, .inl (fun _ => 0))), (q1, .inr (10, [.int (-1), .int (-1), .int (-1), .ref (u2 0), .ref (u2 3), .ref (u2 4), .null])), ((u2 0), .inr (7, [.ref (u2 1), .int 0, .int 0, .int 2001, .ref (u2 2)])), ((u2 1), .inl (G.2.1, 32016, .inl (fun _ => 0))), ((u2 2), .inl (G.2.1, 4096, .inl (fun _ => 0))), ((u2 3), .inl (G.2.1, 16016, .inl (fun _ => 0))), ((u2 4), .inl (G.2.1, 16, .inl (fun _ => 0)))] H locs := w
  refine r_put C w 0 rfl fl_X11_400 (Nat.le_of_ble_eq_true rfl) rfl rfl dX11_working_15 (ws2 := [(q0, .inr (11, [.ref q4, .ref q5, .ref q1, .ref q6, .ref q7, .ref q8, .ref q9, .ref q10, .ref q2, .ref q11, .int 0, .int (-1), .int 0, .int 0, .null, .null, .null, .ref q1, .null])), (q1, .inr (5, [.ref q3, .ref q12, .ref q13, .int 0])), (q2, .inr (2, [.int 0, .int 0, .ref q14, .ref q15, .ref q16, .ref q17, .ref q18, .ref q19, .ref q20, .ref q21, .ref q22, .ref q23, .ref q24, .ref q25, .ref q26, .ref q27, .int 0])), (q3, .inl (G.2.1, 8, .inl (fun _ => 0))), (q1, .inr (10, [.int (-1), .int (-1), .int (-1), .ref (u2 0), .ref (u2 3), .ref (u2 4), .null])), ((u2 0), .inr (7, [.ref (u2 1), .int 0, .int 0, .int 2001, .ref (u2 2)])), ((u2 1), .inl (G.2.1, 32016, .inl (fun _ => 0))), ((u2 2), .inl (G.2.1, 4096, .inl (fun _ => 0))), ((u2 3), .inl (G.2.1, 16016, .inl (fun _ => 0))), ((u2 4), .inl (G.2.1, 16, .inl (fun _ => 0)))]) rfl (fun H locs w => ?_)
  refine lv_aload_n hx hb dX11_working_18 rfl (lv_at hl 0 rfl) ?_
  refine r_get C w 0 rfl fr_X11_400 rfl dX11_working_19 ?_
  refine r_get C w 4 rfl fr_X11_405 rfl dX11_working_22 ?_
  refine lv_aload_n hx hb dX11_working_25 rfl (lv_at hl 0 rfl) ?_
  refine r_get C w 0 rfl fr_X11_95 rfl dX11_working_26 ?_
  refine lv_icmp_eq (tgt := 54) hx hb dX11_working_29 (by decide) (fun h => absurd h (by decide)) (fun _ => ?_)
  refine lv_aload_n hx hb dX11_working_32 rfl (lv_at hl 0 rfl) ?_
  refine r_get C w 0 rfl fr_X11_400 rfl dX11_working_33 ?_
  refine lv_aload_n hx hb dX11_working_36 rfl (lv_at hl 0 rfl) ?_
  refine r_get C w 0 rfl fr_X11_54 rfl dX11_working_37 ?_
  refine lv_aload_n hx hb dX11_working_40 rfl (lv_at hl 0 rfl) ?_
  refine r_get C w 0 rfl fr_X11_23 rfl dX11_working_41 ?_
  refine r_get C w 1 rfl fr_X11_129 rfl dX11_working_44 ?_
  refine lv_aload_n hx hb dX11_working_47 rfl (lv_at hl 0 rfl) ?_
  refine r_get C w 0 rfl fr_X11_95 rfl dX11_working_48 ?_
  refine fin_v C w (run_V C w mv_X11_406 (k462_begin C.b0 q1 (u2 4) q2 q3 (u2 0) (u2 2) (u2 1) (u2 3) q14 q15 q16 q17 q18 q19 q20 q21 q22 q23 q24 q25 q26 q27 H.size) [4, 9, 2, 3, 5, 7, 6] rfl rfl 4 rfl rfl (by decide) rfl hl.1 rfl (Nat.le_of_ble_eq_true rfl) dX11_working_51 (cells2 := 6) (slots2 := 52156) (by decide)) [4, 9, 2, 3, 5, 7, 6] [0, 1, 8] rfl rfl (by decide) (cells2 := 6) (slots2 := 52156) (by decide) (fun u3 H locs w => ?_)
  have w : Wd s G A [(q0, .inr (11, [.ref q4, .ref q5, .ref q1, .ref q6, .ref q7, .ref q8, .ref q9, .ref q10, .ref q2, .ref q11, .int 0, .int (-1), .int 0, .int 0, .null, .null, .null, .ref q1, .null])), (q1, .inr (5, [.ref q3, .ref q12, .ref q13, .int 0])), ((u2 3), .inl (G.2.1, 16016, .inl (fun _ => 0))), (q1, .inr (10, [.int 0, .int (-1), .int (-1), .ref (u2 0), .ref (u2 3), .ref (u2 4), .ref q2])), ((u2 4), .inl (G.2.1, 16, .inl (fun _ => 0))), (q2, .inr (2, [.int 0, .int 0, .ref q14, .ref q15, .ref q16, .ref q17, .ref q18, .ref q19, .ref q20, .ref q21, .ref q22, .ref q23, .ref q24, .ref q25, .ref q26, .ref q27, .int 0])), (q3, .inl (G.2.1, 8, .inl (fun _ => 0))), ((u2 0), .inr (7, [.ref (u2 1), .int 0, .int 1, .int 2001, .ref (u2 2)])), ((u2 2), .inl (G.2.1, 4096, .inl (upd (fun _ => (-1)) 7 0))), ((u2 1), .inl (G.2.1, 32016, .inl (fun _ => 0)))] H locs := w
  refine lv_aload_n hx hb dX11_working_54 rfl (lv_at hl 0 rfl) ?_
  refine r_get C w 0 rfl fr_X11_400 rfl dX11_working_55 ?_
  refine lv_iload_n hx hb dX11_working_58 rfl (lv_at hl 1 rfl) ?_
  refine fin_v C w (run_V C w mv_X11_407 (k467_reach C.b0 q1 (u2 0) (u2 3) q2 (u2 2) (u2 4) (u2 1) q14 q15 q16 q17 q18 q19 q20 q21 q22 q23 q24 q25 q26 q27 H.size) [3, 7, 2, 5, 8] rfl rfl 3 rfl rfl (by decide) rfl hl.1 rfl (Nat.le_of_ble_eq_true rfl) dX11_working_59 (cells2 := 6) (slots2 := 52156) (by decide)) [3, 7, 2, 5, 8] [0, 1, 4, 6, 9] rfl rfl (by decide) (cells2 := 6) (slots2 := 52156) (by decide) (fun u4 H locs w => ?_)
  have w : Wd s G A [(q0, .inr (11, [.ref q4, .ref q5, .ref q1, .ref q6, .ref q7, .ref q8, .ref q9, .ref q10, .ref q2, .ref q11, .int 0, .int (-1), .int 0, .int 0, .null, .null, .null, .ref q1, .null])), (q1, .inr (5, [.ref q3, .ref q12, .ref q13, .int 0])), ((u2 4), .inl (G.2.1, 16, .inl (fun _ => 0))), (q3, .inl (G.2.1, 8, .inl (fun _ => 0))), ((u2 1), .inl (G.2.1, 32016, .inl (fun _ => 0))), (q1, .inr (10, [.int 0, .int 0, .int 1, .ref (u2 0), .ref (u2 3), .ref (u2 4), .ref q2])), ((u2 0), .inr (7, [.ref (u2 1), .int 0, .int 1, .int 2001, .ref (u2 2)])), ((u2 3), .inl (G.2.1, 16016, .inl (fun _ => 0))), (q2, .inr (2, [.int 0, .int 0, .ref q14, .ref q15, .ref q16, .ref q17, .ref q18, .ref q19, .ref q20, .ref q21, .ref q22, .ref q23, .ref q24, .ref q25, .ref q26, .ref q27, .int 0])), ((u2 2), .inl (G.2.1, 4096, .inl (upd (fun _ => (-1)) 7 0)))] H locs := w
  refine lv_aload_n hx hb dX11_working_62 rfl (lv_at hl 0 rfl) ?_
  refine r_get C w 0 rfl fr_X11_400 rfl dX11_working_63 ?_
  exact e_r C hr w (fun k => [q1, (u2 0), (u2 1), (u2 2), (u2 3), (u2 4)].getD k 0) [0, 1, 8, 3, 5, 6, 4, 9, 7, 2] rfl rfl rfl dX11_working_66 (by decide) (by decide)
set_option maxRecDepth 100000 in
set_option maxHeartbeats 4000000 in
theorem k469_period {l : Launch} {s0 : State} {a0 : Array Value} {G : GT} (b0 : B0 l s0 a0 G) (q0 q1 q2 q3 q4 q5 q6 q7 q8 q9 q10 q11 q12 q13 q14 q15 q16 q17 q18 q19 q20 q21 q22 q23 q24 q25 q26 q27 : Nat) (x0 : Int32) (h0 : x0 = 0) (h1 : ¬ 1 < x0) (h2 : ¬ x0 < 0) (sz : Nat) : Ki l s0 G yX11_period cX11_period 3 (some .int) { frames := 4, cells := 6, slots := 52156, locals := 169 } [.ref q0, .int x0] [(q0, .inr (11, [.ref q4, .ref q5, .ref q1, .ref q6, .ref q7, .ref q8, .ref q9, .ref q10, .ref q2, .ref q11, .int 0, .int (-1), .int 0, .int 0, .null, .null, .null, .null, .null])), (q1, .inr (5, [.ref q3, .ref q12, .ref q13, .int 0])), (q2, .inr (2, [.int 0, .int 0, .ref q14, .ref q15, .ref q16, .ref q17, .ref q18, .ref q19, .ref q20, .ref q21, .ref q22, .ref q23, .ref q24, .ref q25, .ref q26, .ref q27, .int 0])), (q3, .inl (G.2.1, 8, .inl (fun _ => 0)))] sz 0 (fun u => [(q0, .inr (11, [.ref q4, .ref q5, .ref q1, .ref q6, .ref q7, .ref q8, .ref q9, .ref q10, .ref q2, .ref q11, .int 0, .int (-1), .int 0, .int 0, .null, .null, .null, .ref (u 0), .null])), (q1, .inr (5, [.ref q3, .ref q12, .ref q13, .int 0])), (q2, .inr (2, [.int 0, .int 0, .ref q14, .ref q15, .ref q16, .ref q17, .ref q18, .ref q19, .ref q20, .ref q21, .ref q22, .ref q23, .ref q24, .ref q25, .ref q26, .ref q27, .int 0])), (q3, .inl (G.2.1, 8, .inl (fun _ => 0))), ((u 0), .inr (10, [.int 0, .int 0, .int 1, .ref (u 1), .ref (u 4), .ref (u 5), .ref q2])), ((u 1), .inr (7, [.ref (u 2), .int 0, .int 1, .int 2001, .ref (u 3)])), ((u 2), .inl (G.2.1, 32016, .inl (fun _ => 0))), ((u 3), .inl (G.2.1, 4096, .inl (upd (fun _ => (-1)) 7 0))), ((u 4), .inl (G.2.1, 16016, .inl (fun _ => 0))), ((u 5), .inl (G.2.1, 16, .inl (fun _ => 0)))]) := by
  refine Ki.of b0 (own := RX11) (nm := "period") [(0, .ref q0), (1, .int x0)] rfl rfl (by decide +kernel) (Nat.le_of_ble_eq_true rfl) rfl ?_
  intro p e s m below meth c A C hr H locs w ls hl
  have hx := C.hx
  have hb := C.hb
  refine lv_iload_n hx hb dX11_period_0 rfl (lv_at hl 1 rfl) ?_
  refine lv_iconst (v := 0) hx hb dX11_period_1 (by decide) ?_
  refine lv_iconst (v := 1) hx hb dX11_period_2 (by decide) ?_
  refine fin_v C w (run_S C w ms_X11_72 (k52_needWithin C.b0 x0 h1 h2 H.size) [] rfl rfl (by decide) rfl hl.1 rfl (Nat.le_of_ble_eq_true rfl) dX11_period_3 (cells2 := 0) (slots2 := 0) (by decide)) [] [0, 1, 2, 3] rfl rfl (by decide) (cells2 := 0) (slots2 := 0) (by decide) (fun u1 H locs w => ?_)
  have w : Wd s G A [(q0, .inr (11, [.ref q4, .ref q5, .ref q1, .ref q6, .ref q7, .ref q8, .ref q9, .ref q10, .ref q2, .ref q11, .int 0, .int (-1), .int 0, .int 0, .null, .null, .null, .null, .null])), (q1, .inr (5, [.ref q3, .ref q12, .ref q13, .int 0])), (q2, .inr (2, [.int 0, .int 0, .ref q14, .ref q15, .ref q16, .ref q17, .ref q18, .ref q19, .ref q20, .ref q21, .ref q22, .ref q23, .ref q24, .ref q25, .ref q26, .ref q27, .int 0])), (q3, .inl (G.2.1, 8, .inl (fun _ => 0)))] H locs := w
  refine lv_aload_n hx hb dX11_period_6 rfl (lv_at hl 0 rfl) ?_
  refine lv_sipush (v := 2000) hx hb dX11_period_7 (by decide) ?_
  refine fin_r C w (run_V C w mv_X11_293 (k468_working C.b0 q0 q1 q2 q3 q4 q5 q6 q7 q8 q9 q10 q11 q12 q13 q14 q15 q16 q17 q18 q19 q20 q21 q22 q23 q24 q25 q26 q27 H.size) [0, 1, 2, 3] rfl rfl 0 rfl rfl (by decide) rfl hl.1 rfl (Nat.le_of_ble_eq_true rfl) dX11_period_10 (cells2 := 6) (slots2 := 52156) (by decide)) [0, 1, 2, 3] [] rfl rfl (by decide) (cells2 := 6) (slots2 := 52156) (by decide) (fun u2 H locs w => ?_)
  have w : Wd s G A [(q0, .inr (11, [.ref q4, .ref q5, .ref q1, .ref q6, .ref q7, .ref q8, .ref q9, .ref q10, .ref q2, .ref q11, .int 0, .int (-1), .int 0, .int 0, .null, .null, .null, .ref (u2 0), .null])), (q1, .inr (5, [.ref q3, .ref q12, .ref q13, .int 0])), (q2, .inr (2, [.int 0, .int 0, .ref q14, .ref q15, .ref q16, .ref q17, .ref q18, .ref q19, .ref q20, .ref q21, .ref q22, .ref q23, .ref q24, .ref q25, .ref q26, .ref q27, .int 0])), (q3, .inl (G.2.1, 8, .inl (fun _ => 0))), ((u2 0), .inr (10, [.int 0, .int 0, .int 1, .ref (u2 1), .ref (u2 4), .ref (u2 5), .ref q2])), ((u2 1), .inr (7, [.ref (u2 2), .int 0, .int 1, .int 2001, .ref (u2 3)])), ((u2 2), .inl (G.2.1, 32016, .inl (fun _ => 0))), ((u2 3), .inl (G.2.1, 4096, .inl (upd (fun _ => (-1)) 7 0))), ((u2 4), .inl (G.2.1, 16016, .inl (fun _ => 0))), ((u2 5), .inl (G.2.1, 16, .inl (fun _ => 0)))] H locs := w
  refine lv_astore_n (lv' := [(2, .ref (u2 0)), (0, .ref q0), (1, .int x0)]) hx hb dX11_period_13 rfl hl (by decide) rfl (fun ls hl => ?_)
  refine lv_iload_n hx hb dX11_period_14 rfl (lv_at hl 2 rfl) ?_
  refine lv_if_ne (tgt := 25) hx hb dX11_period_15 (by decide) (fun h => absurd h0 h) (fun _ => ?_)
  refine lv_aload_n hx hb dX11_period_18 rfl (lv_at hl 0 rfl) ?_
  refine r_get C w 4 rfl fr_X11_305 rfl dX11_period_19 ?_
  refine lv_goto (tgt := 29) hx hb dX11_period_22 (by decide) ?_
  exact e_i C hr w (fun k => [(u2 0), (u2 1), (u2 2), (u2 3), (u2 4), (u2 5)].getD k 0) [0, 1, 2, 3, 4, 5, 6, 7, 8, 9] rfl rfl rfl dX11_period_29 (by decide) (by decide)
set_option maxRecDepth 100000 in
set_option maxHeartbeats 4000000 in
theorem k470_period {l : Launch} {s0 : State} {a0 : Array Value} {G : GT} (b0 : B0 l s0 a0 G) (q0 q1 q2 q3 q4 q5 q6 q7 q8 q9 q10 q11 q12 q13 q14 q15 q16 q17 q18 q19 q20 q21 q22 q23 q24 q25 q26 q27 q28 : Nat) (x0 : Int32) (h0 : x0 = 0) (h1 : ¬ 1 < x0) (h2 : ¬ x0 < 0) (sz : Nat) : Kh l s0 G yL_period cL_period 4 (some .int) [(0, 9, 12, 13)] { frames := 5, cells := 6, slots := 52156, locals := 191 } [.ref q0, .int x0, .ref q4] [(q0, .inr (11, [.ref q5, .ref q6, .ref q1, .ref q7, .ref q8, .ref q9, .ref q10, .ref q11, .ref q2, .ref q12, .int 0, .int (-1), .int 0, .int 0, .null, .null, .null, .null, .null])), (q1, .inr (5, [.ref q3, .ref q13, .ref q14, .int 0])), (q2, .inr (2, [.int 0, .int 0, .ref q15, .ref q16, .ref q17, .ref q18, .ref q19, .ref q20, .ref q21, .ref q22, .ref q23, .ref q24, .ref q25, .ref q26, .ref q27, .ref q28, .int 0])), (q3, .inl (G.2.1, 8, .inl (fun _ => 0))), (q4, .inl (G.2.2.1, 1, .inr (.inl (fun _ => 0))))] sz 0 (fun u => [(q0, .inr (11, [.ref q5, .ref q6, .ref q1, .ref q7, .ref q8, .ref q9, .ref q10, .ref q11, .ref q2, .ref q12, .int 0, .int (-1), .int 0, .int 0, .null, .null, .null, .ref (u 0), .null])), (q1, .inr (5, [.ref q3, .ref q13, .ref q14, .int 0])), (q2, .inr (2, [.int 0, .int 0, .ref q15, .ref q16, .ref q17, .ref q18, .ref q19, .ref q20, .ref q21, .ref q22, .ref q23, .ref q24, .ref q25, .ref q26, .ref q27, .ref q28, .int 0])), (q3, .inl (G.2.1, 8, .inl (fun _ => 0))), (q4, .inl (G.2.2.1, 1, .inr (.inl (fun _ => 0)))), ((u 0), .inr (10, [.int 0, .int 0, .int 1, .ref (u 1), .ref (u 4), .ref (u 5), .ref q2])), ((u 1), .inr (7, [.ref (u 2), .int 0, .int 1, .int 2001, .ref (u 3)])), ((u 2), .inl (G.2.1, 32016, .inl (fun _ => 0))), ((u 3), .inl (G.2.1, 4096, .inl (upd (fun _ => (-1)) 7 0))), ((u 4), .inl (G.2.1, 16016, .inl (fun _ => 0))), ((u 5), .inl (G.2.1, 16, .inl (fun _ => 0)))]) := by
  refine Kh.of b0 (own := RL) (nm := "period") [(0, .ref q0), (1, .int x0), (2, .ref q4)] rfl rfl (by decide +kernel) (Nat.le_of_ble_eq_true rfl) rfl ?_
  intro p e s m below meth c A C hr ht H locs w ls hl
  have hx := C.hx
  have hb := C.hb
  refine lv_aload_n hx hb dL_period_0 rfl (lv_at hl 2 rfl) ?_
  refine lv_iconst (v := 0) hx hb dL_period_1 (by decide) ?_
  refine lv_aload_n hx hb dL_period_2 rfl (lv_at hl 0 rfl) ?_
  refine lv_iload_n hx hb dL_period_3 rfl (lv_at hl 1 rfl) ?_
  refine fin_i C w (run_V C w mv_L_111 (k469_period C.b0 q0 q1 q2 q3 q5 q6 q7 q8 q9 q10 q11 q12 q13 q14 q15 q16 q17 q18 q19 q20 q21 q22 q23 q24 q25 q26 q27 q28 x0 h0 h1 h2 H.size) [0, 1, 2, 3] rfl rfl 0 rfl rfl (by decide) rfl hl.1 rfl (Nat.le_of_ble_eq_true rfl) dL_period_4 (cells2 := 6) (slots2 := 52156) (by decide)) [0, 1, 2, 3] [4] rfl rfl (by decide) (cells2 := 6) (slots2 := 52156) (by decide) (fun u1 H locs w => ?_)
  have w : Wd s G A [(q4, .inl (G.2.2.1, 1, .inr (.inl (fun _ => 0)))), (q0, .inr (11, [.ref q5, .ref q6, .ref q1, .ref q7, .ref q8, .ref q9, .ref q10, .ref q11, .ref q2, .ref q12, .int 0, .int (-1), .int 0, .int 0, .null, .null, .null, .ref (u1 0), .null])), (q1, .inr (5, [.ref q3, .ref q13, .ref q14, .int 0])), (q2, .inr (2, [.int 0, .int 0, .ref q15, .ref q16, .ref q17, .ref q18, .ref q19, .ref q20, .ref q21, .ref q22, .ref q23, .ref q24, .ref q25, .ref q26, .ref q27, .ref q28, .int 0])), (q3, .inl (G.2.1, 8, .inl (fun _ => 0))), ((u1 0), .inr (10, [.int 0, .int 0, .int 1, .ref (u1 1), .ref (u1 4), .ref (u1 5), .ref q2])), ((u1 1), .inr (7, [.ref (u1 2), .int 0, .int 1, .int 2001, .ref (u1 3)])), ((u1 2), .inl (G.2.1, 32016, .inl (fun _ => 0))), ((u1 3), .inl (G.2.1, 4096, .inl (upd (fun _ => (-1)) 7 0))), ((u1 4), .inl (G.2.1, 16016, .inl (fun _ => 0))), ((u1 5), .inl (G.2.1, 16, .inl (fun _ => 0)))] H locs := w
  refine lv_i2l (v := 0) hx hb dL_period_7 (by decide +kernel) ?_
  refine r_last C w 0 rfl (IX.of (k := 0) (by decide +kernel)) (g := (fun _ => 0)) (updL_c _ _) dL_period_8 (ws2 := [(q4, .inl (G.2.2.1, 1, .inr (.inl (fun _ => 0)))), (q0, .inr (11, [.ref q5, .ref q6, .ref q1, .ref q7, .ref q8, .ref q9, .ref q10, .ref q11, .ref q2, .ref q12, .int 0, .int (-1), .int 0, .int 0, .null, .null, .null, .ref (u1 0), .null])), (q1, .inr (5, [.ref q3, .ref q13, .ref q14, .int 0])), (q2, .inr (2, [.int 0, .int 0, .ref q15, .ref q16, .ref q17, .ref q18, .ref q19, .ref q20, .ref q21, .ref q22, .ref q23, .ref q24, .ref q25, .ref q26, .ref q27, .ref q28, .int 0])), (q3, .inl (G.2.1, 8, .inl (fun _ => 0))), ((u1 0), .inr (10, [.int 0, .int 0, .int 1, .ref (u1 1), .ref (u1 4), .ref (u1 5), .ref q2])), ((u1 1), .inr (7, [.ref (u1 2), .int 0, .int 1, .int 2001, .ref (u1 3)])), ((u1 2), .inl (G.2.1, 32016, .inl (fun _ => 0))), ((u1 3), .inl (G.2.1, 4096, .inl (upd (fun _ => (-1)) 7 0))), ((u1 4), .inl (G.2.1, 16016, .inl (fun _ => 0))), ((u1 5), .inl (G.2.1, 16, .inl (fun _ => 0)))]) rfl (fun H locs w => ?_)
  refine lv_goto (tgt := 15) hx hb dL_period_9 (by decide) ?_
  refine lv_iconst (v := 0) hx hb dL_period_15 (by decide) ?_
  exact e_i C hr w (fun k => [(u1 0), (u1 1), (u1 2), (u1 3), (u1 4), (u1 5)].getD k 0) [1, 2, 3, 4, 0, 5, 6, 7, 8, 9, 10] rfl rfl rfl dL_period_16 (by decide) (by decide)
set_option maxRecDepth 100000 in
set_option maxHeartbeats 4000000 in
theorem k471_asNow {l : Launch} {s0 : State} {a0 : Array Value} {G : GT} (b0 : B0 l s0 a0 G) (q0 q1 q2 q3 q4 q5 q6 q7 q8 q9 q10 q11 q12 q13 q14 q15 q16 q17 q18 q19 q20 q21 q22 q23 q24 q25 q26 q27 q28 q29 q30 q31 q32 q33 q34 q35 q36 q37 q38 q39 q40 q41 q42 : Nat) (sz : Nat) : Kv l s0 G yX12_asNow cX12_asNow 2 none { frames := 0, cells := 0, slots := 0, locals := 0 } [.ref q0] [(q0, .inr (12, [.int 0, .int 0, .int 0, .int 0, .int 0, .int 0, .int 0, .int (-1), .ref q3, .ref q4, .ref q5, .int 0, .ref q6, .ref q7, .ref q8, .ref q9, .ref q10, .ref q1, .ref q11, .int 0, .ref q2, .ref q12, .ref q13, .ref q14, .ref q15, .ref q16, .ref q17, .int 0, .int (-1), .int 0, .ref q18, .ref q19, .ref q20, .ref q21, .ref q22, .ref q23, .ref q24, .ref q25, .int 0, .ref q26, .ref q27, .ref q28, .ref q29, .ref q30, .int 0, .ref q31, .ref q32, .ref q33, .ref q34, .int 0, .ref q35, .ref q36, .ref q37, .ref q38, .int (-1), .int 0, .ref q39, .ref q40, .ref q41, .ref q42])), (q1, .inl (G.2.1, 57, .inl (fun _ => 0))), (q2, .inl (G.2.1, 8, .inl (fun _ => 0)))] sz (fun u => [(q0, .inr (12, [.int 0, .int 0, .int 0, .int 0, .int 0, .int 0, .int 0, .int (-1), .ref q3, .ref q4, .ref q5, .int 0, .ref q6, .ref q7, .ref q8, .ref q9, .ref q10, .ref q1, .ref q11, .int 0, .ref q2, .ref q12, .ref q13, .ref q14, .ref q15, .ref q16, .ref q17, .int 0, .int (-1), .int 0, .ref q18, .ref q19, .ref q20, .ref q21, .ref q22, .ref q23, .ref q24, .ref q25, .int 0, .ref q26, .ref q27, .ref q28, .ref q29, .ref q30, .int 0, .ref q31, .ref q32, .ref q33, .ref q34, .int 0, .ref q35, .ref q36, .ref q37, .ref q38, .int (-1), .int 0, .ref q39, .ref q40, .ref q41, .ref q42])), (q1, .inl (G.2.1, 57, .inl (fun _ => 0))), (q2, .inl (G.2.1, 8, .inl (fun _ => 0)))]) := by
  refine Kv.of b0 (own := RX12) (nm := "asNow") [(0, .ref q0)] rfl rfl (by decide +kernel) (Nat.le_of_ble_eq_true rfl) rfl ?_
  intro p e s m below meth c A C hr H locs w ls hl
  have hx := C.hx
  have hb := C.hb
  refine lv_iconst (v := 0) hx hb dX12_asNow_0 (by decide) ?_
  refine lv_istore_n (lv' := [(1, .int 0), (0, .ref q0)]) hx hb dX12_asNow_1 rfl hl (by decide) rfl (fun ls hl => ?_)
  refine lv_iload_n hx hb dX12_asNow_2 rfl (lv_at hl 0 rfl) ?_
  refine lv_bipush (v := 8) hx hb dX12_asNow_3 (by decide) ?_
  refine lv_icmp_ge (tgt := 26) hx hb dX12_asNow_5 (by decide) (fun h => absurd h (by decide)) (fun _ => ?_)
  refine lv_aload_n hx hb dX12_asNow_8 rfl (lv_at hl 1 rfl) ?_
  refine r_get C w 0 rfl fr_X12_47 rfl dX12_asNow_9 ?_
  refine lv_iload_n hx hb dX12_asNow_12 rfl (lv_at hl 0 rfl) ?_
  refine lv_aload_n hx hb dX12_asNow_13 rfl (lv_at hl 1 rfl) ?_
  refine r_get C w 0 rfl fr_X12_41 rfl dX12_asNow_14 ?_
  refine lv_iload_n hx hb dX12_asNow_17 rfl (lv_at hl 0 rfl) ?_
  refine r_iald C w 1 rfl (IX.of (k := 0) (by decide +kernel)) (v := 0) rfl dX12_asNow_18 ?_
  refine r_iast C w 2 rfl (IX.of (k := 0) (by decide +kernel)) (g := (fun _ => 0)) (upd_c _ _) dX12_asNow_19 (ws2 := [(q0, .inr (12, [.int 0, .int 0, .int 0, .int 0, .int 0, .int 0, .int 0, .int (-1), .ref q3, .ref q4, .ref q5, .int 0, .ref q6, .ref q7, .ref q8, .ref q9, .ref q10, .ref q1, .ref q11, .int 0, .ref q2, .ref q12, .ref q13, .ref q14, .ref q15, .ref q16, .ref q17, .int 0, .int (-1), .int 0, .ref q18, .ref q19, .ref q20, .ref q21, .ref q22, .ref q23, .ref q24, .ref q25, .int 0, .ref q26, .ref q27, .ref q28, .ref q29, .ref q30, .int 0, .ref q31, .ref q32, .ref q33, .ref q34, .int 0, .ref q35, .ref q36, .ref q37, .ref q38, .int (-1), .int 0, .ref q39, .ref q40, .ref q41, .ref q42])), (q1, .inl (G.2.1, 57, .inl (fun _ => 0))), (q2, .inl (G.2.1, 8, .inl (fun _ => 0)))]) rfl (fun H locs w => ?_)
  refine lv_iinc (v := 1) (lv' := [(1, .int 1), (0, .ref q0)]) hx hb dX12_asNow_20 hl (k := 0) rfl (by decide +kernel) (by decide) rfl (fun ls hl => ?_)
  refine lv_goto (tgt := 2) hx hb dX12_asNow_23 (by decide) ?_
  refine lv_iload_n hx hb dX12_asNow_2 rfl (lv_at hl 0 rfl) ?_
  refine lv_bipush (v := 8) hx hb dX12_asNow_3 (by decide) ?_
  refine lv_icmp_ge (tgt := 26) hx hb dX12_asNow_5 (by decide) (fun h => absurd h (by decide)) (fun _ => ?_)
  refine lv_aload_n hx hb dX12_asNow_8 rfl (lv_at hl 1 rfl) ?_
  refine r_get C w 0 rfl fr_X12_47 rfl dX12_asNow_9 ?_
  refine lv_iload_n hx hb dX12_asNow_12 rfl (lv_at hl 0 rfl) ?_
  refine lv_aload_n hx hb dX12_asNow_13 rfl (lv_at hl 1 rfl) ?_
  refine r_get C w 0 rfl fr_X12_41 rfl dX12_asNow_14 ?_
  refine lv_iload_n hx hb dX12_asNow_17 rfl (lv_at hl 0 rfl) ?_
  refine r_iald C w 1 rfl (IX.of (k := 1) (by decide +kernel)) (v := 0) rfl dX12_asNow_18 ?_
  refine r_iast C w 2 rfl (IX.of (k := 1) (by decide +kernel)) (g := (fun _ => 0)) (upd_c _ _) dX12_asNow_19 (ws2 := [(q0, .inr (12, [.int 0, .int 0, .int 0, .int 0, .int 0, .int 0, .int 0, .int (-1), .ref q3, .ref q4, .ref q5, .int 0, .ref q6, .ref q7, .ref q8, .ref q9, .ref q10, .ref q1, .ref q11, .int 0, .ref q2, .ref q12, .ref q13, .ref q14, .ref q15, .ref q16, .ref q17, .int 0, .int (-1), .int 0, .ref q18, .ref q19, .ref q20, .ref q21, .ref q22, .ref q23, .ref q24, .ref q25, .int 0, .ref q26, .ref q27, .ref q28, .ref q29, .ref q30, .int 0, .ref q31, .ref q32, .ref q33, .ref q34, .int 0, .ref q35, .ref q36, .ref q37, .ref q38, .int (-1), .int 0, .ref q39, .ref q40, .ref q41, .ref q42])), (q1, .inl (G.2.1, 57, .inl (fun _ => 0))), (q2, .inl (G.2.1, 8, .inl (fun _ => 0)))]) rfl (fun H locs w => ?_)
  refine lv_iinc (v := 2) (lv' := [(1, .int 2), (0, .ref q0)]) hx hb dX12_asNow_20 hl (k := 0) rfl (by decide +kernel) (by decide) rfl (fun ls hl => ?_)
  refine lv_goto (tgt := 2) hx hb dX12_asNow_23 (by decide) ?_
  refine lv_iload_n hx hb dX12_asNow_2 rfl (lv_at hl 0 rfl) ?_
  refine lv_bipush (v := 8) hx hb dX12_asNow_3 (by decide) ?_
  refine lv_icmp_ge (tgt := 26) hx hb dX12_asNow_5 (by decide) (fun h => absurd h (by decide)) (fun _ => ?_)
  refine lv_aload_n hx hb dX12_asNow_8 rfl (lv_at hl 1 rfl) ?_
  refine r_get C w 0 rfl fr_X12_47 rfl dX12_asNow_9 ?_
  refine lv_iload_n hx hb dX12_asNow_12 rfl (lv_at hl 0 rfl) ?_
  refine lv_aload_n hx hb dX12_asNow_13 rfl (lv_at hl 1 rfl) ?_
  refine r_get C w 0 rfl fr_X12_41 rfl dX12_asNow_14 ?_
  refine lv_iload_n hx hb dX12_asNow_17 rfl (lv_at hl 0 rfl) ?_
  refine r_iald C w 1 rfl (IX.of (k := 2) (by decide +kernel)) (v := 0) rfl dX12_asNow_18 ?_
  refine r_iast C w 2 rfl (IX.of (k := 2) (by decide +kernel)) (g := (fun _ => 0)) (upd_c _ _) dX12_asNow_19 (ws2 := [(q0, .inr (12, [.int 0, .int 0, .int 0, .int 0, .int 0, .int 0, .int 0, .int (-1), .ref q3, .ref q4, .ref q5, .int 0, .ref q6, .ref q7, .ref q8, .ref q9, .ref q10, .ref q1, .ref q11, .int 0, .ref q2, .ref q12, .ref q13, .ref q14, .ref q15, .ref q16, .ref q17, .int 0, .int (-1), .int 0, .ref q18, .ref q19, .ref q20, .ref q21, .ref q22, .ref q23, .ref q24, .ref q25, .int 0, .ref q26, .ref q27, .ref q28, .ref q29, .ref q30, .int 0, .ref q31, .ref q32, .ref q33, .ref q34, .int 0, .ref q35, .ref q36, .ref q37, .ref q38, .int (-1), .int 0, .ref q39, .ref q40, .ref q41, .ref q42])), (q1, .inl (G.2.1, 57, .inl (fun _ => 0))), (q2, .inl (G.2.1, 8, .inl (fun _ => 0)))]) rfl (fun H locs w => ?_)
  refine lv_iinc (v := 3) (lv' := [(1, .int 3), (0, .ref q0)]) hx hb dX12_asNow_20 hl (k := 0) rfl (by decide +kernel) (by decide) rfl (fun ls hl => ?_)
  refine lv_goto (tgt := 2) hx hb dX12_asNow_23 (by decide) ?_
  refine lv_iload_n hx hb dX12_asNow_2 rfl (lv_at hl 0 rfl) ?_
  refine lv_bipush (v := 8) hx hb dX12_asNow_3 (by decide) ?_
  refine lv_icmp_ge (tgt := 26) hx hb dX12_asNow_5 (by decide) (fun h => absurd h (by decide)) (fun _ => ?_)
  refine lv_aload_n hx hb dX12_asNow_8 rfl (lv_at hl 1 rfl) ?_
  refine r_get C w 0 rfl fr_X12_47 rfl dX12_asNow_9 ?_
  refine lv_iload_n hx hb dX12_asNow_12 rfl (lv_at hl 0 rfl) ?_
  refine lv_aload_n hx hb dX12_asNow_13 rfl (lv_at hl 1 rfl) ?_
  refine r_get C w 0 rfl fr_X12_41 rfl dX12_asNow_14 ?_
  refine lv_iload_n hx hb dX12_asNow_17 rfl (lv_at hl 0 rfl) ?_
  refine r_iald C w 1 rfl (IX.of (k := 3) (by decide +kernel)) (v := 0) rfl dX12_asNow_18 ?_
  refine r_iast C w 2 rfl (IX.of (k := 3) (by decide +kernel)) (g := (fun _ => 0)) (upd_c _ _) dX12_asNow_19 (ws2 := [(q0, .inr (12, [.int 0, .int 0, .int 0, .int 0, .int 0, .int 0, .int 0, .int (-1), .ref q3, .ref q4, .ref q5, .int 0, .ref q6, .ref q7, .ref q8, .ref q9, .ref q10, .ref q1, .ref q11, .int 0, .ref q2, .ref q12, .ref q13, .ref q14, .ref q15, .ref q16, .ref q17, .int 0, .int (-1), .int 0, .ref q18, .ref q19, .ref q20, .ref q21, .ref q22, .ref q23, .ref q24, .ref q25, .int 0, .ref q26, .ref q27, .ref q28, .ref q29, .ref q30, .int 0, .ref q31, .ref q32, .ref q33, .ref q34, .int 0, .ref q35, .ref q36, .ref q37, .ref q38, .int (-1), .int 0, .ref q39, .ref q40, .ref q41, .ref q42])), (q1, .inl (G.2.1, 57, .inl (fun _ => 0))), (q2, .inl (G.2.1, 8, .inl (fun _ => 0)))]) rfl (fun H locs w => ?_)
  refine lv_iinc (v := 4) (lv' := [(1, .int 4), (0, .ref q0)]) hx hb dX12_asNow_20 hl (k := 0) rfl (by decide +kernel) (by decide) rfl (fun ls hl => ?_)
  refine lv_goto (tgt := 2) hx hb dX12_asNow_23 (by decide) ?_
  refine lv_iload_n hx hb dX12_asNow_2 rfl (lv_at hl 0 rfl) ?_
  refine lv_bipush (v := 8) hx hb dX12_asNow_3 (by decide) ?_
  refine lv_icmp_ge (tgt := 26) hx hb dX12_asNow_5 (by decide) (fun h => absurd h (by decide)) (fun _ => ?_)
  refine lv_aload_n hx hb dX12_asNow_8 rfl (lv_at hl 1 rfl) ?_
  refine r_get C w 0 rfl fr_X12_47 rfl dX12_asNow_9 ?_
  refine lv_iload_n hx hb dX12_asNow_12 rfl (lv_at hl 0 rfl) ?_
  refine lv_aload_n hx hb dX12_asNow_13 rfl (lv_at hl 1 rfl) ?_
  refine r_get C w 0 rfl fr_X12_41 rfl dX12_asNow_14 ?_
  refine lv_iload_n hx hb dX12_asNow_17 rfl (lv_at hl 0 rfl) ?_
  refine r_iald C w 1 rfl (IX.of (k := 4) (by decide +kernel)) (v := 0) rfl dX12_asNow_18 ?_
  refine r_iast C w 2 rfl (IX.of (k := 4) (by decide +kernel)) (g := (fun _ => 0)) (upd_c _ _) dX12_asNow_19 (ws2 := [(q0, .inr (12, [.int 0, .int 0, .int 0, .int 0, .int 0, .int 0, .int 0, .int (-1), .ref q3, .ref q4, .ref q5, .int 0, .ref q6, .ref q7, .ref q8, .ref q9, .ref q10, .ref q1, .ref q11, .int 0, .ref q2, .ref q12, .ref q13, .ref q14, .ref q15, .ref q16, .ref q17, .int 0, .int (-1), .int 0, .ref q18, .ref q19, .ref q20, .ref q21, .ref q22, .ref q23, .ref q24, .ref q25, .int 0, .ref q26, .ref q27, .ref q28, .ref q29, .ref q30, .int 0, .ref q31, .ref q32, .ref q33, .ref q34, .int 0, .ref q35, .ref q36, .ref q37, .ref q38, .int (-1), .int 0, .ref q39, .ref q40, .ref q41, .ref q42])), (q1, .inl (G.2.1, 57, .inl (fun _ => 0))), (q2, .inl (G.2.1, 8, .inl (fun _ => 0)))]) rfl (fun H locs w => ?_)
  refine lv_iinc (v := 5) (lv' := [(1, .int 5), (0, .ref q0)]) hx hb dX12_asNow_20 hl (k := 0) rfl (by decide +kernel) (by decide) rfl (fun ls hl => ?_)
  refine lv_goto (tgt := 2) hx hb dX12_asNow_23 (by decide) ?_
  refine lv_iload_n hx hb dX12_asNow_2 rfl (lv_at hl 0 rfl) ?_
  refine lv_bipush (v := 8) hx hb dX12_asNow_3 (by decide) ?_
  refine lv_icmp_ge (tgt := 26) hx hb dX12_asNow_5 (by decide) (fun h => absurd h (by decide)) (fun _ => ?_)
  refine lv_aload_n hx hb dX12_asNow_8 rfl (lv_at hl 1 rfl) ?_
  refine r_get C w 0 rfl fr_X12_47 rfl dX12_asNow_9 ?_
  refine lv_iload_n hx hb dX12_asNow_12 rfl (lv_at hl 0 rfl) ?_
  refine lv_aload_n hx hb dX12_asNow_13 rfl (lv_at hl 1 rfl) ?_
  refine r_get C w 0 rfl fr_X12_41 rfl dX12_asNow_14 ?_
  refine lv_iload_n hx hb dX12_asNow_17 rfl (lv_at hl 0 rfl) ?_
  refine r_iald C w 1 rfl (IX.of (k := 5) (by decide +kernel)) (v := 0) rfl dX12_asNow_18 ?_
  refine r_iast C w 2 rfl (IX.of (k := 5) (by decide +kernel)) (g := (fun _ => 0)) (upd_c _ _) dX12_asNow_19 (ws2 := [(q0, .inr (12, [.int 0, .int 0, .int 0, .int 0, .int 0, .int 0, .int 0, .int (-1), .ref q3, .ref q4, .ref q5, .int 0, .ref q6, .ref q7, .ref q8, .ref q9, .ref q10, .ref q1, .ref q11, .int 0, .ref q2, .ref q12, .ref q13, .ref q14, .ref q15, .ref q16, .ref q17, .int 0, .int (-1), .int 0, .ref q18, .ref q19, .ref q20, .ref q21, .ref q22, .ref q23, .ref q24, .ref q25, .int 0, .ref q26, .ref q27, .ref q28, .ref q29, .ref q30, .int 0, .ref q31, .ref q32, .ref q33, .ref q34, .int 0, .ref q35, .ref q36, .ref q37, .ref q38, .int (-1), .int 0, .ref q39, .ref q40, .ref q41, .ref q42])), (q1, .inl (G.2.1, 57, .inl (fun _ => 0))), (q2, .inl (G.2.1, 8, .inl (fun _ => 0)))]) rfl (fun H locs w => ?_)
  refine lv_iinc (v := 6) (lv' := [(1, .int 6), (0, .ref q0)]) hx hb dX12_asNow_20 hl (k := 0) rfl (by decide +kernel) (by decide) rfl (fun ls hl => ?_)
  refine lv_goto (tgt := 2) hx hb dX12_asNow_23 (by decide) ?_
  refine lv_iload_n hx hb dX12_asNow_2 rfl (lv_at hl 0 rfl) ?_
  refine lv_bipush (v := 8) hx hb dX12_asNow_3 (by decide) ?_
  refine lv_icmp_ge (tgt := 26) hx hb dX12_asNow_5 (by decide) (fun h => absurd h (by decide)) (fun _ => ?_)
  refine lv_aload_n hx hb dX12_asNow_8 rfl (lv_at hl 1 rfl) ?_
  refine r_get C w 0 rfl fr_X12_47 rfl dX12_asNow_9 ?_
  refine lv_iload_n hx hb dX12_asNow_12 rfl (lv_at hl 0 rfl) ?_
  refine lv_aload_n hx hb dX12_asNow_13 rfl (lv_at hl 1 rfl) ?_
  refine r_get C w 0 rfl fr_X12_41 rfl dX12_asNow_14 ?_
  refine lv_iload_n hx hb dX12_asNow_17 rfl (lv_at hl 0 rfl) ?_
  refine r_iald C w 1 rfl (IX.of (k := 6) (by decide +kernel)) (v := 0) rfl dX12_asNow_18 ?_
  refine r_iast C w 2 rfl (IX.of (k := 6) (by decide +kernel)) (g := (fun _ => 0)) (upd_c _ _) dX12_asNow_19 (ws2 := [(q0, .inr (12, [.int 0, .int 0, .int 0, .int 0, .int 0, .int 0, .int 0, .int (-1), .ref q3, .ref q4, .ref q5, .int 0, .ref q6, .ref q7, .ref q8, .ref q9, .ref q10, .ref q1, .ref q11, .int 0, .ref q2, .ref q12, .ref q13, .ref q14, .ref q15, .ref q16, .ref q17, .int 0, .int (-1), .int 0, .ref q18, .ref q19, .ref q20, .ref q21, .ref q22, .ref q23, .ref q24, .ref q25, .int 0, .ref q26, .ref q27, .ref q28, .ref q29, .ref q30, .int 0, .ref q31, .ref q32, .ref q33, .ref q34, .int 0, .ref q35, .ref q36, .ref q37, .ref q38, .int (-1), .int 0, .ref q39, .ref q40, .ref q41, .ref q42])), (q1, .inl (G.2.1, 57, .inl (fun _ => 0))), (q2, .inl (G.2.1, 8, .inl (fun _ => 0)))]) rfl (fun H locs w => ?_)
  refine lv_iinc (v := 7) (lv' := [(1, .int 7), (0, .ref q0)]) hx hb dX12_asNow_20 hl (k := 0) rfl (by decide +kernel) (by decide) rfl (fun ls hl => ?_)
  refine lv_goto (tgt := 2) hx hb dX12_asNow_23 (by decide) ?_
  refine lv_iload_n hx hb dX12_asNow_2 rfl (lv_at hl 0 rfl) ?_
  refine lv_bipush (v := 8) hx hb dX12_asNow_3 (by decide) ?_
  refine lv_icmp_ge (tgt := 26) hx hb dX12_asNow_5 (by decide) (fun h => absurd h (by decide)) (fun _ => ?_)
  refine lv_aload_n hx hb dX12_asNow_8 rfl (lv_at hl 1 rfl) ?_
  refine r_get C w 0 rfl fr_X12_47 rfl dX12_asNow_9 ?_
  refine lv_iload_n hx hb dX12_asNow_12 rfl (lv_at hl 0 rfl) ?_
  refine lv_aload_n hx hb dX12_asNow_13 rfl (lv_at hl 1 rfl) ?_
  refine r_get C w 0 rfl fr_X12_41 rfl dX12_asNow_14 ?_
  refine lv_iload_n hx hb dX12_asNow_17 rfl (lv_at hl 0 rfl) ?_
  refine r_iald C w 1 rfl (IX.of (k := 7) (by decide +kernel)) (v := 0) rfl dX12_asNow_18 ?_
  refine r_iast C w 2 rfl (IX.of (k := 7) (by decide +kernel)) (g := (fun _ => 0)) (upd_c _ _) dX12_asNow_19 (ws2 := [(q0, .inr (12, [.int 0, .int 0, .int 0, .int 0, .int 0, .int 0, .int 0, .int (-1), .ref q3, .ref q4, .ref q5, .int 0, .ref q6, .ref q7, .ref q8, .ref q9, .ref q10, .ref q1, .ref q11, .int 0, .ref q2, .ref q12, .ref q13, .ref q14, .ref q15, .ref q16, .ref q17, .int 0, .int (-1), .int 0, .ref q18, .ref q19, .ref q20, .ref q21, .ref q22, .ref q23, .ref q24, .ref q25, .int 0, .ref q26, .ref q27, .ref q28, .ref q29, .ref q30, .int 0, .ref q31, .ref q32, .ref q33, .ref q34, .int 0, .ref q35, .ref q36, .ref q37, .ref q38, .int (-1), .int 0, .ref q39, .ref q40, .ref q41, .ref q42])), (q1, .inl (G.2.1, 57, .inl (fun _ => 0))), (q2, .inl (G.2.1, 8, .inl (fun _ => 0)))]) rfl (fun H locs w => ?_)
  refine lv_iinc (v := 8) (lv' := [(1, .int 8), (0, .ref q0)]) hx hb dX12_asNow_20 hl (k := 0) rfl (by decide +kernel) (by decide) rfl (fun ls hl => ?_)
  refine lv_goto (tgt := 2) hx hb dX12_asNow_23 (by decide) ?_
  refine lv_iload_n hx hb dX12_asNow_2 rfl (lv_at hl 0 rfl) ?_
  refine lv_bipush (v := 8) hx hb dX12_asNow_3 (by decide) ?_
  refine lv_icmp_ge (tgt := 26) hx hb dX12_asNow_5 (by decide) (fun _ => ?_) (fun h => absurd (by decide) h)
  exact e_v C hr w (fun _ => 0) [0, 1, 2] rfl rfl dX12_asNow_26 (by decide) (by decide)
set_option maxRecDepth 100000 in
set_option maxHeartbeats 4000000 in
theorem k472_beginClocks {l : Launch} {s0 : State} {a0 : Array Value} {G : GT} (b0 : B0 l s0 a0 G) (q0 q1 q2 q3 q4 q5 q6 q7 q8 q9 q10 q11 q12 q13 q14 q15 q16 q17 q18 q19 q20 q21 q22 q23 q24 q25 q26 q27 q28 q29 q30 q31 q32 q33 q34 q35 q36 q37 q38 q39 q40 q41 q42 : Nat) (sz : Nat) : Kv l s0 G yX12_beginClocks cX12_beginClocks 2 none { frames := 1, cells := 0, slots := 0, locals := 21 } [.ref q0] [(q0, .inr (12, [.int 0, .int 0, .int 0, .int 0, .int 0, .int 0, .int 0, .int (-1), .ref q5, .ref q6, .ref q7, .int 0, .ref q8, .ref q9, .ref q10, .ref q11, .ref q12, .ref q1, .ref q13, .int 0, .ref q2, .ref q14, .ref q15, .ref q16, .ref q17, .ref q18, .ref q19, .int 0, .int (-1), .int 0, .ref q20, .ref q21, .ref q22, .ref q23, .ref q24, .ref q25, .ref q26, .ref q27, .int 0, .ref q28, .ref q29, .ref q30, .ref q31, .ref q32, .int 0, .ref q33, .ref q34, .ref q35, .ref q36, .int 0, .ref q3, .ref q4, .ref q37, .ref q38, .int (-1), .int 0, .ref q39, .ref q40, .ref q41, .ref q42])), (q1, .inl (G.2.1, 57, .inl (fun _ => 0))), (q2, .inl (G.2.1, 8, .inl (fun _ => 0))), (q3, .inl (G.2.1, 8, .inl (fun _ => 0))), (q4, .inl (G.2.1, 8, .inl (fun _ => 0)))] sz (fun u => [(q0, .inr (12, [.int 0, .int 0, .int 0, .int 0, .int 0, .int 0, .int 0, .int (-1), .ref q5, .ref q6, .ref q7, .int 0, .ref q8, .ref q9, .ref q10, .ref q11, .ref q12, .ref q1, .ref q13, .int 0, .ref q2, .ref q14, .ref q15, .ref q16, .ref q17, .ref q18, .ref q19, .int 0, .int (-1), .int 0, .ref q20, .ref q21, .ref q22, .ref q23, .ref q24, .ref q25, .ref q26, .ref q27, .int 0, .ref q28, .ref q29, .ref q30, .ref q31, .ref q32, .int 0, .ref q33, .ref q34, .ref q35, .ref q36, .int 0, .ref q3, .ref q4, .ref q37, .ref q38, .int (-1), .int 0, .ref q39, .ref q40, .ref q41, .ref q42])), (q1, .inl (G.2.1, 57, .inl (fun _ => 0))), (q2, .inl (G.2.1, 8, .inl (fun _ => 0))), (q3, .inl (G.2.1, 8, .inl (fun _ => 0))), (q4, .inl (G.2.1, 8, .inl (fun _ => 0)))]) := by
  refine Kv.of b0 (own := RX12) (nm := "beginClocks") [(0, .ref q0)] rfl rfl (by decide +kernel) (Nat.le_of_ble_eq_true rfl) rfl ?_
  intro p e s m below meth c A C hr H locs w ls hl
  have hx := C.hx
  have hb := C.hb
  refine lv_aload_n hx hb dX12_beginClocks_0 rfl (lv_at hl 0 rfl) ?_
  refine fin_v C w (run_V C w mv_X12_315 (k471_asNow C.b0 q0 q1 q2 q5 q6 q7 q8 q9 q10 q11 q12 q13 q14 q15 q16 q17 q18 q19 q20 q21 q22 q23 q24 q25 q26 q27 q28 q29 q30 q31 q32 q33 q34 q35 q36 q3 q4 q37 q38 q39 q40 q41 q42 H.size) [0, 1, 2] rfl rfl 0 rfl rfl (by decide) rfl hl.1 rfl (Nat.le_of_ble_eq_true rfl) dX12_beginClocks_1 (cells2 := 0) (slots2 := 0) (by decide)) [0, 1, 2] [3, 4] rfl rfl (by decide) (cells2 := 0) (slots2 := 0) (by decide) (fun u1 H locs w => ?_)
  have w : Wd s G A [(q3, .inl (G.2.1, 8, .inl (fun _ => 0))), (q4, .inl (G.2.1, 8, .inl (fun _ => 0))), (q0, .inr (12, [.int 0, .int 0, .int 0, .int 0, .int 0, .int 0, .int 0, .int (-1), .ref q5, .ref q6, .ref q7, .int 0, .ref q8, .ref q9, .ref q10, .ref q11, .ref q12, .ref q1, .ref q13, .int 0, .ref q2, .ref q14, .ref q15, .ref q16, .ref q17, .ref q18, .ref q19, .int 0, .int (-1), .int 0, .ref q20, .ref q21, .ref q22, .ref q23, .ref q24, .ref q25, .ref q26, .ref q27, .int 0, .ref q28, .ref q29, .ref q30, .ref q31, .ref q32, .int 0, .ref q33, .ref q34, .ref q35, .ref q36, .int 0, .ref q3, .ref q4, .ref q37, .ref q38, .int (-1), .int 0, .ref q39, .ref q40, .ref q41, .ref q42])), (q1, .inl (G.2.1, 57, .inl (fun _ => 0))), (q2, .inl (G.2.1, 8, .inl (fun _ => 0)))] H locs := w
  refine lv_iconst (v := 0) hx hb dX12_beginClocks_4 (by decide) ?_
  refine lv_istore_n (lv' := [(1, .int 0), (0, .ref q0)]) hx hb dX12_beginClocks_5 rfl hl (by decide) rfl (fun ls hl => ?_)
  refine lv_iload_n hx hb dX12_beginClocks_6 rfl (lv_at hl 0 rfl) ?_
  refine lv_bipush (v := 8) hx hb dX12_beginClocks_7 (by decide) ?_
  refine lv_icmp_ge (tgt := 32) hx hb dX12_beginClocks_9 (by decide) (fun h => absurd h (by decide)) (fun _ => ?_)
  refine lv_aload_n hx hb dX12_beginClocks_12 rfl (lv_at hl 1 rfl) ?_
  refine r_get C w 2 rfl fr_X12_124 rfl dX12_beginClocks_13 ?_
  refine lv_iload_n hx hb dX12_beginClocks_16 rfl (lv_at hl 0 rfl) ?_
  refine lv_iconst (v := 0) hx hb dX12_beginClocks_17 (by decide) ?_
  refine r_iast C w 0 rfl (IX.of (k := 0) (by decide +kernel)) (g := (fun _ => 0)) (upd_c _ _) dX12_beginClocks_18 (ws2 := [(q3, .inl (G.2.1, 8, .inl (fun _ => 0))), (q4, .inl (G.2.1, 8, .inl (fun _ => 0))), (q0, .inr (12, [.int 0, .int 0, .int 0, .int 0, .int 0, .int 0, .int 0, .int (-1), .ref q5, .ref q6, .ref q7, .int 0, .ref q8, .ref q9, .ref q10, .ref q11, .ref q12, .ref q1, .ref q13, .int 0, .ref q2, .ref q14, .ref q15, .ref q16, .ref q17, .ref q18, .ref q19, .int 0, .int (-1), .int 0, .ref q20, .ref q21, .ref q22, .ref q23, .ref q24, .ref q25, .ref q26, .ref q27, .int 0, .ref q28, .ref q29, .ref q30, .ref q31, .ref q32, .int 0, .ref q33, .ref q34, .ref q35, .ref q36, .int 0, .ref q3, .ref q4, .ref q37, .ref q38, .int (-1), .int 0, .ref q39, .ref q40, .ref q41, .ref q42])), (q1, .inl (G.2.1, 57, .inl (fun _ => 0))), (q2, .inl (G.2.1, 8, .inl (fun _ => 0)))]) rfl (fun H locs w => ?_)
  refine lv_aload_n hx hb dX12_beginClocks_19 rfl (lv_at hl 1 rfl) ?_
  refine r_get C w 2 rfl fr_X12_127 rfl dX12_beginClocks_20 ?_
  refine lv_iload_n hx hb dX12_beginClocks_23 rfl (lv_at hl 0 rfl) ?_
  refine lv_iconst (v := 0) hx hb dX12_beginClocks_24 (by decide) ?_
  refine r_iast C w 1 rfl (IX.of (k := 0) (by decide +kernel)) (g := (fun _ => 0)) (upd_c _ _) dX12_beginClocks_25 (ws2 := [(q3, .inl (G.2.1, 8, .inl (fun _ => 0))), (q4, .inl (G.2.1, 8, .inl (fun _ => 0))), (q0, .inr (12, [.int 0, .int 0, .int 0, .int 0, .int 0, .int 0, .int 0, .int (-1), .ref q5, .ref q6, .ref q7, .int 0, .ref q8, .ref q9, .ref q10, .ref q11, .ref q12, .ref q1, .ref q13, .int 0, .ref q2, .ref q14, .ref q15, .ref q16, .ref q17, .ref q18, .ref q19, .int 0, .int (-1), .int 0, .ref q20, .ref q21, .ref q22, .ref q23, .ref q24, .ref q25, .ref q26, .ref q27, .int 0, .ref q28, .ref q29, .ref q30, .ref q31, .ref q32, .int 0, .ref q33, .ref q34, .ref q35, .ref q36, .int 0, .ref q3, .ref q4, .ref q37, .ref q38, .int (-1), .int 0, .ref q39, .ref q40, .ref q41, .ref q42])), (q1, .inl (G.2.1, 57, .inl (fun _ => 0))), (q2, .inl (G.2.1, 8, .inl (fun _ => 0)))]) rfl (fun H locs w => ?_)
  refine lv_iinc (v := 1) (lv' := [(1, .int 1), (0, .ref q0)]) hx hb dX12_beginClocks_26 hl (k := 0) rfl (by decide +kernel) (by decide) rfl (fun ls hl => ?_)
  refine lv_goto (tgt := 6) hx hb dX12_beginClocks_29 (by decide) ?_
  refine lv_iload_n hx hb dX12_beginClocks_6 rfl (lv_at hl 0 rfl) ?_
  refine lv_bipush (v := 8) hx hb dX12_beginClocks_7 (by decide) ?_
  refine lv_icmp_ge (tgt := 32) hx hb dX12_beginClocks_9 (by decide) (fun h => absurd h (by decide)) (fun _ => ?_)
  refine lv_aload_n hx hb dX12_beginClocks_12 rfl (lv_at hl 1 rfl) ?_
  refine r_get C w 2 rfl fr_X12_124 rfl dX12_beginClocks_13 ?_
  refine lv_iload_n hx hb dX12_beginClocks_16 rfl (lv_at hl 0 rfl) ?_
  refine lv_iconst (v := 0) hx hb dX12_beginClocks_17 (by decide) ?_
  refine r_iast C w 0 rfl (IX.of (k := 1) (by decide +kernel)) (g := (fun _ => 0)) (upd_c _ _) dX12_beginClocks_18 (ws2 := [(q3, .inl (G.2.1, 8, .inl (fun _ => 0))), (q4, .inl (G.2.1, 8, .inl (fun _ => 0))), (q0, .inr (12, [.int 0, .int 0, .int 0, .int 0, .int 0, .int 0, .int 0, .int (-1), .ref q5, .ref q6, .ref q7, .int 0, .ref q8, .ref q9, .ref q10, .ref q11, .ref q12, .ref q1, .ref q13, .int 0, .ref q2, .ref q14, .ref q15, .ref q16, .ref q17, .ref q18, .ref q19, .int 0, .int (-1), .int 0, .ref q20, .ref q21, .ref q22, .ref q23, .ref q24, .ref q25, .ref q26, .ref q27, .int 0, .ref q28, .ref q29, .ref q30, .ref q31, .ref q32, .int 0, .ref q33, .ref q34, .ref q35, .ref q36, .int 0, .ref q3, .ref q4, .ref q37, .ref q38, .int (-1), .int 0, .ref q39, .ref q40, .ref q41, .ref q42])), (q1, .inl (G.2.1, 57, .inl (fun _ => 0))), (q2, .inl (G.2.1, 8, .inl (fun _ => 0)))]) rfl (fun H locs w => ?_)
  refine lv_aload_n hx hb dX12_beginClocks_19 rfl (lv_at hl 1 rfl) ?_
  refine r_get C w 2 rfl fr_X12_127 rfl dX12_beginClocks_20 ?_
  refine lv_iload_n hx hb dX12_beginClocks_23 rfl (lv_at hl 0 rfl) ?_
  refine lv_iconst (v := 0) hx hb dX12_beginClocks_24 (by decide) ?_
  refine r_iast C w 1 rfl (IX.of (k := 1) (by decide +kernel)) (g := (fun _ => 0)) (upd_c _ _) dX12_beginClocks_25 (ws2 := [(q3, .inl (G.2.1, 8, .inl (fun _ => 0))), (q4, .inl (G.2.1, 8, .inl (fun _ => 0))), (q0, .inr (12, [.int 0, .int 0, .int 0, .int 0, .int 0, .int 0, .int 0, .int (-1), .ref q5, .ref q6, .ref q7, .int 0, .ref q8, .ref q9, .ref q10, .ref q11, .ref q12, .ref q1, .ref q13, .int 0, .ref q2, .ref q14, .ref q15, .ref q16, .ref q17, .ref q18, .ref q19, .int 0, .int (-1), .int 0, .ref q20, .ref q21, .ref q22, .ref q23, .ref q24, .ref q25, .ref q26, .ref q27, .int 0, .ref q28, .ref q29, .ref q30, .ref q31, .ref q32, .int 0, .ref q33, .ref q34, .ref q35, .ref q36, .int 0, .ref q3, .ref q4, .ref q37, .ref q38, .int (-1), .int 0, .ref q39, .ref q40, .ref q41, .ref q42])), (q1, .inl (G.2.1, 57, .inl (fun _ => 0))), (q2, .inl (G.2.1, 8, .inl (fun _ => 0)))]) rfl (fun H locs w => ?_)
  refine lv_iinc (v := 2) (lv' := [(1, .int 2), (0, .ref q0)]) hx hb dX12_beginClocks_26 hl (k := 0) rfl (by decide +kernel) (by decide) rfl (fun ls hl => ?_)
  refine lv_goto (tgt := 6) hx hb dX12_beginClocks_29 (by decide) ?_
  refine lv_iload_n hx hb dX12_beginClocks_6 rfl (lv_at hl 0 rfl) ?_
  refine lv_bipush (v := 8) hx hb dX12_beginClocks_7 (by decide) ?_
  refine lv_icmp_ge (tgt := 32) hx hb dX12_beginClocks_9 (by decide) (fun h => absurd h (by decide)) (fun _ => ?_)
  refine lv_aload_n hx hb dX12_beginClocks_12 rfl (lv_at hl 1 rfl) ?_
  refine r_get C w 2 rfl fr_X12_124 rfl dX12_beginClocks_13 ?_
  refine lv_iload_n hx hb dX12_beginClocks_16 rfl (lv_at hl 0 rfl) ?_
  refine lv_iconst (v := 0) hx hb dX12_beginClocks_17 (by decide) ?_
  refine r_iast C w 0 rfl (IX.of (k := 2) (by decide +kernel)) (g := (fun _ => 0)) (upd_c _ _) dX12_beginClocks_18 (ws2 := [(q3, .inl (G.2.1, 8, .inl (fun _ => 0))), (q4, .inl (G.2.1, 8, .inl (fun _ => 0))), (q0, .inr (12, [.int 0, .int 0, .int 0, .int 0, .int 0, .int 0, .int 0, .int (-1), .ref q5, .ref q6, .ref q7, .int 0, .ref q8, .ref q9, .ref q10, .ref q11, .ref q12, .ref q1, .ref q13, .int 0, .ref q2, .ref q14, .ref q15, .ref q16, .ref q17, .ref q18, .ref q19, .int 0, .int (-1), .int 0, .ref q20, .ref q21, .ref q22, .ref q23, .ref q24, .ref q25, .ref q26, .ref q27, .int 0, .ref q28, .ref q29, .ref q30, .ref q31, .ref q32, .int 0, .ref q33, .ref q34, .ref q35, .ref q36, .int 0, .ref q3, .ref q4, .ref q37, .ref q38, .int (-1), .int 0, .ref q39, .ref q40, .ref q41, .ref q42])), (q1, .inl (G.2.1, 57, .inl (fun _ => 0))), (q2, .inl (G.2.1, 8, .inl (fun _ => 0)))]) rfl (fun H locs w => ?_)
  refine lv_aload_n hx hb dX12_beginClocks_19 rfl (lv_at hl 1 rfl) ?_
  refine r_get C w 2 rfl fr_X12_127 rfl dX12_beginClocks_20 ?_
  refine lv_iload_n hx hb dX12_beginClocks_23 rfl (lv_at hl 0 rfl) ?_
  refine lv_iconst (v := 0) hx hb dX12_beginClocks_24 (by decide) ?_
  refine r_iast C w 1 rfl (IX.of (k := 2) (by decide +kernel)) (g := (fun _ => 0)) (upd_c _ _) dX12_beginClocks_25 (ws2 := [(q3, .inl (G.2.1, 8, .inl (fun _ => 0))), (q4, .inl (G.2.1, 8, .inl (fun _ => 0))), (q0, .inr (12, [.int 0, .int 0, .int 0, .int 0, .int 0, .int 0, .int 0, .int (-1), .ref q5, .ref q6, .ref q7, .int 0, .ref q8, .ref q9, .ref q10, .ref q11, .ref q12, .ref q1, .ref q13, .int 0, .ref q2, .ref q14, .ref q15, .ref q16, .ref q17, .ref q18, .ref q19, .int 0, .int (-1), .int 0, .ref q20, .ref q21, .ref q22, .ref q23, .ref q24, .ref q25, .ref q26, .ref q27, .int 0, .ref q28, .ref q29, .ref q30, .ref q31, .ref q32, .int 0, .ref q33, .ref q34, .ref q35, .ref q36, .int 0, .ref q3, .ref q4, .ref q37, .ref q38, .int (-1), .int 0, .ref q39, .ref q40, .ref q41, .ref q42])), (q1, .inl (G.2.1, 57, .inl (fun _ => 0))), (q2, .inl (G.2.1, 8, .inl (fun _ => 0)))]) rfl (fun H locs w => ?_)
  refine lv_iinc (v := 3) (lv' := [(1, .int 3), (0, .ref q0)]) hx hb dX12_beginClocks_26 hl (k := 0) rfl (by decide +kernel) (by decide) rfl (fun ls hl => ?_)
  refine lv_goto (tgt := 6) hx hb dX12_beginClocks_29 (by decide) ?_
  refine lv_iload_n hx hb dX12_beginClocks_6 rfl (lv_at hl 0 rfl) ?_
  refine lv_bipush (v := 8) hx hb dX12_beginClocks_7 (by decide) ?_
  refine lv_icmp_ge (tgt := 32) hx hb dX12_beginClocks_9 (by decide) (fun h => absurd h (by decide)) (fun _ => ?_)
  refine lv_aload_n hx hb dX12_beginClocks_12 rfl (lv_at hl 1 rfl) ?_
  refine r_get C w 2 rfl fr_X12_124 rfl dX12_beginClocks_13 ?_
  refine lv_iload_n hx hb dX12_beginClocks_16 rfl (lv_at hl 0 rfl) ?_
  refine lv_iconst (v := 0) hx hb dX12_beginClocks_17 (by decide) ?_
  refine r_iast C w 0 rfl (IX.of (k := 3) (by decide +kernel)) (g := (fun _ => 0)) (upd_c _ _) dX12_beginClocks_18 (ws2 := [(q3, .inl (G.2.1, 8, .inl (fun _ => 0))), (q4, .inl (G.2.1, 8, .inl (fun _ => 0))), (q0, .inr (12, [.int 0, .int 0, .int 0, .int 0, .int 0, .int 0, .int 0, .int (-1), .ref q5, .ref q6, .ref q7, .int 0, .ref q8, .ref q9, .ref q10, .ref q11, .ref q12, .ref q1, .ref q13, .int 0, .ref q2, .ref q14, .ref q15, .ref q16, .ref q17, .ref q18, .ref q19, .int 0, .int (-1), .int 0, .ref q20, .ref q21, .ref q22, .ref q23, .ref q24, .ref q25, .ref q26, .ref q27, .int 0, .ref q28, .ref q29, .ref q30, .ref q31, .ref q32, .int 0, .ref q33, .ref q34, .ref q35, .ref q36, .int 0, .ref q3, .ref q4, .ref q37, .ref q38, .int (-1), .int 0, .ref q39, .ref q40, .ref q41, .ref q42])), (q1, .inl (G.2.1, 57, .inl (fun _ => 0))), (q2, .inl (G.2.1, 8, .inl (fun _ => 0)))]) rfl (fun H locs w => ?_)
  refine lv_aload_n hx hb dX12_beginClocks_19 rfl (lv_at hl 1 rfl) ?_
  refine r_get C w 2 rfl fr_X12_127 rfl dX12_beginClocks_20 ?_
  refine lv_iload_n hx hb dX12_beginClocks_23 rfl (lv_at hl 0 rfl) ?_
  refine lv_iconst (v := 0) hx hb dX12_beginClocks_24 (by decide) ?_
  refine r_iast C w 1 rfl (IX.of (k := 3) (by decide +kernel)) (g := (fun _ => 0)) (upd_c _ _) dX12_beginClocks_25 (ws2 := [(q3, .inl (G.2.1, 8, .inl (fun _ => 0))), (q4, .inl (G.2.1, 8, .inl (fun _ => 0))), (q0, .inr (12, [.int 0, .int 0, .int 0, .int 0, .int 0, .int 0, .int 0, .int (-1), .ref q5, .ref q6, .ref q7, .int 0, .ref q8, .ref q9, .ref q10, .ref q11, .ref q12, .ref q1, .ref q13, .int 0, .ref q2, .ref q14, .ref q15, .ref q16, .ref q17, .ref q18, .ref q19, .int 0, .int (-1), .int 0, .ref q20, .ref q21, .ref q22, .ref q23, .ref q24, .ref q25, .ref q26, .ref q27, .int 0, .ref q28, .ref q29, .ref q30, .ref q31, .ref q32, .int 0, .ref q33, .ref q34, .ref q35, .ref q36, .int 0, .ref q3, .ref q4, .ref q37, .ref q38, .int (-1), .int 0, .ref q39, .ref q40, .ref q41, .ref q42])), (q1, .inl (G.2.1, 57, .inl (fun _ => 0))), (q2, .inl (G.2.1, 8, .inl (fun _ => 0)))]) rfl (fun H locs w => ?_)
  refine lv_iinc (v := 4) (lv' := [(1, .int 4), (0, .ref q0)]) hx hb dX12_beginClocks_26 hl (k := 0) rfl (by decide +kernel) (by decide) rfl (fun ls hl => ?_)
  refine lv_goto (tgt := 6) hx hb dX12_beginClocks_29 (by decide) ?_
  refine lv_iload_n hx hb dX12_beginClocks_6 rfl (lv_at hl 0 rfl) ?_
  refine lv_bipush (v := 8) hx hb dX12_beginClocks_7 (by decide) ?_
  refine lv_icmp_ge (tgt := 32) hx hb dX12_beginClocks_9 (by decide) (fun h => absurd h (by decide)) (fun _ => ?_)
  refine lv_aload_n hx hb dX12_beginClocks_12 rfl (lv_at hl 1 rfl) ?_
  refine r_get C w 2 rfl fr_X12_124 rfl dX12_beginClocks_13 ?_
  refine lv_iload_n hx hb dX12_beginClocks_16 rfl (lv_at hl 0 rfl) ?_
  refine lv_iconst (v := 0) hx hb dX12_beginClocks_17 (by decide) ?_
  refine r_iast C w 0 rfl (IX.of (k := 4) (by decide +kernel)) (g := (fun _ => 0)) (upd_c _ _) dX12_beginClocks_18 (ws2 := [(q3, .inl (G.2.1, 8, .inl (fun _ => 0))), (q4, .inl (G.2.1, 8, .inl (fun _ => 0))), (q0, .inr (12, [.int 0, .int 0, .int 0, .int 0, .int 0, .int 0, .int 0, .int (-1), .ref q5, .ref q6, .ref q7, .int 0, .ref q8, .ref q9, .ref q10, .ref q11, .ref q12, .ref q1, .ref q13, .int 0, .ref q2, .ref q14, .ref q15, .ref q16, .ref q17, .ref q18, .ref q19, .int 0, .int (-1), .int 0, .ref q20, .ref q21, .ref q22, .ref q23, .ref q24, .ref q25, .ref q26, .ref q27, .int 0, .ref q28, .ref q29, .ref q30, .ref q31, .ref q32, .int 0, .ref q33, .ref q34, .ref q35, .ref q36, .int 0, .ref q3, .ref q4, .ref q37, .ref q38, .int (-1), .int 0, .ref q39, .ref q40, .ref q41, .ref q42])), (q1, .inl (G.2.1, 57, .inl (fun _ => 0))), (q2, .inl (G.2.1, 8, .inl (fun _ => 0)))]) rfl (fun H locs w => ?_)
  refine lv_aload_n hx hb dX12_beginClocks_19 rfl (lv_at hl 1 rfl) ?_
  refine r_get C w 2 rfl fr_X12_127 rfl dX12_beginClocks_20 ?_
  refine lv_iload_n hx hb dX12_beginClocks_23 rfl (lv_at hl 0 rfl) ?_
  refine lv_iconst (v := 0) hx hb dX12_beginClocks_24 (by decide) ?_
  refine r_iast C w 1 rfl (IX.of (k := 4) (by decide +kernel)) (g := (fun _ => 0)) (upd_c _ _) dX12_beginClocks_25 (ws2 := [(q3, .inl (G.2.1, 8, .inl (fun _ => 0))), (q4, .inl (G.2.1, 8, .inl (fun _ => 0))), (q0, .inr (12, [.int 0, .int 0, .int 0, .int 0, .int 0, .int 0, .int 0, .int (-1), .ref q5, .ref q6, .ref q7, .int 0, .ref q8, .ref q9, .ref q10, .ref q11, .ref q12, .ref q1, .ref q13, .int 0, .ref q2, .ref q14, .ref q15, .ref q16, .ref q17, .ref q18, .ref q19, .int 0, .int (-1), .int 0, .ref q20, .ref q21, .ref q22, .ref q23, .ref q24, .ref q25, .ref q26, .ref q27, .int 0, .ref q28, .ref q29, .ref q30, .ref q31, .ref q32, .int 0, .ref q33, .ref q34, .ref q35, .ref q36, .int 0, .ref q3, .ref q4, .ref q37, .ref q38, .int (-1), .int 0, .ref q39, .ref q40, .ref q41, .ref q42])), (q1, .inl (G.2.1, 57, .inl (fun _ => 0))), (q2, .inl (G.2.1, 8, .inl (fun _ => 0)))]) rfl (fun H locs w => ?_)
  refine lv_iinc (v := 5) (lv' := [(1, .int 5), (0, .ref q0)]) hx hb dX12_beginClocks_26 hl (k := 0) rfl (by decide +kernel) (by decide) rfl (fun ls hl => ?_)
  refine lv_goto (tgt := 6) hx hb dX12_beginClocks_29 (by decide) ?_
  refine lv_iload_n hx hb dX12_beginClocks_6 rfl (lv_at hl 0 rfl) ?_
  refine lv_bipush (v := 8) hx hb dX12_beginClocks_7 (by decide) ?_
  refine lv_icmp_ge (tgt := 32) hx hb dX12_beginClocks_9 (by decide) (fun h => absurd h (by decide)) (fun _ => ?_)
  refine lv_aload_n hx hb dX12_beginClocks_12 rfl (lv_at hl 1 rfl) ?_
  refine r_get C w 2 rfl fr_X12_124 rfl dX12_beginClocks_13 ?_
  refine lv_iload_n hx hb dX12_beginClocks_16 rfl (lv_at hl 0 rfl) ?_
  refine lv_iconst (v := 0) hx hb dX12_beginClocks_17 (by decide) ?_
  refine r_iast C w 0 rfl (IX.of (k := 5) (by decide +kernel)) (g := (fun _ => 0)) (upd_c _ _) dX12_beginClocks_18 (ws2 := [(q3, .inl (G.2.1, 8, .inl (fun _ => 0))), (q4, .inl (G.2.1, 8, .inl (fun _ => 0))), (q0, .inr (12, [.int 0, .int 0, .int 0, .int 0, .int 0, .int 0, .int 0, .int (-1), .ref q5, .ref q6, .ref q7, .int 0, .ref q8, .ref q9, .ref q10, .ref q11, .ref q12, .ref q1, .ref q13, .int 0, .ref q2, .ref q14, .ref q15, .ref q16, .ref q17, .ref q18, .ref q19, .int 0, .int (-1), .int 0, .ref q20, .ref q21, .ref q22, .ref q23, .ref q24, .ref q25, .ref q26, .ref q27, .int 0, .ref q28, .ref q29, .ref q30, .ref q31, .ref q32, .int 0, .ref q33, .ref q34, .ref q35, .ref q36, .int 0, .ref q3, .ref q4, .ref q37, .ref q38, .int (-1), .int 0, .ref q39, .ref q40, .ref q41, .ref q42])), (q1, .inl (G.2.1, 57, .inl (fun _ => 0))), (q2, .inl (G.2.1, 8, .inl (fun _ => 0)))]) rfl (fun H locs w => ?_)
  refine lv_aload_n hx hb dX12_beginClocks_19 rfl (lv_at hl 1 rfl) ?_
  refine r_get C w 2 rfl fr_X12_127 rfl dX12_beginClocks_20 ?_
  refine lv_iload_n hx hb dX12_beginClocks_23 rfl (lv_at hl 0 rfl) ?_
  refine lv_iconst (v := 0) hx hb dX12_beginClocks_24 (by decide) ?_
  refine r_iast C w 1 rfl (IX.of (k := 5) (by decide +kernel)) (g := (fun _ => 0)) (upd_c _ _) dX12_beginClocks_25 (ws2 := [(q3, .inl (G.2.1, 8, .inl (fun _ => 0))), (q4, .inl (G.2.1, 8, .inl (fun _ => 0))), (q0, .inr (12, [.int 0, .int 0, .int 0, .int 0, .int 0, .int 0, .int 0, .int (-1), .ref q5, .ref q6, .ref q7, .int 0, .ref q8, .ref q9, .ref q10, .ref q11, .ref q12, .ref q1, .ref q13, .int 0, .ref q2, .ref q14, .ref q15, .ref q16, .ref q17, .ref q18, .ref q19, .int 0, .int (-1), .int 0, .ref q20, .ref q21, .ref q22, .ref q23, .ref q24, .ref q25, .ref q26, .ref q27, .int 0, .ref q28, .ref q29, .ref q30, .ref q31, .ref q32, .int 0, .ref q33, .ref q34, .ref q35, .ref q36, .int 0, .ref q3, .ref q4, .ref q37, .ref q38, .int (-1), .int 0, .ref q39, .ref q40, .ref q41, .ref q42])), (q1, .inl (G.2.1, 57, .inl (fun _ => 0))), (q2, .inl (G.2.1, 8, .inl (fun _ => 0)))]) rfl (fun H locs w => ?_)
  refine lv_iinc (v := 6) (lv' := [(1, .int 6), (0, .ref q0)]) hx hb dX12_beginClocks_26 hl (k := 0) rfl (by decide +kernel) (by decide) rfl (fun ls hl => ?_)
  refine lv_goto (tgt := 6) hx hb dX12_beginClocks_29 (by decide) ?_
  refine lv_iload_n hx hb dX12_beginClocks_6 rfl (lv_at hl 0 rfl) ?_
  refine lv_bipush (v := 8) hx hb dX12_beginClocks_7 (by decide) ?_
  refine lv_icmp_ge (tgt := 32) hx hb dX12_beginClocks_9 (by decide) (fun h => absurd h (by decide)) (fun _ => ?_)
  refine lv_aload_n hx hb dX12_beginClocks_12 rfl (lv_at hl 1 rfl) ?_
  refine r_get C w 2 rfl fr_X12_124 rfl dX12_beginClocks_13 ?_
  refine lv_iload_n hx hb dX12_beginClocks_16 rfl (lv_at hl 0 rfl) ?_
  refine lv_iconst (v := 0) hx hb dX12_beginClocks_17 (by decide) ?_
  refine r_iast C w 0 rfl (IX.of (k := 6) (by decide +kernel)) (g := (fun _ => 0)) (upd_c _ _) dX12_beginClocks_18 (ws2 := [(q3, .inl (G.2.1, 8, .inl (fun _ => 0))), (q4, .inl (G.2.1, 8, .inl (fun _ => 0))), (q0, .inr (12, [.int 0, .int 0, .int 0, .int 0, .int 0, .int 0, .int 0, .int (-1), .ref q5, .ref q6, .ref q7, .int 0, .ref q8, .ref q9, .ref q10, .ref q11, .ref q12, .ref q1, .ref q13, .int 0, .ref q2, .ref q14, .ref q15, .ref q16, .ref q17, .ref q18, .ref q19, .int 0, .int (-1), .int 0, .ref q20, .ref q21, .ref q22, .ref q23, .ref q24, .ref q25, .ref q26, .ref q27, .int 0, .ref q28, .ref q29, .ref q30, .ref q31, .ref q32, .int 0, .ref q33, .ref q34, .ref q35, .ref q36, .int 0, .ref q3, .ref q4, .ref q37, .ref q38, .int (-1), .int 0, .ref q39, .ref q40, .ref q41, .ref q42])), (q1, .inl (G.2.1, 57, .inl (fun _ => 0))), (q2, .inl (G.2.1, 8, .inl (fun _ => 0)))]) rfl (fun H locs w => ?_)
  refine lv_aload_n hx hb dX12_beginClocks_19 rfl (lv_at hl 1 rfl) ?_
  refine r_get C w 2 rfl fr_X12_127 rfl dX12_beginClocks_20 ?_
  refine lv_iload_n hx hb dX12_beginClocks_23 rfl (lv_at hl 0 rfl) ?_
  refine lv_iconst (v := 0) hx hb dX12_beginClocks_24 (by decide) ?_
  refine r_iast C w 1 rfl (IX.of (k := 6) (by decide +kernel)) (g := (fun _ => 0)) (upd_c _ _) dX12_beginClocks_25 (ws2 := [(q3, .inl (G.2.1, 8, .inl (fun _ => 0))), (q4, .inl (G.2.1, 8, .inl (fun _ => 0))), (q0, .inr (12, [.int 0, .int 0, .int 0, .int 0, .int 0, .int 0, .int 0, .int (-1), .ref q5, .ref q6, .ref q7, .int 0, .ref q8, .ref q9, .ref q10, .ref q11, .ref q12, .ref q1, .ref q13, .int 0, .ref q2, .ref q14, .ref q15, .ref q16, .ref q17, .ref q18, .ref q19, .int 0, .int (-1), .int 0, .ref q20, .ref q21, .ref q22, .ref q23, .ref q24, .ref q25, .ref q26, .ref q27, .int 0, .ref q28, .ref q29, .ref q30, .ref q31, .ref q32, .int 0, .ref q33, .ref q34, .ref q35, .ref q36, .int 0, .ref q3, .ref q4, .ref q37, .ref q38, .int (-1), .int 0, .ref q39, .ref q40, .ref q41, .ref q42])), (q1, .inl (G.2.1, 57, .inl (fun _ => 0))), (q2, .inl (G.2.1, 8, .inl (fun _ => 0)))]) rfl (fun H locs w => ?_)
  refine lv_iinc (v := 7) (lv' := [(1, .int 7), (0, .ref q0)]) hx hb dX12_beginClocks_26 hl (k := 0) rfl (by decide +kernel) (by decide) rfl (fun ls hl => ?_)
  refine lv_goto (tgt := 6) hx hb dX12_beginClocks_29 (by decide) ?_
  refine lv_iload_n hx hb dX12_beginClocks_6 rfl (lv_at hl 0 rfl) ?_
  refine lv_bipush (v := 8) hx hb dX12_beginClocks_7 (by decide) ?_
  refine lv_icmp_ge (tgt := 32) hx hb dX12_beginClocks_9 (by decide) (fun h => absurd h (by decide)) (fun _ => ?_)
  refine lv_aload_n hx hb dX12_beginClocks_12 rfl (lv_at hl 1 rfl) ?_
  refine r_get C w 2 rfl fr_X12_124 rfl dX12_beginClocks_13 ?_
  refine lv_iload_n hx hb dX12_beginClocks_16 rfl (lv_at hl 0 rfl) ?_
  refine lv_iconst (v := 0) hx hb dX12_beginClocks_17 (by decide) ?_
  refine r_iast C w 0 rfl (IX.of (k := 7) (by decide +kernel)) (g := (fun _ => 0)) (upd_c _ _) dX12_beginClocks_18 (ws2 := [(q3, .inl (G.2.1, 8, .inl (fun _ => 0))), (q4, .inl (G.2.1, 8, .inl (fun _ => 0))), (q0, .inr (12, [.int 0, .int 0, .int 0, .int 0, .int 0, .int 0, .int 0, .int (-1), .ref q5, .ref q6, .ref q7, .int 0, .ref q8, .ref q9, .ref q10, .ref q11, .ref q12, .ref q1, .ref q13, .int 0, .ref q2, .ref q14, .ref q15, .ref q16, .ref q17, .ref q18, .ref q19, .int 0, .int (-1), .int 0, .ref q20, .ref q21, .ref q22, .ref q23, .ref q24, .ref q25, .ref q26, .ref q27, .int 0, .ref q28, .ref q29, .ref q30, .ref q31, .ref q32, .int 0, .ref q33, .ref q34, .ref q35, .ref q36, .int 0, .ref q3, .ref q4, .ref q37, .ref q38, .int (-1), .int 0, .ref q39, .ref q40, .ref q41, .ref q42])), (q1, .inl (G.2.1, 57, .inl (fun _ => 0))), (q2, .inl (G.2.1, 8, .inl (fun _ => 0)))]) rfl (fun H locs w => ?_)
  refine lv_aload_n hx hb dX12_beginClocks_19 rfl (lv_at hl 1 rfl) ?_
  refine r_get C w 2 rfl fr_X12_127 rfl dX12_beginClocks_20 ?_
  refine lv_iload_n hx hb dX12_beginClocks_23 rfl (lv_at hl 0 rfl) ?_
  refine lv_iconst (v := 0) hx hb dX12_beginClocks_24 (by decide) ?_
  refine r_iast C w 1 rfl (IX.of (k := 7) (by decide +kernel)) (g := (fun _ => 0)) (upd_c _ _) dX12_beginClocks_25 (ws2 := [(q3, .inl (G.2.1, 8, .inl (fun _ => 0))), (q4, .inl (G.2.1, 8, .inl (fun _ => 0))), (q0, .inr (12, [.int 0, .int 0, .int 0, .int 0, .int 0, .int 0, .int 0, .int (-1), .ref q5, .ref q6, .ref q7, .int 0, .ref q8, .ref q9, .ref q10, .ref q11, .ref q12, .ref q1, .ref q13, .int 0, .ref q2, .ref q14, .ref q15, .ref q16, .ref q17, .ref q18, .ref q19, .int 0, .int (-1), .int 0, .ref q20, .ref q21, .ref q22, .ref q23, .ref q24, .ref q25, .ref q26, .ref q27, .int 0, .ref q28, .ref q29, .ref q30, .ref q31, .ref q32, .int 0, .ref q33, .ref q34, .ref q35, .ref q36, .int 0, .ref q3, .ref q4, .ref q37, .ref q38, .int (-1), .int 0, .ref q39, .ref q40, .ref q41, .ref q42])), (q1, .inl (G.2.1, 57, .inl (fun _ => 0))), (q2, .inl (G.2.1, 8, .inl (fun _ => 0)))]) rfl (fun H locs w => ?_)
  refine lv_iinc (v := 8) (lv' := [(1, .int 8), (0, .ref q0)]) hx hb dX12_beginClocks_26 hl (k := 0) rfl (by decide +kernel) (by decide) rfl (fun ls hl => ?_)
  refine lv_goto (tgt := 6) hx hb dX12_beginClocks_29 (by decide) ?_
  refine lv_iload_n hx hb dX12_beginClocks_6 rfl (lv_at hl 0 rfl) ?_
  refine lv_bipush (v := 8) hx hb dX12_beginClocks_7 (by decide) ?_
  refine lv_icmp_ge (tgt := 32) hx hb dX12_beginClocks_9 (by decide) (fun _ => ?_) (fun h => absurd (by decide) h)
  exact e_v C hr w (fun _ => 0) [2, 3, 4, 0, 1] rfl rfl dX12_beginClocks_32 (by decide) (by decide)
set_option maxRecDepth 100000 in
set_option maxHeartbeats 4000000 in
theorem k473_acts {l : Launch} {s0 : State} {a0 : Array Value} {G : GT} (b0 : B0 l s0 a0 G) (q0 q1 q2 q3 q4 q5 q6 q7 q8 q9 q10 q11 q12 q13 q14 q15 q16 q17 q18 q19 q20 q21 q22 q23 q24 q25 q26 q27 q28 q29 q30 q31 q32 q33 q34 q35 q36 q37 q38 q39 q40 q41 q42 : Nat) (sz : Nat) : Ki l s0 G yX12_acts cX12_acts 1 (some .int) { frames := 0, cells := 0, slots := 0, locals := 0 } [.ref q0] [(q0, .inr (12, [.int 0, .int 0, .int 0, .int 0, .int 0, .int 0, .int 0, .int (-1), .ref q2, .ref q1, .ref q3, .int 0, .ref q4, .ref q5, .ref q6, .ref q7, .ref q8, .ref q9, .ref q10, .int 0, .ref q11, .ref q12, .ref q13, .ref q14, .ref q15, .ref q16, .ref q17, .int 0, .int (-1), .int 0, .ref q18, .ref q19, .ref q20, .ref q21, .ref q22, .ref q23, .ref q24, .ref q25, .int 0, .ref q26, .ref q27, .ref q28, .ref q29, .ref q30, .int 0, .ref q31, .ref q32, .ref q33, .ref q34, .int 0, .ref q35, .ref q36, .ref q37, .ref q38, .int (-1), .int 0, .ref q39, .ref q40, .ref q41, .ref q42])), (q1, .inl (G.2.1, 242, .inl (fun _ => 0)))] sz 0 (fun u => [(q0, .inr (12, [.int 0, .int 0, .int 0, .int 0, .int 0, .int 0, .int 0, .int (-1), .ref q2, .ref q1, .ref q3, .int 0, .ref q4, .ref q5, .ref q6, .ref q7, .ref q8, .ref q9, .ref q10, .int 0, .ref q11, .ref q12, .ref q13, .ref q14, .ref q15, .ref q16, .ref q17, .int 0, .int (-1), .int 0, .ref q18, .ref q19, .ref q20, .ref q21, .ref q22, .ref q23, .ref q24, .ref q25, .int 0, .ref q26, .ref q27, .ref q28, .ref q29, .ref q30, .int 0, .ref q31, .ref q32, .ref q33, .ref q34, .int 0, .ref q35, .ref q36, .ref q37, .ref q38, .int (-1), .int 0, .ref q39, .ref q40, .ref q41, .ref q42])), (q1, .inl (G.2.1, 242, .inl (fun _ => 0)))]) := by
  refine Ki.of b0 (own := RX12) (nm := "acts") [(0, .ref q0)] rfl rfl (by decide +kernel) (Nat.le_of_ble_eq_true rfl) rfl ?_
  intro p e s m below meth c A C hr H locs w ls hl
  have hx := C.hx
  have hb := C.hb
  refine lv_aload_n hx hb dX12_acts_0 rfl (lv_at hl 0 rfl) ?_
  refine r_get C w 0 rfl fr_X12_20 rfl dX12_acts_1 ?_
  refine lv_iconst (v := 1) hx hb dX12_acts_4 (by decide) ?_
  refine r_iald C w 1 rfl (IX.of (k := 1) (by decide +kernel)) (v := 0) rfl dX12_acts_5 ?_
  exact e_i C hr w (fun _ => 0) [0, 1] rfl rfl rfl dX12_acts_6 (by decide) (by decide)
set_option maxRecDepth 100000 in
set_option maxHeartbeats 4000000 in
theorem k474_moves {l : Launch} {s0 : State} {a0 : Array Value} {G : GT} (b0 : B0 l s0 a0 G) (q0 q1 q2 q3 q4 q5 q6 q7 q8 q9 q10 q11 q12 q13 q14 q15 q16 q17 q18 q19 q20 q21 q22 q23 q24 q25 q26 q27 q28 q29 q30 q31 q32 q33 q34 q35 q36 q37 q38 q39 q40 q41 q42 : Nat) (sz : Nat) : Kv l s0 G yX12_moves cX12_moves 3 none { frames := 1, cells := 0, slots := 0, locals := 20 } [.ref q0] [(q0, .inr (12, [.int 0, .int 0, .int 0, .int 0, .int 0, .int 0, .int 0, .int (-1), .ref q2, .ref q1, .ref q3, .int 0, .ref q4, .ref q5, .ref q6, .ref q7, .ref q8, .ref q9, .ref q10, .int 0, .ref q11, .ref q12, .ref q13, .ref q14, .ref q15, .ref q16, .ref q17, .int 0, .int (-1), .int 0, .ref q18, .ref q19, .ref q20, .ref q21, .ref q22, .ref q23, .ref q24, .ref q25, .int 0, .ref q26, .ref q27, .ref q28, .ref q29, .ref q30, .int 0, .ref q31, .ref q32, .ref q33, .ref q34, .int 0, .ref q35, .ref q36, .ref q37, .ref q38, .int (-1), .int 0, .ref q39, .ref q40, .ref q41, .ref q42])), (q1, .inl (G.2.1, 242, .inl (fun _ => 0)))] sz (fun u => [(q0, .inr (12, [.int 0, .int 0, .int 0, .int 0, .int 0, .int 0, .int 0, .int (-1), .ref q2, .ref q1, .ref q3, .int 0, .ref q4, .ref q5, .ref q6, .ref q7, .ref q8, .ref q9, .ref q10, .int 0, .ref q11, .ref q12, .ref q13, .ref q14, .ref q15, .ref q16, .ref q17, .int 0, .int (-1), .int 0, .ref q18, .ref q19, .ref q20, .ref q21, .ref q22, .ref q23, .ref q24, .ref q25, .int 0, .ref q26, .ref q27, .ref q28, .ref q29, .ref q30, .int 0, .ref q31, .ref q32, .ref q33, .ref q34, .int 0, .ref q35, .ref q36, .ref q37, .ref q38, .int (-1), .int 0, .ref q39, .ref q40, .ref q41, .ref q42])), (q1, .inl (G.2.1, 242, .inl (fun _ => 0)))]) := by
  refine Kv.of b0 (own := RX12) (nm := "moves") [(0, .ref q0)] rfl rfl (by decide +kernel) (Nat.le_of_ble_eq_true rfl) rfl ?_
  intro p e s m below meth c A C hr H locs w ls hl
  have hx := C.hx
  have hb := C.hb
  refine lv_iconst (v := 0) hx hb dX12_moves_0 (by decide) ?_
  refine lv_istore_n (lv' := [(1, .int 0), (0, .ref q0)]) hx hb dX12_moves_1 rfl hl (by decide) rfl (fun ls hl => ?_)
  refine lv_iload_n hx hb dX12_moves_2 rfl (lv_at hl 0 rfl) ?_
  refine lv_aload_n hx hb dX12_moves_3 rfl (lv_at hl 1 rfl) ?_
  refine fin_i C w (run_V C w mv_X12_286 (k473_acts C.b0 q0 q1 q2 q3 q4 q5 q6 q7 q8 q9 q10 q11 q12 q13 q14 q15 q16 q17 q18 q19 q20 q21 q22 q23 q24 q25 q26 q27 q28 q29 q30 q31 q32 q33 q34 q35 q36 q37 q38 q39 q40 q41 q42 H.size) [0, 1] rfl rfl 0 rfl rfl (by decide) rfl hl.1 rfl (Nat.le_of_ble_eq_true rfl) dX12_moves_4 (cells2 := 0) (slots2 := 0) (by decide)) [0, 1] [] rfl rfl (by decide) (cells2 := 0) (slots2 := 0) (by decide) (fun u1 H locs w => ?_)
  have w : Wd s G A [(q0, .inr (12, [.int 0, .int 0, .int 0, .int 0, .int 0, .int 0, .int 0, .int (-1), .ref q2, .ref q1, .ref q3, .int 0, .ref q4, .ref q5, .ref q6, .ref q7, .ref q8, .ref q9, .ref q10, .int 0, .ref q11, .ref q12, .ref q13, .ref q14, .ref q15, .ref q16, .ref q17, .int 0, .int (-1), .int 0, .ref q18, .ref q19, .ref q20, .ref q21, .ref q22, .ref q23, .ref q24, .ref q25, .int 0, .ref q26, .ref q27, .ref q28, .ref q29, .ref q30, .int 0, .ref q31, .ref q32, .ref q33, .ref q34, .int 0, .ref q35, .ref q36, .ref q37, .ref q38, .int (-1), .int 0, .ref q39, .ref q40, .ref q41, .ref q42])), (q1, .inl (G.2.1, 242, .inl (fun _ => 0)))] H locs := w
  refine lv_icmp_ge (tgt := 89) hx hb dX12_moves_7 (by decide) (fun _ => ?_) (fun h => absurd (by decide) h)
  refine lv_iconst (v := 0) hx hb dX12_moves_89 (by decide) ?_
  refine lv_istore_n (lv' := [(1, .int 0), (0, .ref q0)]) hx hb dX12_moves_90 rfl hl (by decide) rfl (fun ls hl => ?_)
  refine lv_iload_n hx hb dX12_moves_91 rfl (lv_at hl 0 rfl) ?_
  refine lv_aload_n hx hb dX12_moves_92 rfl (lv_at hl 1 rfl) ?_
  refine fin_i C w (run_V C w mv_X12_286 (k473_acts C.b0 q0 q1 q2 q3 q4 q5 q6 q7 q8 q9 q10 q11 q12 q13 q14 q15 q16 q17 q18 q19 q20 q21 q22 q23 q24 q25 q26 q27 q28 q29 q30 q31 q32 q33 q34 q35 q36 q37 q38 q39 q40 q41 q42 H.size) [0, 1] rfl rfl 0 rfl rfl (by decide) rfl hl.1 rfl (Nat.le_of_ble_eq_true rfl) dX12_moves_93 (cells2 := 0) (slots2 := 0) (by decide)) [0, 1] [] rfl rfl (by decide) (cells2 := 0) (slots2 := 0) (by decide) (fun u2 H locs w => ?_)
  have w : Wd s G A [(q0, .inr (12, [.int 0, .int 0, .int 0, .int 0, .int 0, .int 0, .int 0, .int (-1), .ref q2, .ref q1, .ref q3, .int 0, .ref q4, .ref q5, .ref q6, .ref q7, .ref q8, .ref q9, .ref q10, .int 0, .ref q11, .ref q12, .ref q13, .ref q14, .ref q15, .ref q16, .ref q17, .int 0, .int (-1), .int 0, .ref q18, .ref q19, .ref q20, .ref q21, .ref q22, .ref q23, .ref q24, .ref q25, .int 0, .ref q26, .ref q27, .ref q28, .ref q29, .ref q30, .int 0, .ref q31, .ref q32, .ref q33, .ref q34, .int 0, .ref q35, .ref q36, .ref q37, .ref q38, .int (-1), .int 0, .ref q39, .ref q40, .ref q41, .ref q42])), (q1, .inl (G.2.1, 242, .inl (fun _ => 0)))] H locs := w
  refine lv_icmp_ge (tgt := 248) hx hb dX12_moves_96 (by decide) (fun _ => ?_) (fun h => absurd (by decide) h)
  exact e_v C hr w (fun _ => 0) [0, 1] rfl rfl dX12_moves_248 (by decide) (by decide)
set_option maxRecDepth 100000 in
set_option maxHeartbeats 4000000 in
theorem k475_findPeriod {l : Launch} {s0 : State} {a0 : Array Value} {G : GT} (b0 : B0 l s0 a0 G) (q0 q1 q2 q3 q4 q5 q6 q7 q8 q9 q10 q11 q12 q13 q14 q15 q16 q17 q18 q19 q20 q21 q22 q23 q24 q25 q26 q27 q28 q29 q30 q31 q32 q33 q34 q35 q36 q37 q38 q39 q40 q41 q42 : Nat) (sz : Nat) : Kv l s0 G yX12_findPeriod cX12_findPeriod 5 none { frames := 2, cells := 0, slots := 0, locals := 42 } [.ref q0] [(q0, .inr (12, [.int 0, .int 0, .int 0, .int 0, .int 0, .int 0, .int 0, .int (-1), .ref q8, .ref q7, .ref q9, .int 0, .ref q10, .ref q11, .ref q12, .ref q13, .ref q14, .ref q1, .ref q15, .int 0, .ref q2, .ref q16, .ref q17, .ref q18, .ref q19, .ref q20, .ref q21, .int 0, .int (-1), .int 0, .ref q22, .ref q23, .ref q24, .ref q25, .ref q26, .ref q27, .ref q28, .ref q29, .int 0, .ref q30, .ref q31, .ref q32, .ref q33, .ref q34, .int 0, .ref q35, .ref q36, .ref q37, .ref q38, .int 0, .ref q3, .ref q4, .ref q5, .ref q6, .int 0, .int 0, .ref q39, .ref q40, .ref q41, .ref q42])), (q1, .inl (G.2.1, 57, .inl (fun _ => 0))), (q2, .inl (G.2.1, 8, .inl (fun _ => 0))), (q3, .inl (G.2.1, 8, .inl (fun _ => 0))), (q4, .inl (G.2.1, 8, .inl (fun _ => 0))), (q5, .inl (G.2.1, 32016, .inl (fun _ => 0))), (q6, .inl (G.2.1, 16008, .inl (fun _ => 0))), (q7, .inl (G.2.1, 242, .inl (fun _ => 0)))] sz (fun u => [(q0, .inr (12, [.int 0, .int 0, .int 0, .int 0, .int 0, .int 0, .int 0, .int (-1), .ref q8, .ref q7, .ref q9, .int 0, .ref q10, .ref q11, .ref q12, .ref q13, .ref q14, .ref q1, .ref q15, .int 0, .ref q2, .ref q16, .ref q17, .ref q18, .ref q19, .ref q20, .ref q21, .int 0, .int (-1), .int 0, .ref q22, .ref q23, .ref q24, .ref q25, .ref q26, .ref q27, .ref q28, .ref q29, .int 0, .ref q30, .ref q31, .ref q32, .ref q33, .ref q34, .int 0, .ref q35, .ref q36, .ref q37, .ref q38, .int 0, .ref q3, .ref q4, .ref q5, .ref q6, .int 0, .int 1, .ref q39, .ref q40, .ref q41, .ref q42])), (q1, .inl (G.2.1, 57, .inl (fun _ => 0))), (q2, .inl (G.2.1, 8, .inl (fun _ => 0))), (q3, .inl (G.2.1, 8, .inl (fun _ => 0))), (q4, .inl (G.2.1, 8, .inl (fun _ => 0))), (q5, .inl (G.2.1, 32016, .inl (fun _ => 0))), (q6, .inl (G.2.1, 16008, .inl (fun _ => 0))), (q7, .inl (G.2.1, 242, .inl (fun _ => 0)))]) := by
  refine Kv.of b0 (own := RX12) (nm := "findPeriod") [(0, .ref q0)] rfl rfl (by decide +kernel) (Nat.le_of_ble_eq_true rfl) rfl ?_
  intro p e s m below meth c A C hr H locs w ls hl
  have hx := C.hx
  have hb := C.hb
  refine lv_aload_n hx hb dX12_findPeriod_0 rfl (lv_at hl 0 rfl) ?_
  refine lv_iconst (v := (-1)) hx hb dX12_findPeriod_1 (by decide) ?_
  refine r_put C w 0 rfl fl_X12_444 (Nat.le_of_ble_eq_true rfl) rfl rfl dX12_findPeriod_2 (ws2 := [(q0, .inr (12, [.int 0, .int 0, .int 0, .int 0, .int 0, .int 0, .int 0, .int (-1), .ref q8, .ref q7, .ref q9, .int 0, .ref q10, .ref q11, .ref q12, .ref q13, .ref q14, .ref q1, .ref q15, .int 0, .ref q2, .ref q16, .ref q17, .ref q18, .ref q19, .ref q20, .ref q21, .int 0, .int (-1), .int 0, .ref q22, .ref q23, .ref q24, .ref q25, .ref q26, .ref q27, .ref q28, .ref q29, .int 0, .ref q30, .ref q31, .ref q32, .ref q33, .ref q34, .int 0, .ref q35, .ref q36, .ref q37, .ref q38, .int 0, .ref q3, .ref q4, .ref q5, .ref q6, .int (-1), .int 0, .ref q39, .ref q40, .ref q41, .ref q42])), (q1, .inl (G.2.1, 57, .inl (fun _ => 0))), (q2, .inl (G.2.1, 8, .inl (fun _ => 0))), (q3, .inl (G.2.1, 8, .inl (fun _ => 0))), (q4, .inl (G.2.1, 8, .inl (fun _ => 0))), (q5, .inl (G.2.1, 32016, .inl (fun _ => 0))), (q6, .inl (G.2.1, 16008, .inl (fun _ => 0))), (q7, .inl (G.2.1, 242, .inl (fun _ => 0)))]) rfl (fun H locs w => ?_)
  refine lv_aload_n hx hb dX12_findPeriod_5 rfl (lv_at hl 0 rfl) ?_
  refine fin_v C w (run_V C w mv_X12_438 (k472_beginClocks C.b0 q0 q1 q2 q3 q4 q8 q7 q9 q10 q11 q12 q13 q14 q15 q16 q17 q18 q19 q20 q21 q22 q23 q24 q25 q26 q27 q28 q29 q30 q31 q32 q33 q34 q35 q36 q37 q38 q5 q6 q39 q40 q41 q42 H.size) [0, 1, 2, 3, 4] rfl rfl 0 rfl rfl (by decide) rfl hl.1 rfl (Nat.le_of_ble_eq_true rfl) dX12_findPeriod_6 (cells2 := 0) (slots2 := 0) (by decide)) [0, 1, 2, 3, 4] [5, 6, 7] rfl rfl (by decide) (cells2 := 0) (slots2 := 0) (by decide) (fun u1 H locs w => ?_)
  have w : Wd s G A [(q5, .inl (G.2.1, 32016, .inl (fun _ => 0))), (q6, .inl (G.2.1, 16008, .inl (fun _ => 0))), (q7, .inl (G.2.1, 242, .inl (fun _ => 0))), (q0, .inr (12, [.int 0, .int 0, .int 0, .int 0, .int 0, .int 0, .int 0, .int (-1), .ref q8, .ref q7, .ref q9, .int 0, .ref q10, .ref q11, .ref q12, .ref q13, .ref q14, .ref q1, .ref q15, .int 0, .ref q2, .ref q16, .ref q17, .ref q18, .ref q19, .ref q20, .ref q21, .int 0, .int (-1), .int 0, .ref q22, .ref q23, .ref q24, .ref q25, .ref q26, .ref q27, .ref q28, .ref q29, .int 0, .ref q30, .ref q31, .ref q32, .ref q33, .ref q34, .int 0, .ref q35, .ref q36, .ref q37, .ref q38, .int 0, .ref q3, .ref q4, .ref q5, .ref q6, .int (-1), .int 0, .ref q39, .ref q40, .ref q41, .ref q42])), (q1, .inl (G.2.1, 57, .inl (fun _ => 0))), (q2, .inl (G.2.1, 8, .inl (fun _ => 0))), (q3, .inl (G.2.1, 8, .inl (fun _ => 0))), (q4, .inl (G.2.1, 8, .inl (fun _ => 0)))] H locs := w
  refine lv_iconst (v := 0) hx hb dX12_findPeriod_9 (by decide) ?_
  refine lv_istore_n (lv' := [(1, .int 0), (0, .ref q0)]) hx hb dX12_findPeriod_10 rfl hl (by decide) rfl (fun ls hl => ?_)
  refine lv_iload_n hx hb dX12_findPeriod_11 rfl (lv_at hl 0 rfl) ?_
  refine lv_sipush (v := 2000) hx hb dX12_findPeriod_12 (by decide) ?_
  refine lv_icmp_gt (tgt := 195) hx hb dX12_findPeriod_15 (by decide) (fun h => absurd h (by decide)) (fun _ => ?_)
  refine lv_iconst (v := 0) hx hb dX12_findPeriod_18 (by decide) ?_
  refine lv_istore_n (lv' := [(2, .int 0), (1, .int 0), (0, .ref q0)]) hx hb dX12_findPeriod_19 rfl hl (by decide) rfl (fun ls hl => ?_)
  refine lv_iload_n hx hb dX12_findPeriod_20 rfl (lv_at hl 0 rfl) ?_
  refine lv_bipush (v := 8) hx hb dX12_findPeriod_21 (by decide) ?_
  refine lv_icmp_ge (tgt := 86) hx hb dX12_findPeriod_23 (by decide) (fun h => absurd h (by decide)) (fun _ => ?_)
  refine lv_aload_n hx hb dX12_findPeriod_26 rfl (lv_at hl 2 rfl) ?_
  refine r_get C w 3 rfl fr_X12_130 rfl dX12_findPeriod_27 ?_
  refine lv_bipush (v := 16) hx hb dX12_findPeriod_30 (by decide) ?_
  refine lv_iload_n hx hb dX12_findPeriod_32 rfl (lv_at hl 1 rfl) ?_
  refine lv_imul hx hb dX12_findPeriod_33 ?_
  refine z_i (v := 0) (by decide +kernel) ?_
  refine lv_iload_n hx hb dX12_findPeriod_34 rfl (lv_at hl 0 rfl) ?_
  refine lv_iadd hx hb dX12_findPeriod_35 ?_
  refine z_i (v := 0) (by decide +kernel) ?_
  refine lv_aload_n hx hb dX12_findPeriod_36 rfl (lv_at hl 2 rfl) ?_
  refine r_get C w 3 rfl fr_X12_47 rfl dX12_findPeriod_37 ?_
  refine lv_iload_n hx hb dX12_findPeriod_40 rfl (lv_at hl 0 rfl) ?_
  refine r_iald C w 5 rfl (IX.of (k := 0) (by decide +kernel)) (v := 0) rfl dX12_findPeriod_41 ?_
  refine r_iast C w 0 rfl (IX.of (k := 0) (by decide +kernel)) (g := (fun _ => 0)) (upd_c _ _) dX12_findPeriod_42 (ws2 := [(q5, .inl (G.2.1, 32016, .inl (fun _ => 0))), (q6, .inl (G.2.1, 16008, .inl (fun _ => 0))), (q7, .inl (G.2.1, 242, .inl (fun _ => 0))), (q0, .inr (12, [.int 0, .int 0, .int 0, .int 0, .int 0, .int 0, .int 0, .int (-1), .ref q8, .ref q7, .ref q9, .int 0, .ref q10, .ref q11, .ref q12, .ref q13, .ref q14, .ref q1, .ref q15, .int 0, .ref q2, .ref q16, .ref q17, .ref q18, .ref q19, .ref q20, .ref q21, .int 0, .int (-1), .int 0, .ref q22, .ref q23, .ref q24, .ref q25, .ref q26, .ref q27, .ref q28, .ref q29, .int 0, .ref q30, .ref q31, .ref q32, .ref q33, .ref q34, .int 0, .ref q35, .ref q36, .ref q37, .ref q38, .int 0, .ref q3, .ref q4, .ref q5, .ref q6, .int (-1), .int 0, .ref q39, .ref q40, .ref q41, .ref q42])), (q1, .inl (G.2.1, 57, .inl (fun _ => 0))), (q2, .inl (G.2.1, 8, .inl (fun _ => 0))), (q3, .inl (G.2.1, 8, .inl (fun _ => 0))), (q4, .inl (G.2.1, 8, .inl (fun _ => 0)))]) rfl (fun H locs w => ?_)
  refine lv_aload_n hx hb dX12_findPeriod_43 rfl (lv_at hl 2 rfl) ?_
  refine r_get C w 3 rfl fr_X12_130 rfl dX12_findPeriod_44 ?_
  refine lv_bipush (v := 16) hx hb dX12_findPeriod_47 (by decide) ?_
  refine lv_iload_n hx hb dX12_findPeriod_49 rfl (lv_at hl 1 rfl) ?_
  refine lv_imul hx hb dX12_findPeriod_50 ?_
  refine z_i (v := 0) (by decide +kernel) ?_
  refine lv_bipush (v := 8) hx hb dX12_findPeriod_51 (by decide) ?_
  refine lv_iadd hx hb dX12_findPeriod_53 ?_
  refine z_i (v := 8) (by decide +kernel) ?_
  refine lv_iload_n hx hb dX12_findPeriod_54 rfl (lv_at hl 0 rfl) ?_
  refine lv_iadd hx hb dX12_findPeriod_55 ?_
  refine z_i (v := 8) (by decide +kernel) ?_
  refine lv_aload_n hx hb dX12_findPeriod_56 rfl (lv_at hl 2 rfl) ?_
  refine r_get C w 3 rfl fr_X12_124 rfl dX12_findPeriod_57 ?_
  refine lv_iload_n hx hb dX12_findPeriod_60 rfl (lv_at hl 0 rfl) ?_
  refine r_iald C w 6 rfl (IX.of (k := 0) (by decide +kernel)) (v := 0) rfl dX12_findPeriod_61 ?_
  refine r_iast C w 0 rfl (IX.of (k := 8) (by decide +kernel)) (g := (fun _ => 0)) (upd_c _ _) dX12_findPeriod_62 (ws2 := [(q5, .inl (G.2.1, 32016, .inl (fun _ => 0))), (q6, .inl (G.2.1, 16008, .inl (fun _ => 0))), (q7, .inl (G.2.1, 242, .inl (fun _ => 0))), (q0, .inr (12, [.int 0, .int 0, .int 0, .int 0, .int 0, .int 0, .int 0, .int (-1), .ref q8, .ref q7, .ref q9, .int 0, .ref q10, .ref q11, .ref q12, .ref q13, .ref q14, .ref q1, .ref q15, .int 0, .ref q2, .ref q16, .ref q17, .ref q18, .ref q19, .ref q20, .ref q21, .int 0, .int (-1), .int 0, .ref q22, .ref q23, .ref q24, .ref q25, .ref q26, .ref q27, .ref q28, .ref q29, .int 0, .ref q30, .ref q31, .ref q32, .ref q33, .ref q34, .int 0, .ref q35, .ref q36, .ref q37, .ref q38, .int 0, .ref q3, .ref q4, .ref q5, .ref q6, .int (-1), .int 0, .ref q39, .ref q40, .ref q41, .ref q42])), (q1, .inl (G.2.1, 57, .inl (fun _ => 0))), (q2, .inl (G.2.1, 8, .inl (fun _ => 0))), (q3, .inl (G.2.1, 8, .inl (fun _ => 0))), (q4, .inl (G.2.1, 8, .inl (fun _ => 0)))]) rfl (fun H locs w => ?_)
  refine lv_aload_n hx hb dX12_findPeriod_63 rfl (lv_at hl 2 rfl) ?_
  refine r_get C w 3 rfl fr_X12_133 rfl dX12_findPeriod_64 ?_
  refine lv_bipush (v := 8) hx hb dX12_findPeriod_67 (by decide) ?_
  refine lv_iload_n hx hb dX12_findPeriod_69 rfl (lv_at hl 1 rfl) ?_
  refine lv_imul hx hb dX12_findPeriod_70 ?_
  refine z_i (v := 0) (by decide +kernel) ?_
  refine lv_iload_n hx hb dX12_findPeriod_71 rfl (lv_at hl 0 rfl) ?_
  refine lv_iadd hx hb dX12_findPeriod_72 ?_
  refine z_i (v := 0) (by decide +kernel) ?_
  refine lv_aload_n hx hb dX12_findPeriod_73 rfl (lv_at hl 2 rfl) ?_
  refine r_get C w 3 rfl fr_X12_127 rfl dX12_findPeriod_74 ?_
  refine lv_iload_n hx hb dX12_findPeriod_77 rfl (lv_at hl 0 rfl) ?_
  refine r_iald C w 7 rfl (IX.of (k := 0) (by decide +kernel)) (v := 0) rfl dX12_findPeriod_78 ?_
  refine r_iast C w 1 rfl (IX.of (k := 0) (by decide +kernel)) (g := (fun _ => 0)) (upd_c _ _) dX12_findPeriod_79 (ws2 := [(q5, .inl (G.2.1, 32016, .inl (fun _ => 0))), (q6, .inl (G.2.1, 16008, .inl (fun _ => 0))), (q7, .inl (G.2.1, 242, .inl (fun _ => 0))), (q0, .inr (12, [.int 0, .int 0, .int 0, .int 0, .int 0, .int 0, .int 0, .int (-1), .ref q8, .ref q7, .ref q9, .int 0, .ref q10, .ref q11, .ref q12, .ref q13, .ref q14, .ref q1, .ref q15, .int 0, .ref q2, .ref q16, .ref q17, .ref q18, .ref q19, .ref q20, .ref q21, .int 0, .int (-1), .int 0, .ref q22, .ref q23, .ref q24, .ref q25, .ref q26, .ref q27, .ref q28, .ref q29, .int 0, .ref q30, .ref q31, .ref q32, .ref q33, .ref q34, .int 0, .ref q35, .ref q36, .ref q37, .ref q38, .int 0, .ref q3, .ref q4, .ref q5, .ref q6, .int (-1), .int 0, .ref q39, .ref q40, .ref q41, .ref q42])), (q1, .inl (G.2.1, 57, .inl (fun _ => 0))), (q2, .inl (G.2.1, 8, .inl (fun _ => 0))), (q3, .inl (G.2.1, 8, .inl (fun _ => 0))), (q4, .inl (G.2.1, 8, .inl (fun _ => 0)))]) rfl (fun H locs w => ?_)
  refine lv_iinc (v := 1) (lv' := [(2, .int 1), (1, .int 0), (0, .ref q0)]) hx hb dX12_findPeriod_80 hl (k := 0) rfl (by decide +kernel) (by decide) rfl (fun ls hl => ?_)
  refine lv_goto (tgt := 20) hx hb dX12_findPeriod_83 (by decide) ?_
  refine lv_iload_n hx hb dX12_findPeriod_20 rfl (lv_at hl 0 rfl) ?_
  refine lv_bipush (v := 8) hx hb dX12_findPeriod_21 (by decide) ?_
  refine lv_icmp_ge (tgt := 86) hx hb dX12_findPeriod_23 (by decide) (fun h => absurd h (by decide)) (fun _ => ?_)
  refine lv_aload_n hx hb dX12_findPeriod_26 rfl (lv_at hl 2 rfl) ?_
  refine r_get C w 3 rfl fr_X12_130 rfl dX12_findPeriod_27 ?_
  refine lv_bipush (v := 16) hx hb dX12_findPeriod_30 (by decide) ?_
  refine lv_iload_n hx hb dX12_findPeriod_32 rfl (lv_at hl 1 rfl) ?_
  refine lv_imul hx hb dX12_findPeriod_33 ?_
  refine z_i (v := 0) (by decide +kernel) ?_
  refine lv_iload_n hx hb dX12_findPeriod_34 rfl (lv_at hl 0 rfl) ?_
  refine lv_iadd hx hb dX12_findPeriod_35 ?_
  refine z_i (v := 1) (by decide +kernel) ?_
  refine lv_aload_n hx hb dX12_findPeriod_36 rfl (lv_at hl 2 rfl) ?_
  refine r_get C w 3 rfl fr_X12_47 rfl dX12_findPeriod_37 ?_
  refine lv_iload_n hx hb dX12_findPeriod_40 rfl (lv_at hl 0 rfl) ?_
  refine r_iald C w 5 rfl (IX.of (k := 1) (by decide +kernel)) (v := 0) rfl dX12_findPeriod_41 ?_
  refine r_iast C w 0 rfl (IX.of (k := 1) (by decide +kernel)) (g := (fun _ => 0)) (upd_c _ _) dX12_findPeriod_42 (ws2 := [(q5, .inl (G.2.1, 32016, .inl (fun _ => 0))), (q6, .inl (G.2.1, 16008, .inl (fun _ => 0))), (q7, .inl (G.2.1, 242, .inl (fun _ => 0))), (q0, .inr (12, [.int 0, .int 0, .int 0, .int 0, .int 0, .int 0, .int 0, .int (-1), .ref q8, .ref q7, .ref q9, .int 0, .ref q10, .ref q11, .ref q12, .ref q13, .ref q14, .ref q1, .ref q15, .int 0, .ref q2, .ref q16, .ref q17, .ref q18, .ref q19, .ref q20, .ref q21, .int 0, .int (-1), .int 0, .ref q22, .ref q23, .ref q24, .ref q25, .ref q26, .ref q27, .ref q28, .ref q29, .int 0, .ref q30, .ref q31, .ref q32, .ref q33, .ref q34, .int 0, .ref q35, .ref q36, .ref q37, .ref q38, .int 0, .ref q3, .ref q4, .ref q5, .ref q6, .int (-1), .int 0, .ref q39, .ref q40, .ref q41, .ref q42])), (q1, .inl (G.2.1, 57, .inl (fun _ => 0))), (q2, .inl (G.2.1, 8, .inl (fun _ => 0))), (q3, .inl (G.2.1, 8, .inl (fun _ => 0))), (q4, .inl (G.2.1, 8, .inl (fun _ => 0)))]) rfl (fun H locs w => ?_)
  refine lv_aload_n hx hb dX12_findPeriod_43 rfl (lv_at hl 2 rfl) ?_
  refine r_get C w 3 rfl fr_X12_130 rfl dX12_findPeriod_44 ?_
  refine lv_bipush (v := 16) hx hb dX12_findPeriod_47 (by decide) ?_
  refine lv_iload_n hx hb dX12_findPeriod_49 rfl (lv_at hl 1 rfl) ?_
  refine lv_imul hx hb dX12_findPeriod_50 ?_
  refine z_i (v := 0) (by decide +kernel) ?_
  refine lv_bipush (v := 8) hx hb dX12_findPeriod_51 (by decide) ?_
  refine lv_iadd hx hb dX12_findPeriod_53 ?_
  refine z_i (v := 8) (by decide +kernel) ?_
  refine lv_iload_n hx hb dX12_findPeriod_54 rfl (lv_at hl 0 rfl) ?_
  refine lv_iadd hx hb dX12_findPeriod_55 ?_
  refine z_i (v := 9) (by decide +kernel) ?_
  refine lv_aload_n hx hb dX12_findPeriod_56 rfl (lv_at hl 2 rfl) ?_
  refine r_get C w 3 rfl fr_X12_124 rfl dX12_findPeriod_57 ?_
  refine lv_iload_n hx hb dX12_findPeriod_60 rfl (lv_at hl 0 rfl) ?_
  refine r_iald C w 6 rfl (IX.of (k := 1) (by decide +kernel)) (v := 0) rfl dX12_findPeriod_61 ?_
  refine r_iast C w 0 rfl (IX.of (k := 9) (by decide +kernel)) (g := (fun _ => 0)) (upd_c _ _) dX12_findPeriod_62 (ws2 := [(q5, .inl (G.2.1, 32016, .inl (fun _ => 0))), (q6, .inl (G.2.1, 16008, .inl (fun _ => 0))), (q7, .inl (G.2.1, 242, .inl (fun _ => 0))), (q0, .inr (12, [.int 0, .int 0, .int 0, .int 0, .int 0, .int 0, .int 0, .int (-1), .ref q8, .ref q7, .ref q9, .int 0, .ref q10, .ref q11, .ref q12, .ref q13, .ref q14, .ref q1, .ref q15, .int 0, .ref q2, .ref q16, .ref q17, .ref q18, .ref q19, .ref q20, .ref q21, .int 0, .int (-1), .int 0, .ref q22, .ref q23, .ref q24, .ref q25, .ref q26, .ref q27, .ref q28, .ref q29, .int 0, .ref q30, .ref q31, .ref q32, .ref q33, .ref q34, .int 0, .ref q35, .ref q36, .ref q37, .ref q38, .int 0, .ref q3, .ref q4, .ref q5, .ref q6, .int (-1), .int 0, .ref q39, .ref q40, .ref q41, .ref q42])), (q1, .inl (G.2.1, 57, .inl (fun _ => 0))), (q2, .inl (G.2.1, 8, .inl (fun _ => 0))), (q3, .inl (G.2.1, 8, .inl (fun _ => 0))), (q4, .inl (G.2.1, 8, .inl (fun _ => 0)))]) rfl (fun H locs w => ?_)
  refine lv_aload_n hx hb dX12_findPeriod_63 rfl (lv_at hl 2 rfl) ?_
  refine r_get C w 3 rfl fr_X12_133 rfl dX12_findPeriod_64 ?_
  refine lv_bipush (v := 8) hx hb dX12_findPeriod_67 (by decide) ?_
  refine lv_iload_n hx hb dX12_findPeriod_69 rfl (lv_at hl 1 rfl) ?_
  refine lv_imul hx hb dX12_findPeriod_70 ?_
  refine z_i (v := 0) (by decide +kernel) ?_
  refine lv_iload_n hx hb dX12_findPeriod_71 rfl (lv_at hl 0 rfl) ?_
  refine lv_iadd hx hb dX12_findPeriod_72 ?_
  refine z_i (v := 1) (by decide +kernel) ?_
  refine lv_aload_n hx hb dX12_findPeriod_73 rfl (lv_at hl 2 rfl) ?_
  refine r_get C w 3 rfl fr_X12_127 rfl dX12_findPeriod_74 ?_
  refine lv_iload_n hx hb dX12_findPeriod_77 rfl (lv_at hl 0 rfl) ?_
  refine r_iald C w 7 rfl (IX.of (k := 1) (by decide +kernel)) (v := 0) rfl dX12_findPeriod_78 ?_
  refine r_iast C w 1 rfl (IX.of (k := 1) (by decide +kernel)) (g := (fun _ => 0)) (upd_c _ _) dX12_findPeriod_79 (ws2 := [(q5, .inl (G.2.1, 32016, .inl (fun _ => 0))), (q6, .inl (G.2.1, 16008, .inl (fun _ => 0))), (q7, .inl (G.2.1, 242, .inl (fun _ => 0))), (q0, .inr (12, [.int 0, .int 0, .int 0, .int 0, .int 0, .int 0, .int 0, .int (-1), .ref q8, .ref q7, .ref q9, .int 0, .ref q10, .ref q11, .ref q12, .ref q13, .ref q14, .ref q1, .ref q15, .int 0, .ref q2, .ref q16, .ref q17, .ref q18, .ref q19, .ref q20, .ref q21, .int 0, .int (-1), .int 0, .ref q22, .ref q23, .ref q24, .ref q25, .ref q26, .ref q27, .ref q28, .ref q29, .int 0, .ref q30, .ref q31, .ref q32, .ref q33, .ref q34, .int 0, .ref q35, .ref q36, .ref q37, .ref q38, .int 0, .ref q3, .ref q4, .ref q5, .ref q6, .int (-1), .int 0, .ref q39, .ref q40, .ref q41, .ref q42])), (q1, .inl (G.2.1, 57, .inl (fun _ => 0))), (q2, .inl (G.2.1, 8, .inl (fun _ => 0))), (q3, .inl (G.2.1, 8, .inl (fun _ => 0))), (q4, .inl (G.2.1, 8, .inl (fun _ => 0)))]) rfl (fun H locs w => ?_)
  refine lv_iinc (v := 2) (lv' := [(2, .int 2), (1, .int 0), (0, .ref q0)]) hx hb dX12_findPeriod_80 hl (k := 0) rfl (by decide +kernel) (by decide) rfl (fun ls hl => ?_)
  refine lv_goto (tgt := 20) hx hb dX12_findPeriod_83 (by decide) ?_
  refine lv_iload_n hx hb dX12_findPeriod_20 rfl (lv_at hl 0 rfl) ?_
  refine lv_bipush (v := 8) hx hb dX12_findPeriod_21 (by decide) ?_
  refine lv_icmp_ge (tgt := 86) hx hb dX12_findPeriod_23 (by decide) (fun h => absurd h (by decide)) (fun _ => ?_)
  refine lv_aload_n hx hb dX12_findPeriod_26 rfl (lv_at hl 2 rfl) ?_
  refine r_get C w 3 rfl fr_X12_130 rfl dX12_findPeriod_27 ?_
  refine lv_bipush (v := 16) hx hb dX12_findPeriod_30 (by decide) ?_
  refine lv_iload_n hx hb dX12_findPeriod_32 rfl (lv_at hl 1 rfl) ?_
  refine lv_imul hx hb dX12_findPeriod_33 ?_
  refine z_i (v := 0) (by decide +kernel) ?_
  refine lv_iload_n hx hb dX12_findPeriod_34 rfl (lv_at hl 0 rfl) ?_
  refine lv_iadd hx hb dX12_findPeriod_35 ?_
  refine z_i (v := 2) (by decide +kernel) ?_
  refine lv_aload_n hx hb dX12_findPeriod_36 rfl (lv_at hl 2 rfl) ?_
  refine r_get C w 3 rfl fr_X12_47 rfl dX12_findPeriod_37 ?_
  refine lv_iload_n hx hb dX12_findPeriod_40 rfl (lv_at hl 0 rfl) ?_
  refine r_iald C w 5 rfl (IX.of (k := 2) (by decide +kernel)) (v := 0) rfl dX12_findPeriod_41 ?_
  refine r_iast C w 0 rfl (IX.of (k := 2) (by decide +kernel)) (g := (fun _ => 0)) (upd_c _ _) dX12_findPeriod_42 (ws2 := [(q5, .inl (G.2.1, 32016, .inl (fun _ => 0))), (q6, .inl (G.2.1, 16008, .inl (fun _ => 0))), (q7, .inl (G.2.1, 242, .inl (fun _ => 0))), (q0, .inr (12, [.int 0, .int 0, .int 0, .int 0, .int 0, .int 0, .int 0, .int (-1), .ref q8, .ref q7, .ref q9, .int 0, .ref q10, .ref q11, .ref q12, .ref q13, .ref q14, .ref q1, .ref q15, .int 0, .ref q2, .ref q16, .ref q17, .ref q18, .ref q19, .ref q20, .ref q21, .int 0, .int (-1), .int 0, .ref q22, .ref q23, .ref q24, .ref q25, .ref q26, .ref q27, .ref q28, .ref q29, .int 0, .ref q30, .ref q31, .ref q32, .ref q33, .ref q34, .int 0, .ref q35, .ref q36, .ref q37, .ref q38, .int 0, .ref q3, .ref q4, .ref q5, .ref q6, .int (-1), .int 0, .ref q39, .ref q40, .ref q41, .ref q42])), (q1, .inl (G.2.1, 57, .inl (fun _ => 0))), (q2, .inl (G.2.1, 8, .inl (fun _ => 0))), (q3, .inl (G.2.1, 8, .inl (fun _ => 0))), (q4, .inl (G.2.1, 8, .inl (fun _ => 0)))]) rfl (fun H locs w => ?_)
  refine lv_aload_n hx hb dX12_findPeriod_43 rfl (lv_at hl 2 rfl) ?_
  refine r_get C w 3 rfl fr_X12_130 rfl dX12_findPeriod_44 ?_
  refine lv_bipush (v := 16) hx hb dX12_findPeriod_47 (by decide) ?_
  refine lv_iload_n hx hb dX12_findPeriod_49 rfl (lv_at hl 1 rfl) ?_
  refine lv_imul hx hb dX12_findPeriod_50 ?_
  refine z_i (v := 0) (by decide +kernel) ?_
  refine lv_bipush (v := 8) hx hb dX12_findPeriod_51 (by decide) ?_
  refine lv_iadd hx hb dX12_findPeriod_53 ?_
  refine z_i (v := 8) (by decide +kernel) ?_
  refine lv_iload_n hx hb dX12_findPeriod_54 rfl (lv_at hl 0 rfl) ?_
  refine lv_iadd hx hb dX12_findPeriod_55 ?_
  refine z_i (v := 10) (by decide +kernel) ?_
  refine lv_aload_n hx hb dX12_findPeriod_56 rfl (lv_at hl 2 rfl) ?_
  refine r_get C w 3 rfl fr_X12_124 rfl dX12_findPeriod_57 ?_
  refine lv_iload_n hx hb dX12_findPeriod_60 rfl (lv_at hl 0 rfl) ?_
  refine r_iald C w 6 rfl (IX.of (k := 2) (by decide +kernel)) (v := 0) rfl dX12_findPeriod_61 ?_
  refine r_iast C w 0 rfl (IX.of (k := 10) (by decide +kernel)) (g := (fun _ => 0)) (upd_c _ _) dX12_findPeriod_62 (ws2 := [(q5, .inl (G.2.1, 32016, .inl (fun _ => 0))), (q6, .inl (G.2.1, 16008, .inl (fun _ => 0))), (q7, .inl (G.2.1, 242, .inl (fun _ => 0))), (q0, .inr (12, [.int 0, .int 0, .int 0, .int 0, .int 0, .int 0, .int 0, .int (-1), .ref q8, .ref q7, .ref q9, .int 0, .ref q10, .ref q11, .ref q12, .ref q13, .ref q14, .ref q1, .ref q15, .int 0, .ref q2, .ref q16, .ref q17, .ref q18, .ref q19, .ref q20, .ref q21, .int 0, .int (-1), .int 0, .ref q22, .ref q23, .ref q24, .ref q25, .ref q26, .ref q27, .ref q28, .ref q29, .int 0, .ref q30, .ref q31, .ref q32, .ref q33, .ref q34, .int 0, .ref q35, .ref q36, .ref q37, .ref q38, .int 0, .ref q3, .ref q4, .ref q5, .ref q6, .int (-1), .int 0, .ref q39, .ref q40, .ref q41, .ref q42])), (q1, .inl (G.2.1, 57, .inl (fun _ => 0))), (q2, .inl (G.2.1, 8, .inl (fun _ => 0))), (q3, .inl (G.2.1, 8, .inl (fun _ => 0))), (q4, .inl (G.2.1, 8, .inl (fun _ => 0)))]) rfl (fun H locs w => ?_)
  refine lv_aload_n hx hb dX12_findPeriod_63 rfl (lv_at hl 2 rfl) ?_
  refine r_get C w 3 rfl fr_X12_133 rfl dX12_findPeriod_64 ?_
  refine lv_bipush (v := 8) hx hb dX12_findPeriod_67 (by decide) ?_
  refine lv_iload_n hx hb dX12_findPeriod_69 rfl (lv_at hl 1 rfl) ?_
  refine lv_imul hx hb dX12_findPeriod_70 ?_
  refine z_i (v := 0) (by decide +kernel) ?_
  refine lv_iload_n hx hb dX12_findPeriod_71 rfl (lv_at hl 0 rfl) ?_
  refine lv_iadd hx hb dX12_findPeriod_72 ?_
  refine z_i (v := 2) (by decide +kernel) ?_
  refine lv_aload_n hx hb dX12_findPeriod_73 rfl (lv_at hl 2 rfl) ?_
  refine r_get C w 3 rfl fr_X12_127 rfl dX12_findPeriod_74 ?_
  refine lv_iload_n hx hb dX12_findPeriod_77 rfl (lv_at hl 0 rfl) ?_
  refine r_iald C w 7 rfl (IX.of (k := 2) (by decide +kernel)) (v := 0) rfl dX12_findPeriod_78 ?_
  refine r_iast C w 1 rfl (IX.of (k := 2) (by decide +kernel)) (g := (fun _ => 0)) (upd_c _ _) dX12_findPeriod_79 (ws2 := [(q5, .inl (G.2.1, 32016, .inl (fun _ => 0))), (q6, .inl (G.2.1, 16008, .inl (fun _ => 0))), (q7, .inl (G.2.1, 242, .inl (fun _ => 0))), (q0, .inr (12, [.int 0, .int 0, .int 0, .int 0, .int 0, .int 0, .int 0, .int (-1), .ref q8, .ref q7, .ref q9, .int 0, .ref q10, .ref q11, .ref q12, .ref q13, .ref q14, .ref q1, .ref q15, .int 0, .ref q2, .ref q16, .ref q17, .ref q18, .ref q19, .ref q20, .ref q21, .int 0, .int (-1), .int 0, .ref q22, .ref q23, .ref q24, .ref q25, .ref q26, .ref q27, .ref q28, .ref q29, .int 0, .ref q30, .ref q31, .ref q32, .ref q33, .ref q34, .int 0, .ref q35, .ref q36, .ref q37, .ref q38, .int 0, .ref q3, .ref q4, .ref q5, .ref q6, .int (-1), .int 0, .ref q39, .ref q40, .ref q41, .ref q42])), (q1, .inl (G.2.1, 57, .inl (fun _ => 0))), (q2, .inl (G.2.1, 8, .inl (fun _ => 0))), (q3, .inl (G.2.1, 8, .inl (fun _ => 0))), (q4, .inl (G.2.1, 8, .inl (fun _ => 0)))]) rfl (fun H locs w => ?_)
  refine lv_iinc (v := 3) (lv' := [(2, .int 3), (1, .int 0), (0, .ref q0)]) hx hb dX12_findPeriod_80 hl (k := 0) rfl (by decide +kernel) (by decide) rfl (fun ls hl => ?_)
  refine lv_goto (tgt := 20) hx hb dX12_findPeriod_83 (by decide) ?_
  refine lv_iload_n hx hb dX12_findPeriod_20 rfl (lv_at hl 0 rfl) ?_
  refine lv_bipush (v := 8) hx hb dX12_findPeriod_21 (by decide) ?_
  refine lv_icmp_ge (tgt := 86) hx hb dX12_findPeriod_23 (by decide) (fun h => absurd h (by decide)) (fun _ => ?_)
  refine lv_aload_n hx hb dX12_findPeriod_26 rfl (lv_at hl 2 rfl) ?_
  refine r_get C w 3 rfl fr_X12_130 rfl dX12_findPeriod_27 ?_
  refine lv_bipush (v := 16) hx hb dX12_findPeriod_30 (by decide) ?_
  refine lv_iload_n hx hb dX12_findPeriod_32 rfl (lv_at hl 1 rfl) ?_
  refine lv_imul hx hb dX12_findPeriod_33 ?_
  refine z_i (v := 0) (by decide +kernel) ?_
  refine lv_iload_n hx hb dX12_findPeriod_34 rfl (lv_at hl 0 rfl) ?_
  refine lv_iadd hx hb dX12_findPeriod_35 ?_
  refine z_i (v := 3) (by decide +kernel) ?_
  refine lv_aload_n hx hb dX12_findPeriod_36 rfl (lv_at hl 2 rfl) ?_
  refine r_get C w 3 rfl fr_X12_47 rfl dX12_findPeriod_37 ?_
  refine lv_iload_n hx hb dX12_findPeriod_40 rfl (lv_at hl 0 rfl) ?_
  refine r_iald C w 5 rfl (IX.of (k := 3) (by decide +kernel)) (v := 0) rfl dX12_findPeriod_41 ?_
  refine r_iast C w 0 rfl (IX.of (k := 3) (by decide +kernel)) (g := (fun _ => 0)) (upd_c _ _) dX12_findPeriod_42 (ws2 := [(q5, .inl (G.2.1, 32016, .inl (fun _ => 0))), (q6, .inl (G.2.1, 16008, .inl (fun _ => 0))), (q7, .inl (G.2.1, 242, .inl (fun _ => 0))), (q0, .inr (12, [.int 0, .int 0, .int 0, .int 0, .int 0, .int 0, .int 0, .int (-1), .ref q8, .ref q7, .ref q9, .int 0, .ref q10, .ref q11, .ref q12, .ref q13, .ref q14, .ref q1, .ref q15, .int 0, .ref q2, .ref q16, .ref q17, .ref q18, .ref q19, .ref q20, .ref q21, .int 0, .int (-1), .int 0, .ref q22, .ref q23, .ref q24, .ref q25, .ref q26, .ref q27, .ref q28, .ref q29, .int 0, .ref q30, .ref q31, .ref q32, .ref q33, .ref q34, .int 0, .ref q35, .ref q36, .ref q37, .ref q38, .int 0, .ref q3, .ref q4, .ref q5, .ref q6, .int (-1), .int 0, .ref q39, .ref q40, .ref q41, .ref q42])), (q1, .inl (G.2.1, 57, .inl (fun _ => 0))), (q2, .inl (G.2.1, 8, .inl (fun _ => 0))), (q3, .inl (G.2.1, 8, .inl (fun _ => 0))), (q4, .inl (G.2.1, 8, .inl (fun _ => 0)))]) rfl (fun H locs w => ?_)
  refine lv_aload_n hx hb dX12_findPeriod_43 rfl (lv_at hl 2 rfl) ?_
  refine r_get C w 3 rfl fr_X12_130 rfl dX12_findPeriod_44 ?_
  refine lv_bipush (v := 16) hx hb dX12_findPeriod_47 (by decide) ?_
  refine lv_iload_n hx hb dX12_findPeriod_49 rfl (lv_at hl 1 rfl) ?_
  refine lv_imul hx hb dX12_findPeriod_50 ?_
  refine z_i (v := 0) (by decide +kernel) ?_
  refine lv_bipush (v := 8) hx hb dX12_findPeriod_51 (by decide) ?_
  refine lv_iadd hx hb dX12_findPeriod_53 ?_
  refine z_i (v := 8) (by decide +kernel) ?_
  refine lv_iload_n hx hb dX12_findPeriod_54 rfl (lv_at hl 0 rfl) ?_
  refine lv_iadd hx hb dX12_findPeriod_55 ?_
  refine z_i (v := 11) (by decide +kernel) ?_
  refine lv_aload_n hx hb dX12_findPeriod_56 rfl (lv_at hl 2 rfl) ?_
  refine r_get C w 3 rfl fr_X12_124 rfl dX12_findPeriod_57 ?_
  refine lv_iload_n hx hb dX12_findPeriod_60 rfl (lv_at hl 0 rfl) ?_
  refine r_iald C w 6 rfl (IX.of (k := 3) (by decide +kernel)) (v := 0) rfl dX12_findPeriod_61 ?_
  refine r_iast C w 0 rfl (IX.of (k := 11) (by decide +kernel)) (g := (fun _ => 0)) (upd_c _ _) dX12_findPeriod_62 (ws2 := [(q5, .inl (G.2.1, 32016, .inl (fun _ => 0))), (q6, .inl (G.2.1, 16008, .inl (fun _ => 0))), (q7, .inl (G.2.1, 242, .inl (fun _ => 0))), (q0, .inr (12, [.int 0, .int 0, .int 0, .int 0, .int 0, .int 0, .int 0, .int (-1), .ref q8, .ref q7, .ref q9, .int 0, .ref q10, .ref q11, .ref q12, .ref q13, .ref q14, .ref q1, .ref q15, .int 0, .ref q2, .ref q16, .ref q17, .ref q18, .ref q19, .ref q20, .ref q21, .int 0, .int (-1), .int 0, .ref q22, .ref q23, .ref q24, .ref q25, .ref q26, .ref q27, .ref q28, .ref q29, .int 0, .ref q30, .ref q31, .ref q32, .ref q33, .ref q34, .int 0, .ref q35, .ref q36, .ref q37, .ref q38, .int 0, .ref q3, .ref q4, .ref q5, .ref q6, .int (-1), .int 0, .ref q39, .ref q40, .ref q41, .ref q42])), (q1, .inl (G.2.1, 57, .inl (fun _ => 0))), (q2, .inl (G.2.1, 8, .inl (fun _ => 0))), (q3, .inl (G.2.1, 8, .inl (fun _ => 0))), (q4, .inl (G.2.1, 8, .inl (fun _ => 0)))]) rfl (fun H locs w => ?_)
  refine lv_aload_n hx hb dX12_findPeriod_63 rfl (lv_at hl 2 rfl) ?_
  refine r_get C w 3 rfl fr_X12_133 rfl dX12_findPeriod_64 ?_
  refine lv_bipush (v := 8) hx hb dX12_findPeriod_67 (by decide) ?_
  refine lv_iload_n hx hb dX12_findPeriod_69 rfl (lv_at hl 1 rfl) ?_
  refine lv_imul hx hb dX12_findPeriod_70 ?_
  refine z_i (v := 0) (by decide +kernel) ?_
  refine lv_iload_n hx hb dX12_findPeriod_71 rfl (lv_at hl 0 rfl) ?_
  refine lv_iadd hx hb dX12_findPeriod_72 ?_
  refine z_i (v := 3) (by decide +kernel) ?_
  refine lv_aload_n hx hb dX12_findPeriod_73 rfl (lv_at hl 2 rfl) ?_
  refine r_get C w 3 rfl fr_X12_127 rfl dX12_findPeriod_74 ?_
  refine lv_iload_n hx hb dX12_findPeriod_77 rfl (lv_at hl 0 rfl) ?_
  refine r_iald C w 7 rfl (IX.of (k := 3) (by decide +kernel)) (v := 0) rfl dX12_findPeriod_78 ?_
  refine r_iast C w 1 rfl (IX.of (k := 3) (by decide +kernel)) (g := (fun _ => 0)) (upd_c _ _) dX12_findPeriod_79 (ws2 := [(q5, .inl (G.2.1, 32016, .inl (fun _ => 0))), (q6, .inl (G.2.1, 16008, .inl (fun _ => 0))), (q7, .inl (G.2.1, 242, .inl (fun _ => 0))), (q0, .inr (12, [.int 0, .int 0, .int 0, .int 0, .int 0, .int 0, .int 0, .int (-1), .ref q8, .ref q7, .ref q9, .int 0, .ref q10, .ref q11, .ref q12, .ref q13, .ref q14, .ref q1, .ref q15, .int 0, .ref q2, .ref q16, .ref q17, .ref q18, .ref q19, .ref q20, .ref q21, .int 0, .int (-1), .int 0, .ref q22, .ref q23, .ref q24, .ref q25, .ref q26, .ref q27, .ref q28, .ref q29, .int 0, .ref q30, .ref q31, .ref q32, .ref q33, .ref q34, .int 0, .ref q35, .ref q36, .ref q37, .ref q38, .int 0, .ref q3, .ref q4, .ref q5, .ref q6, .int (-1), .int 0, .ref q39, .ref q40, .ref q41, .ref q42])), (q1, .inl (G.2.1, 57, .inl (fun _ => 0))), (q2, .inl (G.2.1, 8, .inl (fun _ => 0))), (q3, .inl (G.2.1, 8, .inl (fun _ => 0))), (q4, .inl (G.2.1, 8, .inl (fun _ => 0)))]) rfl (fun H locs w => ?_)
  refine lv_iinc (v := 4) (lv' := [(2, .int 4), (1, .int 0), (0, .ref q0)]) hx hb dX12_findPeriod_80 hl (k := 0) rfl (by decide +kernel) (by decide) rfl (fun ls hl => ?_)
  refine lv_goto (tgt := 20) hx hb dX12_findPeriod_83 (by decide) ?_
  refine lv_iload_n hx hb dX12_findPeriod_20 rfl (lv_at hl 0 rfl) ?_
  refine lv_bipush (v := 8) hx hb dX12_findPeriod_21 (by decide) ?_
  refine lv_icmp_ge (tgt := 86) hx hb dX12_findPeriod_23 (by decide) (fun h => absurd h (by decide)) (fun _ => ?_)
  refine lv_aload_n hx hb dX12_findPeriod_26 rfl (lv_at hl 2 rfl) ?_
  refine r_get C w 3 rfl fr_X12_130 rfl dX12_findPeriod_27 ?_
  refine lv_bipush (v := 16) hx hb dX12_findPeriod_30 (by decide) ?_
  refine lv_iload_n hx hb dX12_findPeriod_32 rfl (lv_at hl 1 rfl) ?_
  refine lv_imul hx hb dX12_findPeriod_33 ?_
  refine z_i (v := 0) (by decide +kernel) ?_
  refine lv_iload_n hx hb dX12_findPeriod_34 rfl (lv_at hl 0 rfl) ?_
  refine lv_iadd hx hb dX12_findPeriod_35 ?_
  refine z_i (v := 4) (by decide +kernel) ?_
  refine lv_aload_n hx hb dX12_findPeriod_36 rfl (lv_at hl 2 rfl) ?_
  refine r_get C w 3 rfl fr_X12_47 rfl dX12_findPeriod_37 ?_
  refine lv_iload_n hx hb dX12_findPeriod_40 rfl (lv_at hl 0 rfl) ?_
  refine r_iald C w 5 rfl (IX.of (k := 4) (by decide +kernel)) (v := 0) rfl dX12_findPeriod_41 ?_
  refine r_iast C w 0 rfl (IX.of (k := 4) (by decide +kernel)) (g := (fun _ => 0)) (upd_c _ _) dX12_findPeriod_42 (ws2 := [(q5, .inl (G.2.1, 32016, .inl (fun _ => 0))), (q6, .inl (G.2.1, 16008, .inl (fun _ => 0))), (q7, .inl (G.2.1, 242, .inl (fun _ => 0))), (q0, .inr (12, [.int 0, .int 0, .int 0, .int 0, .int 0, .int 0, .int 0, .int (-1), .ref q8, .ref q7, .ref q9, .int 0, .ref q10, .ref q11, .ref q12, .ref q13, .ref q14, .ref q1, .ref q15, .int 0, .ref q2, .ref q16, .ref q17, .ref q18, .ref q19, .ref q20, .ref q21, .int 0, .int (-1), .int 0, .ref q22, .ref q23, .ref q24, .ref q25, .ref q26, .ref q27, .ref q28, .ref q29, .int 0, .ref q30, .ref q31, .ref q32, .ref q33, .ref q34, .int 0, .ref q35, .ref q36, .ref q37, .ref q38, .int 0, .ref q3, .ref q4, .ref q5, .ref q6, .int (-1), .int 0, .ref q39, .ref q40, .ref q41, .ref q42])), (q1, .inl (G.2.1, 57, .inl (fun _ => 0))), (q2, .inl (G.2.1, 8, .inl (fun _ => 0))), (q3, .inl (G.2.1, 8, .inl (fun _ => 0))), (q4, .inl (G.2.1, 8, .inl (fun _ => 0)))]) rfl (fun H locs w => ?_)
  refine lv_aload_n hx hb dX12_findPeriod_43 rfl (lv_at hl 2 rfl) ?_
  refine r_get C w 3 rfl fr_X12_130 rfl dX12_findPeriod_44 ?_
  refine lv_bipush (v := 16) hx hb dX12_findPeriod_47 (by decide) ?_
  refine lv_iload_n hx hb dX12_findPeriod_49 rfl (lv_at hl 1 rfl) ?_
  refine lv_imul hx hb dX12_findPeriod_50 ?_
  refine z_i (v := 0) (by decide +kernel) ?_
  refine lv_bipush (v := 8) hx hb dX12_findPeriod_51 (by decide) ?_
  refine lv_iadd hx hb dX12_findPeriod_53 ?_
  refine z_i (v := 8) (by decide +kernel) ?_
  refine lv_iload_n hx hb dX12_findPeriod_54 rfl (lv_at hl 0 rfl) ?_
  refine lv_iadd hx hb dX12_findPeriod_55 ?_
  refine z_i (v := 12) (by decide +kernel) ?_
  refine lv_aload_n hx hb dX12_findPeriod_56 rfl (lv_at hl 2 rfl) ?_
  refine r_get C w 3 rfl fr_X12_124 rfl dX12_findPeriod_57 ?_
  refine lv_iload_n hx hb dX12_findPeriod_60 rfl (lv_at hl 0 rfl) ?_
  refine r_iald C w 6 rfl (IX.of (k := 4) (by decide +kernel)) (v := 0) rfl dX12_findPeriod_61 ?_
  refine r_iast C w 0 rfl (IX.of (k := 12) (by decide +kernel)) (g := (fun _ => 0)) (upd_c _ _) dX12_findPeriod_62 (ws2 := [(q5, .inl (G.2.1, 32016, .inl (fun _ => 0))), (q6, .inl (G.2.1, 16008, .inl (fun _ => 0))), (q7, .inl (G.2.1, 242, .inl (fun _ => 0))), (q0, .inr (12, [.int 0, .int 0, .int 0, .int 0, .int 0, .int 0, .int 0, .int (-1), .ref q8, .ref q7, .ref q9, .int 0, .ref q10, .ref q11, .ref q12, .ref q13, .ref q14, .ref q1, .ref q15, .int 0, .ref q2, .ref q16, .ref q17, .ref q18, .ref q19, .ref q20, .ref q21, .int 0, .int (-1), .int 0, .ref q22, .ref q23, .ref q24, .ref q25, .ref q26, .ref q27, .ref q28, .ref q29, .int 0, .ref q30, .ref q31, .ref q32, .ref q33, .ref q34, .int 0, .ref q35, .ref q36, .ref q37, .ref q38, .int 0, .ref q3, .ref q4, .ref q5, .ref q6, .int (-1), .int 0, .ref q39, .ref q40, .ref q41, .ref q42])), (q1, .inl (G.2.1, 57, .inl (fun _ => 0))), (q2, .inl (G.2.1, 8, .inl (fun _ => 0))), (q3, .inl (G.2.1, 8, .inl (fun _ => 0))), (q4, .inl (G.2.1, 8, .inl (fun _ => 0)))]) rfl (fun H locs w => ?_)
  refine lv_aload_n hx hb dX12_findPeriod_63 rfl (lv_at hl 2 rfl) ?_
  refine r_get C w 3 rfl fr_X12_133 rfl dX12_findPeriod_64 ?_
  refine lv_bipush (v := 8) hx hb dX12_findPeriod_67 (by decide) ?_
  refine lv_iload_n hx hb dX12_findPeriod_69 rfl (lv_at hl 1 rfl) ?_
  refine lv_imul hx hb dX12_findPeriod_70 ?_
  refine z_i (v := 0) (by decide +kernel) ?_
  refine lv_iload_n hx hb dX12_findPeriod_71 rfl (lv_at hl 0 rfl) ?_
  refine lv_iadd hx hb dX12_findPeriod_72 ?_
  refine z_i (v := 4) (by decide +kernel) ?_
  refine lv_aload_n hx hb dX12_findPeriod_73 rfl (lv_at hl 2 rfl) ?_
  refine r_get C w 3 rfl fr_X12_127 rfl dX12_findPeriod_74 ?_
  refine lv_iload_n hx hb dX12_findPeriod_77 rfl (lv_at hl 0 rfl) ?_
  refine r_iald C w 7 rfl (IX.of (k := 4) (by decide +kernel)) (v := 0) rfl dX12_findPeriod_78 ?_
  refine r_iast C w 1 rfl (IX.of (k := 4) (by decide +kernel)) (g := (fun _ => 0)) (upd_c _ _) dX12_findPeriod_79 (ws2 := [(q5, .inl (G.2.1, 32016, .inl (fun _ => 0))), (q6, .inl (G.2.1, 16008, .inl (fun _ => 0))), (q7, .inl (G.2.1, 242, .inl (fun _ => 0))), (q0, .inr (12, [.int 0, .int 0, .int 0, .int 0, .int 0, .int 0, .int 0, .int (-1), .ref q8, .ref q7, .ref q9, .int 0, .ref q10, .ref q11, .ref q12, .ref q13, .ref q14, .ref q1, .ref q15, .int 0, .ref q2, .ref q16, .ref q17, .ref q18, .ref q19, .ref q20, .ref q21, .int 0, .int (-1), .int 0, .ref q22, .ref q23, .ref q24, .ref q25, .ref q26, .ref q27, .ref q28, .ref q29, .int 0, .ref q30, .ref q31, .ref q32, .ref q33, .ref q34, .int 0, .ref q35, .ref q36, .ref q37, .ref q38, .int 0, .ref q3, .ref q4, .ref q5, .ref q6, .int (-1), .int 0, .ref q39, .ref q40, .ref q41, .ref q42])), (q1, .inl (G.2.1, 57, .inl (fun _ => 0))), (q2, .inl (G.2.1, 8, .inl (fun _ => 0))), (q3, .inl (G.2.1, 8, .inl (fun _ => 0))), (q4, .inl (G.2.1, 8, .inl (fun _ => 0)))]) rfl (fun H locs w => ?_)
  refine lv_iinc (v := 5) (lv' := [(2, .int 5), (1, .int 0), (0, .ref q0)]) hx hb dX12_findPeriod_80 hl (k := 0) rfl (by decide +kernel) (by decide) rfl (fun ls hl => ?_)
  refine lv_goto (tgt := 20) hx hb dX12_findPeriod_83 (by decide) ?_
  refine lv_iload_n hx hb dX12_findPeriod_20 rfl (lv_at hl 0 rfl) ?_
  refine lv_bipush (v := 8) hx hb dX12_findPeriod_21 (by decide) ?_
  refine lv_icmp_ge (tgt := 86) hx hb dX12_findPeriod_23 (by decide) (fun h => absurd h (by decide)) (fun _ => ?_)
  refine lv_aload_n hx hb dX12_findPeriod_26 rfl (lv_at hl 2 rfl) ?_
  refine r_get C w 3 rfl fr_X12_130 rfl dX12_findPeriod_27 ?_
  refine lv_bipush (v := 16) hx hb dX12_findPeriod_30 (by decide) ?_
  refine lv_iload_n hx hb dX12_findPeriod_32 rfl (lv_at hl 1 rfl) ?_
  refine lv_imul hx hb dX12_findPeriod_33 ?_
  refine z_i (v := 0) (by decide +kernel) ?_
  refine lv_iload_n hx hb dX12_findPeriod_34 rfl (lv_at hl 0 rfl) ?_
  refine lv_iadd hx hb dX12_findPeriod_35 ?_
  refine z_i (v := 5) (by decide +kernel) ?_
  refine lv_aload_n hx hb dX12_findPeriod_36 rfl (lv_at hl 2 rfl) ?_
  refine r_get C w 3 rfl fr_X12_47 rfl dX12_findPeriod_37 ?_
  refine lv_iload_n hx hb dX12_findPeriod_40 rfl (lv_at hl 0 rfl) ?_
  refine r_iald C w 5 rfl (IX.of (k := 5) (by decide +kernel)) (v := 0) rfl dX12_findPeriod_41 ?_
  refine r_iast C w 0 rfl (IX.of (k := 5) (by decide +kernel)) (g := (fun _ => 0)) (upd_c _ _) dX12_findPeriod_42 (ws2 := [(q5, .inl (G.2.1, 32016, .inl (fun _ => 0))), (q6, .inl (G.2.1, 16008, .inl (fun _ => 0))), (q7, .inl (G.2.1, 242, .inl (fun _ => 0))), (q0, .inr (12, [.int 0, .int 0, .int 0, .int 0, .int 0, .int 0, .int 0, .int (-1), .ref q8, .ref q7, .ref q9, .int 0, .ref q10, .ref q11, .ref q12, .ref q13, .ref q14, .ref q1, .ref q15, .int 0, .ref q2, .ref q16, .ref q17, .ref q18, .ref q19, .ref q20, .ref q21, .int 0, .int (-1), .int 0, .ref q22, .ref q23, .ref q24, .ref q25, .ref q26, .ref q27, .ref q28, .ref q29, .int 0, .ref q30, .ref q31, .ref q32, .ref q33, .ref q34, .int 0, .ref q35, .ref q36, .ref q37, .ref q38, .int 0, .ref q3, .ref q4, .ref q5, .ref q6, .int (-1), .int 0, .ref q39, .ref q40, .ref q41, .ref q42])), (q1, .inl (G.2.1, 57, .inl (fun _ => 0))), (q2, .inl (G.2.1, 8, .inl (fun _ => 0))), (q3, .inl (G.2.1, 8, .inl (fun _ => 0))), (q4, .inl (G.2.1, 8, .inl (fun _ => 0)))]) rfl (fun H locs w => ?_)
  refine lv_aload_n hx hb dX12_findPeriod_43 rfl (lv_at hl 2 rfl) ?_
  refine r_get C w 3 rfl fr_X12_130 rfl dX12_findPeriod_44 ?_
  refine lv_bipush (v := 16) hx hb dX12_findPeriod_47 (by decide) ?_
  refine lv_iload_n hx hb dX12_findPeriod_49 rfl (lv_at hl 1 rfl) ?_
  refine lv_imul hx hb dX12_findPeriod_50 ?_
  refine z_i (v := 0) (by decide +kernel) ?_
  refine lv_bipush (v := 8) hx hb dX12_findPeriod_51 (by decide) ?_
  refine lv_iadd hx hb dX12_findPeriod_53 ?_
  refine z_i (v := 8) (by decide +kernel) ?_
  refine lv_iload_n hx hb dX12_findPeriod_54 rfl (lv_at hl 0 rfl) ?_
  refine lv_iadd hx hb dX12_findPeriod_55 ?_
  refine z_i (v := 13) (by decide +kernel) ?_
  refine lv_aload_n hx hb dX12_findPeriod_56 rfl (lv_at hl 2 rfl) ?_
  refine r_get C w 3 rfl fr_X12_124 rfl dX12_findPeriod_57 ?_
  refine lv_iload_n hx hb dX12_findPeriod_60 rfl (lv_at hl 0 rfl) ?_
  refine r_iald C w 6 rfl (IX.of (k := 5) (by decide +kernel)) (v := 0) rfl dX12_findPeriod_61 ?_
  refine r_iast C w 0 rfl (IX.of (k := 13) (by decide +kernel)) (g := (fun _ => 0)) (upd_c _ _) dX12_findPeriod_62 (ws2 := [(q5, .inl (G.2.1, 32016, .inl (fun _ => 0))), (q6, .inl (G.2.1, 16008, .inl (fun _ => 0))), (q7, .inl (G.2.1, 242, .inl (fun _ => 0))), (q0, .inr (12, [.int 0, .int 0, .int 0, .int 0, .int 0, .int 0, .int 0, .int (-1), .ref q8, .ref q7, .ref q9, .int 0, .ref q10, .ref q11, .ref q12, .ref q13, .ref q14, .ref q1, .ref q15, .int 0, .ref q2, .ref q16, .ref q17, .ref q18, .ref q19, .ref q20, .ref q21, .int 0, .int (-1), .int 0, .ref q22, .ref q23, .ref q24, .ref q25, .ref q26, .ref q27, .ref q28, .ref q29, .int 0, .ref q30, .ref q31, .ref q32, .ref q33, .ref q34, .int 0, .ref q35, .ref q36, .ref q37, .ref q38, .int 0, .ref q3, .ref q4, .ref q5, .ref q6, .int (-1), .int 0, .ref q39, .ref q40, .ref q41, .ref q42])), (q1, .inl (G.2.1, 57, .inl (fun _ => 0))), (q2, .inl (G.2.1, 8, .inl (fun _ => 0))), (q3, .inl (G.2.1, 8, .inl (fun _ => 0))), (q4, .inl (G.2.1, 8, .inl (fun _ => 0)))]) rfl (fun H locs w => ?_)
  refine lv_aload_n hx hb dX12_findPeriod_63 rfl (lv_at hl 2 rfl) ?_
  refine r_get C w 3 rfl fr_X12_133 rfl dX12_findPeriod_64 ?_
  refine lv_bipush (v := 8) hx hb dX12_findPeriod_67 (by decide) ?_
  refine lv_iload_n hx hb dX12_findPeriod_69 rfl (lv_at hl 1 rfl) ?_
  refine lv_imul hx hb dX12_findPeriod_70 ?_
  refine z_i (v := 0) (by decide +kernel) ?_
  refine lv_iload_n hx hb dX12_findPeriod_71 rfl (lv_at hl 0 rfl) ?_
  refine lv_iadd hx hb dX12_findPeriod_72 ?_
  refine z_i (v := 5) (by decide +kernel) ?_
  refine lv_aload_n hx hb dX12_findPeriod_73 rfl (lv_at hl 2 rfl) ?_
  refine r_get C w 3 rfl fr_X12_127 rfl dX12_findPeriod_74 ?_
  refine lv_iload_n hx hb dX12_findPeriod_77 rfl (lv_at hl 0 rfl) ?_
  refine r_iald C w 7 rfl (IX.of (k := 5) (by decide +kernel)) (v := 0) rfl dX12_findPeriod_78 ?_
  refine r_iast C w 1 rfl (IX.of (k := 5) (by decide +kernel)) (g := (fun _ => 0)) (upd_c _ _) dX12_findPeriod_79 (ws2 := [(q5, .inl (G.2.1, 32016, .inl (fun _ => 0))), (q6, .inl (G.2.1, 16008, .inl (fun _ => 0))), (q7, .inl (G.2.1, 242, .inl (fun _ => 0))), (q0, .inr (12, [.int 0, .int 0, .int 0, .int 0, .int 0, .int 0, .int 0, .int (-1), .ref q8, .ref q7, .ref q9, .int 0, .ref q10, .ref q11, .ref q12, .ref q13, .ref q14, .ref q1, .ref q15, .int 0, .ref q2, .ref q16, .ref q17, .ref q18, .ref q19, .ref q20, .ref q21, .int 0, .int (-1), .int 0, .ref q22, .ref q23, .ref q24, .ref q25, .ref q26, .ref q27, .ref q28, .ref q29, .int 0, .ref q30, .ref q31, .ref q32, .ref q33, .ref q34, .int 0, .ref q35, .ref q36, .ref q37, .ref q38, .int 0, .ref q3, .ref q4, .ref q5, .ref q6, .int (-1), .int 0, .ref q39, .ref q40, .ref q41, .ref q42])), (q1, .inl (G.2.1, 57, .inl (fun _ => 0))), (q2, .inl (G.2.1, 8, .inl (fun _ => 0))), (q3, .inl (G.2.1, 8, .inl (fun _ => 0))), (q4, .inl (G.2.1, 8, .inl (fun _ => 0)))]) rfl (fun H locs w => ?_)
  refine lv_iinc (v := 6) (lv' := [(2, .int 6), (1, .int 0), (0, .ref q0)]) hx hb dX12_findPeriod_80 hl (k := 0) rfl (by decide +kernel) (by decide) rfl (fun ls hl => ?_)
  refine lv_goto (tgt := 20) hx hb dX12_findPeriod_83 (by decide) ?_
  refine lv_iload_n hx hb dX12_findPeriod_20 rfl (lv_at hl 0 rfl) ?_
  refine lv_bipush (v := 8) hx hb dX12_findPeriod_21 (by decide) ?_
  refine lv_icmp_ge (tgt := 86) hx hb dX12_findPeriod_23 (by decide) (fun h => absurd h (by decide)) (fun _ => ?_)
  refine lv_aload_n hx hb dX12_findPeriod_26 rfl (lv_at hl 2 rfl) ?_
  refine r_get C w 3 rfl fr_X12_130 rfl dX12_findPeriod_27 ?_
  refine lv_bipush (v := 16) hx hb dX12_findPeriod_30 (by decide) ?_
  refine lv_iload_n hx hb dX12_findPeriod_32 rfl (lv_at hl 1 rfl) ?_
  refine lv_imul hx hb dX12_findPeriod_33 ?_
  refine z_i (v := 0) (by decide +kernel) ?_
  refine lv_iload_n hx hb dX12_findPeriod_34 rfl (lv_at hl 0 rfl) ?_
  refine lv_iadd hx hb dX12_findPeriod_35 ?_
  refine z_i (v := 6) (by decide +kernel) ?_
  refine lv_aload_n hx hb dX12_findPeriod_36 rfl (lv_at hl 2 rfl) ?_
  refine r_get C w 3 rfl fr_X12_47 rfl dX12_findPeriod_37 ?_
  refine lv_iload_n hx hb dX12_findPeriod_40 rfl (lv_at hl 0 rfl) ?_
  refine r_iald C w 5 rfl (IX.of (k := 6) (by decide +kernel)) (v := 0) rfl dX12_findPeriod_41 ?_
  refine r_iast C w 0 rfl (IX.of (k := 6) (by decide +kernel)) (g := (fun _ => 0)) (upd_c _ _) dX12_findPeriod_42 (ws2 := [(q5, .inl (G.2.1, 32016, .inl (fun _ => 0))), (q6, .inl (G.2.1, 16008, .inl (fun _ => 0))), (q7, .inl (G.2.1, 242, .inl (fun _ => 0))), (q0, .inr (12, [.int 0, .int 0, .int 0, .int 0, .int 0, .int 0, .int 0, .int (-1), .ref q8, .ref q7, .ref q9, .int 0, .ref q10, .ref q11, .ref q12, .ref q13, .ref q14, .ref q1, .ref q15, .int 0, .ref q2, .ref q16, .ref q17, .ref q18, .ref q19, .ref q20, .ref q21, .int 0, .int (-1), .int 0, .ref q22, .ref q23, .ref q24, .ref q25, .ref q26, .ref q27, .ref q28, .ref q29, .int 0, .ref q30, .ref q31, .ref q32, .ref q33, .ref q34, .int 0, .ref q35, .ref q36, .ref q37, .ref q38, .int 0, .ref q3, .ref q4, .ref q5, .ref q6, .int (-1), .int 0, .ref q39, .ref q40, .ref q41, .ref q42])), (q1, .inl (G.2.1, 57, .inl (fun _ => 0))), (q2, .inl (G.2.1, 8, .inl (fun _ => 0))), (q3, .inl (G.2.1, 8, .inl (fun _ => 0))), (q4, .inl (G.2.1, 8, .inl (fun _ => 0)))]) rfl (fun H locs w => ?_)
  refine lv_aload_n hx hb dX12_findPeriod_43 rfl (lv_at hl 2 rfl) ?_
  refine r_get C w 3 rfl fr_X12_130 rfl dX12_findPeriod_44 ?_
  refine lv_bipush (v := 16) hx hb dX12_findPeriod_47 (by decide) ?_
  refine lv_iload_n hx hb dX12_findPeriod_49 rfl (lv_at hl 1 rfl) ?_
  refine lv_imul hx hb dX12_findPeriod_50 ?_
  refine z_i (v := 0) (by decide +kernel) ?_
  refine lv_bipush (v := 8) hx hb dX12_findPeriod_51 (by decide) ?_
  refine lv_iadd hx hb dX12_findPeriod_53 ?_
  refine z_i (v := 8) (by decide +kernel) ?_
  refine lv_iload_n hx hb dX12_findPeriod_54 rfl (lv_at hl 0 rfl) ?_
  refine lv_iadd hx hb dX12_findPeriod_55 ?_
  refine z_i (v := 14) (by decide +kernel) ?_
  refine lv_aload_n hx hb dX12_findPeriod_56 rfl (lv_at hl 2 rfl) ?_
  refine r_get C w 3 rfl fr_X12_124 rfl dX12_findPeriod_57 ?_
  refine lv_iload_n hx hb dX12_findPeriod_60 rfl (lv_at hl 0 rfl) ?_
  refine r_iald C w 6 rfl (IX.of (k := 6) (by decide +kernel)) (v := 0) rfl dX12_findPeriod_61 ?_
  refine r_iast C w 0 rfl (IX.of (k := 14) (by decide +kernel)) (g := (fun _ => 0)) (upd_c _ _) dX12_findPeriod_62 (ws2 := [(q5, .inl (G.2.1, 32016, .inl (fun _ => 0))), (q6, .inl (G.2.1, 16008, .inl (fun _ => 0))), (q7, .inl (G.2.1, 242, .inl (fun _ => 0))), (q0, .inr (12, [.int 0, .int 0, .int 0, .int 0, .int 0, .int 0, .int 0, .int (-1), .ref q8, .ref q7, .ref q9, .int 0, .ref q10, .ref q11, .ref q12, .ref q13, .ref q14, .ref q1, .ref q15, .int 0, .ref q2, .ref q16, .ref q17, .ref q18, .ref q19, .ref q20, .ref q21, .int 0, .int (-1), .int 0, .ref q22, .ref q23, .ref q24, .ref q25, .ref q26, .ref q27, .ref q28, .ref q29, .int 0, .ref q30, .ref q31, .ref q32, .ref q33, .ref q34, .int 0, .ref q35, .ref q36, .ref q37, .ref q38, .int 0, .ref q3, .ref q4, .ref q5, .ref q6, .int (-1), .int 0, .ref q39, .ref q40, .ref q41, .ref q42])), (q1, .inl (G.2.1, 57, .inl (fun _ => 0))), (q2, .inl (G.2.1, 8, .inl (fun _ => 0))), (q3, .inl (G.2.1, 8, .inl (fun _ => 0))), (q4, .inl (G.2.1, 8, .inl (fun _ => 0)))]) rfl (fun H locs w => ?_)
  refine lv_aload_n hx hb dX12_findPeriod_63 rfl (lv_at hl 2 rfl) ?_
  refine r_get C w 3 rfl fr_X12_133 rfl dX12_findPeriod_64 ?_
  refine lv_bipush (v := 8) hx hb dX12_findPeriod_67 (by decide) ?_
  refine lv_iload_n hx hb dX12_findPeriod_69 rfl (lv_at hl 1 rfl) ?_
  refine lv_imul hx hb dX12_findPeriod_70 ?_
  refine z_i (v := 0) (by decide +kernel) ?_
  refine lv_iload_n hx hb dX12_findPeriod_71 rfl (lv_at hl 0 rfl) ?_
  refine lv_iadd hx hb dX12_findPeriod_72 ?_
  refine z_i (v := 6) (by decide +kernel) ?_
  refine lv_aload_n hx hb dX12_findPeriod_73 rfl (lv_at hl 2 rfl) ?_
  refine r_get C w 3 rfl fr_X12_127 rfl dX12_findPeriod_74 ?_
  refine lv_iload_n hx hb dX12_findPeriod_77 rfl (lv_at hl 0 rfl) ?_
  refine r_iald C w 7 rfl (IX.of (k := 6) (by decide +kernel)) (v := 0) rfl dX12_findPeriod_78 ?_
  refine r_iast C w 1 rfl (IX.of (k := 6) (by decide +kernel)) (g := (fun _ => 0)) (upd_c _ _) dX12_findPeriod_79 (ws2 := [(q5, .inl (G.2.1, 32016, .inl (fun _ => 0))), (q6, .inl (G.2.1, 16008, .inl (fun _ => 0))), (q7, .inl (G.2.1, 242, .inl (fun _ => 0))), (q0, .inr (12, [.int 0, .int 0, .int 0, .int 0, .int 0, .int 0, .int 0, .int (-1), .ref q8, .ref q7, .ref q9, .int 0, .ref q10, .ref q11, .ref q12, .ref q13, .ref q14, .ref q1, .ref q15, .int 0, .ref q2, .ref q16, .ref q17, .ref q18, .ref q19, .ref q20, .ref q21, .int 0, .int (-1), .int 0, .ref q22, .ref q23, .ref q24, .ref q25, .ref q26, .ref q27, .ref q28, .ref q29, .int 0, .ref q30, .ref q31, .ref q32, .ref q33, .ref q34, .int 0, .ref q35, .ref q36, .ref q37, .ref q38, .int 0, .ref q3, .ref q4, .ref q5, .ref q6, .int (-1), .int 0, .ref q39, .ref q40, .ref q41, .ref q42])), (q1, .inl (G.2.1, 57, .inl (fun _ => 0))), (q2, .inl (G.2.1, 8, .inl (fun _ => 0))), (q3, .inl (G.2.1, 8, .inl (fun _ => 0))), (q4, .inl (G.2.1, 8, .inl (fun _ => 0)))]) rfl (fun H locs w => ?_)
  refine lv_iinc (v := 7) (lv' := [(2, .int 7), (1, .int 0), (0, .ref q0)]) hx hb dX12_findPeriod_80 hl (k := 0) rfl (by decide +kernel) (by decide) rfl (fun ls hl => ?_)
  refine lv_goto (tgt := 20) hx hb dX12_findPeriod_83 (by decide) ?_
  refine lv_iload_n hx hb dX12_findPeriod_20 rfl (lv_at hl 0 rfl) ?_
  refine lv_bipush (v := 8) hx hb dX12_findPeriod_21 (by decide) ?_
  refine lv_icmp_ge (tgt := 86) hx hb dX12_findPeriod_23 (by decide) (fun h => absurd h (by decide)) (fun _ => ?_)
  refine lv_aload_n hx hb dX12_findPeriod_26 rfl (lv_at hl 2 rfl) ?_
  refine r_get C w 3 rfl fr_X12_130 rfl dX12_findPeriod_27 ?_
  refine lv_bipush (v := 16) hx hb dX12_findPeriod_30 (by decide) ?_
  refine lv_iload_n hx hb dX12_findPeriod_32 rfl (lv_at hl 1 rfl) ?_
  refine lv_imul hx hb dX12_findPeriod_33 ?_
  refine z_i (v := 0) (by decide +kernel) ?_
  refine lv_iload_n hx hb dX12_findPeriod_34 rfl (lv_at hl 0 rfl) ?_
  refine lv_iadd hx hb dX12_findPeriod_35 ?_
  refine z_i (v := 7) (by decide +kernel) ?_
  refine lv_aload_n hx hb dX12_findPeriod_36 rfl (lv_at hl 2 rfl) ?_
  refine r_get C w 3 rfl fr_X12_47 rfl dX12_findPeriod_37 ?_
  refine lv_iload_n hx hb dX12_findPeriod_40 rfl (lv_at hl 0 rfl) ?_
  refine r_iald C w 5 rfl (IX.of (k := 7) (by decide +kernel)) (v := 0) rfl dX12_findPeriod_41 ?_
  refine r_iast C w 0 rfl (IX.of (k := 7) (by decide +kernel)) (g := (fun _ => 0)) (upd_c _ _) dX12_findPeriod_42 (ws2 := [(q5, .inl (G.2.1, 32016, .inl (fun _ => 0))), (q6, .inl (G.2.1, 16008, .inl (fun _ => 0))), (q7, .inl (G.2.1, 242, .inl (fun _ => 0))), (q0, .inr (12, [.int 0, .int 0, .int 0, .int 0, .int 0, .int 0, .int 0, .int (-1), .ref q8, .ref q7, .ref q9, .int 0, .ref q10, .ref q11, .ref q12, .ref q13, .ref q14, .ref q1, .ref q15, .int 0, .ref q2, .ref q16, .ref q17, .ref q18, .ref q19, .ref q20, .ref q21, .int 0, .int (-1), .int 0, .ref q22, .ref q23, .ref q24, .ref q25, .ref q26, .ref q27, .ref q28, .ref q29, .int 0, .ref q30, .ref q31, .ref q32, .ref q33, .ref q34, .int 0, .ref q35, .ref q36, .ref q37, .ref q38, .int 0, .ref q3, .ref q4, .ref q5, .ref q6, .int (-1), .int 0, .ref q39, .ref q40, .ref q41, .ref q42])), (q1, .inl (G.2.1, 57, .inl (fun _ => 0))), (q2, .inl (G.2.1, 8, .inl (fun _ => 0))), (q3, .inl (G.2.1, 8, .inl (fun _ => 0))), (q4, .inl (G.2.1, 8, .inl (fun _ => 0)))]) rfl (fun H locs w => ?_)
  refine lv_aload_n hx hb dX12_findPeriod_43 rfl (lv_at hl 2 rfl) ?_
  refine r_get C w 3 rfl fr_X12_130 rfl dX12_findPeriod_44 ?_
  refine lv_bipush (v := 16) hx hb dX12_findPeriod_47 (by decide) ?_
  refine lv_iload_n hx hb dX12_findPeriod_49 rfl (lv_at hl 1 rfl) ?_
  refine lv_imul hx hb dX12_findPeriod_50 ?_
  refine z_i (v := 0) (by decide +kernel) ?_
  refine lv_bipush (v := 8) hx hb dX12_findPeriod_51 (by decide) ?_
  refine lv_iadd hx hb dX12_findPeriod_53 ?_
  refine z_i (v := 8) (by decide +kernel) ?_
  refine lv_iload_n hx hb dX12_findPeriod_54 rfl (lv_at hl 0 rfl) ?_
  refine lv_iadd hx hb dX12_findPeriod_55 ?_
  refine z_i (v := 15) (by decide +kernel) ?_
  refine lv_aload_n hx hb dX12_findPeriod_56 rfl (lv_at hl 2 rfl) ?_
  refine r_get C w 3 rfl fr_X12_124 rfl dX12_findPeriod_57 ?_
  refine lv_iload_n hx hb dX12_findPeriod_60 rfl (lv_at hl 0 rfl) ?_
  refine r_iald C w 6 rfl (IX.of (k := 7) (by decide +kernel)) (v := 0) rfl dX12_findPeriod_61 ?_
  refine r_iast C w 0 rfl (IX.of (k := 15) (by decide +kernel)) (g := (fun _ => 0)) (upd_c _ _) dX12_findPeriod_62 (ws2 := [(q5, .inl (G.2.1, 32016, .inl (fun _ => 0))), (q6, .inl (G.2.1, 16008, .inl (fun _ => 0))), (q7, .inl (G.2.1, 242, .inl (fun _ => 0))), (q0, .inr (12, [.int 0, .int 0, .int 0, .int 0, .int 0, .int 0, .int 0, .int (-1), .ref q8, .ref q7, .ref q9, .int 0, .ref q10, .ref q11, .ref q12, .ref q13, .ref q14, .ref q1, .ref q15, .int 0, .ref q2, .ref q16, .ref q17, .ref q18, .ref q19, .ref q20, .ref q21, .int 0, .int (-1), .int 0, .ref q22, .ref q23, .ref q24, .ref q25, .ref q26, .ref q27, .ref q28, .ref q29, .int 0, .ref q30, .ref q31, .ref q32, .ref q33, .ref q34, .int 0, .ref q35, .ref q36, .ref q37, .ref q38, .int 0, .ref q3, .ref q4, .ref q5, .ref q6, .int (-1), .int 0, .ref q39, .ref q40, .ref q41, .ref q42])), (q1, .inl (G.2.1, 57, .inl (fun _ => 0))), (q2, .inl (G.2.1, 8, .inl (fun _ => 0))), (q3, .inl (G.2.1, 8, .inl (fun _ => 0))), (q4, .inl (G.2.1, 8, .inl (fun _ => 0)))]) rfl (fun H locs w => ?_)
  refine lv_aload_n hx hb dX12_findPeriod_63 rfl (lv_at hl 2 rfl) ?_
  refine r_get C w 3 rfl fr_X12_133 rfl dX12_findPeriod_64 ?_
  refine lv_bipush (v := 8) hx hb dX12_findPeriod_67 (by decide) ?_
  refine lv_iload_n hx hb dX12_findPeriod_69 rfl (lv_at hl 1 rfl) ?_
  refine lv_imul hx hb dX12_findPeriod_70 ?_
  refine z_i (v := 0) (by decide +kernel) ?_
  refine lv_iload_n hx hb dX12_findPeriod_71 rfl (lv_at hl 0 rfl) ?_
  refine lv_iadd hx hb dX12_findPeriod_72 ?_
  refine z_i (v := 7) (by decide +kernel) ?_
  refine lv_aload_n hx hb dX12_findPeriod_73 rfl (lv_at hl 2 rfl) ?_
  refine r_get C w 3 rfl fr_X12_127 rfl dX12_findPeriod_74 ?_
  refine lv_iload_n hx hb dX12_findPeriod_77 rfl (lv_at hl 0 rfl) ?_
  refine r_iald C w 7 rfl (IX.of (k := 7) (by decide +kernel)) (v := 0) rfl dX12_findPeriod_78 ?_
  refine r_iast C w 1 rfl (IX.of (k := 7) (by decide +kernel)) (g := (fun _ => 0)) (upd_c _ _) dX12_findPeriod_79 (ws2 := [(q5, .inl (G.2.1, 32016, .inl (fun _ => 0))), (q6, .inl (G.2.1, 16008, .inl (fun _ => 0))), (q7, .inl (G.2.1, 242, .inl (fun _ => 0))), (q0, .inr (12, [.int 0, .int 0, .int 0, .int 0, .int 0, .int 0, .int 0, .int (-1), .ref q8, .ref q7, .ref q9, .int 0, .ref q10, .ref q11, .ref q12, .ref q13, .ref q14, .ref q1, .ref q15, .int 0, .ref q2, .ref q16, .ref q17, .ref q18, .ref q19, .ref q20, .ref q21, .int 0, .int (-1), .int 0, .ref q22, .ref q23, .ref q24, .ref q25, .ref q26, .ref q27, .ref q28, .ref q29, .int 0, .ref q30, .ref q31, .ref q32, .ref q33, .ref q34, .int 0, .ref q35, .ref q36, .ref q37, .ref q38, .int 0, .ref q3, .ref q4, .ref q5, .ref q6, .int (-1), .int 0, .ref q39, .ref q40, .ref q41, .ref q42])), (q1, .inl (G.2.1, 57, .inl (fun _ => 0))), (q2, .inl (G.2.1, 8, .inl (fun _ => 0))), (q3, .inl (G.2.1, 8, .inl (fun _ => 0))), (q4, .inl (G.2.1, 8, .inl (fun _ => 0)))]) rfl (fun H locs w => ?_)
  refine lv_iinc (v := 8) (lv' := [(2, .int 8), (1, .int 0), (0, .ref q0)]) hx hb dX12_findPeriod_80 hl (k := 0) rfl (by decide +kernel) (by decide) rfl (fun ls hl => ?_)
  refine lv_goto (tgt := 20) hx hb dX12_findPeriod_83 (by decide) ?_
  refine lv_iload_n hx hb dX12_findPeriod_20 rfl (lv_at hl 0 rfl) ?_
  refine lv_bipush (v := 8) hx hb dX12_findPeriod_21 (by decide) ?_
  refine lv_icmp_ge (tgt := 86) hx hb dX12_findPeriod_23 (by decide) (fun _ => ?_) (fun h => absurd (by decide) h)
  refine lv_iconst (v := 0) hx hb dX12_findPeriod_86 (by decide) ?_
  refine lv_istore_n (lv' := [(2, .int 0), (1, .int 0), (0, .ref q0)]) hx hb dX12_findPeriod_87 rfl hl (by decide) rfl (fun ls hl => ?_)
  refine lv_iload_n hx hb dX12_findPeriod_88 rfl (lv_at hl 0 rfl) ?_
  refine lv_iload_n hx hb dX12_findPeriod_89 rfl (lv_at hl 1 rfl) ?_
  refine lv_icmp_ge (tgt := 171) hx hb dX12_findPeriod_90 (by decide) (fun _ => ?_) (fun h => absurd (by decide) h)
  refine lv_aload_n hx hb dX12_findPeriod_171 rfl (lv_at hl 2 rfl) ?_
  refine r_get C w 3 rfl fr_X12_444 rfl dX12_findPeriod_172 ?_
  refine lv_iconst (v := (-1)) hx hb dX12_findPeriod_175 (by decide) ?_
  refine lv_icmp_eq (tgt := 185) hx hb dX12_findPeriod_176 (by decide) (fun _ => ?_) (fun h => absurd (by decide) h)
  refine lv_aload_n hx hb dX12_findPeriod_185 rfl (lv_at hl 2 rfl) ?_
  refine fin_v C w (run_V C w mv_X12_441 (k474_moves C.b0 q0 q7 q8 q9 q10 q11 q12 q13 q14 q1 q15 q2 q16 q17 q18 q19 q20 q21 q22 q23 q24 q25 q26 q27 q28 q29 q30 q31 q32 q33 q34 q35 q36 q37 q38 q3 q4 q5 q6 q39 q40 q41 q42 H.size) [3, 2] rfl rfl 3 rfl rfl (by decide) rfl hl.1 rfl (Nat.le_of_ble_eq_true rfl) dX12_findPeriod_186 (cells2 := 0) (slots2 := 0) (by decide)) [3, 2] [0, 1, 4, 5, 6, 7] rfl rfl (by decide) (cells2 := 0) (slots2 := 0) (by decide) (fun u2 H locs w => ?_)
  have w : Wd s G A [(q5, .inl (G.2.1, 32016, .inl (fun _ => 0))), (q6, .inl (G.2.1, 16008, .inl (fun _ => 0))), (q1, .inl (G.2.1, 57, .inl (fun _ => 0))), (q2, .inl (G.2.1, 8, .inl (fun _ => 0))), (q3, .inl (G.2.1, 8, .inl (fun _ => 0))), (q4, .inl (G.2.1, 8, .inl (fun _ => 0))), (q0, .inr (12, [.int 0, .int 0, .int 0, .int 0, .int 0, .int 0, .int 0, .int (-1), .ref q8, .ref q7, .ref q9, .int 0, .ref q10, .ref q11, .ref q12, .ref q13, .ref q14, .ref q1, .ref q15, .int 0, .ref q2, .ref q16, .ref q17, .ref q18, .ref q19, .ref q20, .ref q21, .int 0, .int (-1), .int 0, .ref q22, .ref q23, .ref q24, .ref q25, .ref q26, .ref q27, .ref q28, .ref q29, .int 0, .ref q30, .ref q31, .ref q32, .ref q33, .ref q34, .int 0, .ref q35, .ref q36, .ref q37, .ref q38, .int 0, .ref q3, .ref q4, .ref q5, .ref q6, .int (-1), .int 0, .ref q39, .ref q40, .ref q41, .ref q42])), (q7, .inl (G.2.1, 242, .inl (fun _ => 0)))] H locs := w
  refine lv_iinc (v := 1) (lv' := [(1, .int 1), (2, .int 0), (0, .ref q0)]) hx hb dX12_findPeriod_189 hl (k := 1) rfl (by decide +kernel) (by decide) rfl (fun ls hl => ?_)
  refine lv_goto (tgt := 11) hx hb dX12_findPeriod_192 (by decide) ?_
  refine lv_iload_n hx hb dX12_findPeriod_11 rfl (lv_at hl 0 rfl) ?_
  refine lv_sipush (v := 2000) hx hb dX12_findPeriod_12 (by decide) ?_
  refine lv_icmp_gt (tgt := 195) hx hb dX12_findPeriod_15 (by decide) (fun h => absurd h (by decide)) (fun _ => ?_)
  refine lv_iconst (v := 0) hx hb dX12_findPeriod_18 (by decide) ?_
  refine lv_istore_n (lv' := [(2, .int 0), (1, .int 1), (0, .ref q0)]) hx hb dX12_findPeriod_19 rfl hl (by decide) rfl (fun ls hl => ?_)
  refine lv_iload_n hx hb dX12_findPeriod_20 rfl (lv_at hl 0 rfl) ?_
  refine lv_bipush (v := 8) hx hb dX12_findPeriod_21 (by decide) ?_
  refine lv_icmp_ge (tgt := 86) hx hb dX12_findPeriod_23 (by decide) (fun h => absurd h (by decide)) (fun _ => ?_)
  refine lv_aload_n hx hb dX12_findPeriod_26 rfl (lv_at hl 2 rfl) ?_
  refine r_get C w 6 rfl fr_X12_130 rfl dX12_findPeriod_27 ?_
  refine lv_bipush (v := 16) hx hb dX12_findPeriod_30 (by decide) ?_
  refine lv_iload_n hx hb dX12_findPeriod_32 rfl (lv_at hl 1 rfl) ?_
  refine lv_imul hx hb dX12_findPeriod_33 ?_
  refine z_i (v := 16) (by decide +kernel) ?_
  refine lv_iload_n hx hb dX12_findPeriod_34 rfl (lv_at hl 0 rfl) ?_
  refine lv_iadd hx hb dX12_findPeriod_35 ?_
  refine z_i (v := 16) (by decide +kernel) ?_
  refine lv_aload_n hx hb dX12_findPeriod_36 rfl (lv_at hl 2 rfl) ?_
  refine r_get C w 6 rfl fr_X12_47 rfl dX12_findPeriod_37 ?_
  refine lv_iload_n hx hb dX12_findPeriod_40 rfl (lv_at hl 0 rfl) ?_
  refine r_iald C w 3 rfl (IX.of (k := 0) (by decide +kernel)) (v := 0) rfl dX12_findPeriod_41 ?_
  refine r_iast C w 0 rfl (IX.of (k := 16) (by decide +kernel)) (g := (fun _ => 0)) (upd_c _ _) dX12_findPeriod_42 (ws2 := [(q5, .inl (G.2.1, 32016, .inl (fun _ => 0))), (q6, .inl (G.2.1, 16008, .inl (fun _ => 0))), (q1, .inl (G.2.1, 57, .inl (fun _ => 0))), (q2, .inl (G.2.1, 8, .inl (fun _ => 0))), (q3, .inl (G.2.1, 8, .inl (fun _ => 0))), (q4, .inl (G.2.1, 8, .inl (fun _ => 0))), (q0, .inr (12, [.int 0, .int 0, .int 0, .int 0, .int 0, .int 0, .int 0, .int (-1), .ref q8, .ref q7, .ref q9, .int 0, .ref q10, .ref q11, .ref q12, .ref q13, .ref q14, .ref q1, .ref q15, .int 0, .ref q2, .ref q16, .ref q17, .ref q18, .ref q19, .ref q20, .ref q21, .int 0, .int (-1), .int 0, .ref q22, .ref q23, .ref q24, .ref q25, .ref q26, .ref q27, .ref q28, .ref q29, .int 0, .ref q30, .ref q31, .ref q32, .ref q33, .ref q34, .int 0, .ref q35, .ref q36, .ref q37, .ref q38, .int 0, .ref q3, .ref q4, .ref q5, .ref q6, .int (-1), .int 0, .ref q39, .ref q40, .ref q41, .ref q42])), (q7, .inl (G.2.1, 242, .inl (fun _ => 0)))]) rfl (fun H locs w => ?_)
  refine lv_aload_n hx hb dX12_findPeriod_43 rfl (lv_at hl 2 rfl) ?_
  refine r_get C w 6 rfl fr_X12_130 rfl dX12_findPeriod_44 ?_
  refine lv_bipush (v := 16) hx hb dX12_findPeriod_47 (by decide) ?_
  refine lv_iload_n hx hb dX12_findPeriod_49 rfl (lv_at hl 1 rfl) ?_
  refine lv_imul hx hb dX12_findPeriod_50 ?_
  refine z_i (v := 16) (by decide +kernel) ?_
  refine lv_bipush (v := 8) hx hb dX12_findPeriod_51 (by decide) ?_
  refine lv_iadd hx hb dX12_findPeriod_53 ?_
  refine z_i (v := 24) (by decide +kernel) ?_
  refine lv_iload_n hx hb dX12_findPeriod_54 rfl (lv_at hl 0 rfl) ?_
  refine lv_iadd hx hb dX12_findPeriod_55 ?_
  refine z_i (v := 24) (by decide +kernel) ?_
  refine lv_aload_n hx hb dX12_findPeriod_56 rfl (lv_at hl 2 rfl) ?_
  refine r_get C w 6 rfl fr_X12_124 rfl dX12_findPeriod_57 ?_
  refine lv_iload_n hx hb dX12_findPeriod_60 rfl (lv_at hl 0 rfl) ?_
  refine r_iald C w 4 rfl (IX.of (k := 0) (by decide +kernel)) (v := 0) rfl dX12_findPeriod_61 ?_
  refine r_iast C w 0 rfl (IX.of (k := 24) (by decide +kernel)) (g := (fun _ => 0)) (upd_c _ _) dX12_findPeriod_62 (ws2 := [(q5, .inl (G.2.1, 32016, .inl (fun _ => 0))), (q6, .inl (G.2.1, 16008, .inl (fun _ => 0))), (q1, .inl (G.2.1, 57, .inl (fun _ => 0))), (q2, .inl (G.2.1, 8, .inl (fun _ => 0))), (q3, .inl (G.2.1, 8, .inl (fun _ => 0))), (q4, .inl (G.2.1, 8, .inl (fun _ => 0))), (q0, .inr (12, [.int 0, .int 0, .int 0, .int 0, .int 0, .int 0, .int 0, .int (-1), .ref q8, .ref q7, .ref q9, .int 0, .ref q10, .ref q11, .ref q12, .ref q13, .ref q14, .ref q1, .ref q15, .int 0, .ref q2, .ref q16, .ref q17, .ref q18, .ref q19, .ref q20, .ref q21, .int 0, .int (-1), .int 0, .ref q22, .ref q23, .ref q24, .ref q25, .ref q26, .ref q27, .ref q28, .ref q29, .int 0, .ref q30, .ref q31, .ref q32, .ref q33, .ref q34, .int 0, .ref q35, .ref q36, .ref q37, .ref q38, .int 0, .ref q3, .ref q4, .ref q5, .ref q6, .int (-1), .int 0, .ref q39, .ref q40, .ref q41, .ref q42])), (q7, .inl (G.2.1, 242, .inl (fun _ => 0)))]) rfl (fun H locs w => ?_)
  refine lv_aload_n hx hb dX12_findPeriod_63 rfl (lv_at hl 2 rfl) ?_
  refine r_get C w 6 rfl fr_X12_133 rfl dX12_findPeriod_64 ?_
  refine lv_bipush (v := 8) hx hb dX12_findPeriod_67 (by decide) ?_
  refine lv_iload_n hx hb dX12_findPeriod_69 rfl (lv_at hl 1 rfl) ?_
  refine lv_imul hx hb dX12_findPeriod_70 ?_
  refine z_i (v := 8) (by decide +kernel) ?_
  refine lv_iload_n hx hb dX12_findPeriod_71 rfl (lv_at hl 0 rfl) ?_
  refine lv_iadd hx hb dX12_findPeriod_72 ?_
  refine z_i (v := 8) (by decide +kernel) ?_
  refine lv_aload_n hx hb dX12_findPeriod_73 rfl (lv_at hl 2 rfl) ?_
  refine r_get C w 6 rfl fr_X12_127 rfl dX12_findPeriod_74 ?_
  refine lv_iload_n hx hb dX12_findPeriod_77 rfl (lv_at hl 0 rfl) ?_
  refine r_iald C w 5 rfl (IX.of (k := 0) (by decide +kernel)) (v := 0) rfl dX12_findPeriod_78 ?_
  refine r_iast C w 1 rfl (IX.of (k := 8) (by decide +kernel)) (g := (fun _ => 0)) (upd_c _ _) dX12_findPeriod_79 (ws2 := [(q5, .inl (G.2.1, 32016, .inl (fun _ => 0))), (q6, .inl (G.2.1, 16008, .inl (fun _ => 0))), (q1, .inl (G.2.1, 57, .inl (fun _ => 0))), (q2, .inl (G.2.1, 8, .inl (fun _ => 0))), (q3, .inl (G.2.1, 8, .inl (fun _ => 0))), (q4, .inl (G.2.1, 8, .inl (fun _ => 0))), (q0, .inr (12, [.int 0, .int 0, .int 0, .int 0, .int 0, .int 0, .int 0, .int (-1), .ref q8, .ref q7, .ref q9, .int 0, .ref q10, .ref q11, .ref q12, .ref q13, .ref q14, .ref q1, .ref q15, .int 0, .ref q2, .ref q16, .ref q17, .ref q18, .ref q19, .ref q20, .ref q21, .int 0, .int (-1), .int 0, .ref q22, .ref q23, .ref q24, .ref q25, .ref q26, .ref q27, .ref q28, .ref q29, .int 0, .ref q30, .ref q31, .ref q32, .ref q33, .ref q34, .int 0, .ref q35, .ref q36, .ref q37, .ref q38, .int 0, .ref q3, .ref q4, .ref q5, .ref q6, .int (-1), .int 0, .ref q39, .ref q40, .ref q41, .ref q42])), (q7, .inl (G.2.1, 242, .inl (fun _ => 0)))]) rfl (fun H locs w => ?_)
  refine lv_iinc (v := 1) (lv' := [(2, .int 1), (1, .int 1), (0, .ref q0)]) hx hb dX12_findPeriod_80 hl (k := 0) rfl (by decide +kernel) (by decide) rfl (fun ls hl => ?_)
  refine lv_goto (tgt := 20) hx hb dX12_findPeriod_83 (by decide) ?_
  refine lv_iload_n hx hb dX12_findPeriod_20 rfl (lv_at hl 0 rfl) ?_
  refine lv_bipush (v := 8) hx hb dX12_findPeriod_21 (by decide) ?_
  refine lv_icmp_ge (tgt := 86) hx hb dX12_findPeriod_23 (by decide) (fun h => absurd h (by decide)) (fun _ => ?_)
  refine lv_aload_n hx hb dX12_findPeriod_26 rfl (lv_at hl 2 rfl) ?_
  refine r_get C w 6 rfl fr_X12_130 rfl dX12_findPeriod_27 ?_
  refine lv_bipush (v := 16) hx hb dX12_findPeriod_30 (by decide) ?_
  refine lv_iload_n hx hb dX12_findPeriod_32 rfl (lv_at hl 1 rfl) ?_
  refine lv_imul hx hb dX12_findPeriod_33 ?_
  refine z_i (v := 16) (by decide +kernel) ?_
  refine lv_iload_n hx hb dX12_findPeriod_34 rfl (lv_at hl 0 rfl) ?_
  refine lv_iadd hx hb dX12_findPeriod_35 ?_
  refine z_i (v := 17) (by decide +kernel) ?_
  refine lv_aload_n hx hb dX12_findPeriod_36 rfl (lv_at hl 2 rfl) ?_
  refine r_get C w 6 rfl fr_X12_47 rfl dX12_findPeriod_37 ?_
  refine lv_iload_n hx hb dX12_findPeriod_40 rfl (lv_at hl 0 rfl) ?_
  refine r_iald C w 3 rfl (IX.of (k := 1) (by decide +kernel)) (v := 0) rfl dX12_findPeriod_41 ?_
  refine r_iast C w 0 rfl (IX.of (k := 17) (by decide +kernel)) (g := (fun _ => 0)) (upd_c _ _) dX12_findPeriod_42 (ws2 := [(q5, .inl (G.2.1, 32016, .inl (fun _ => 0))), (q6, .inl (G.2.1, 16008, .inl (fun _ => 0))), (q1, .inl (G.2.1, 57, .inl (fun _ => 0))), (q2, .inl (G.2.1, 8, .inl (fun _ => 0))), (q3, .inl (G.2.1, 8, .inl (fun _ => 0))), (q4, .inl (G.2.1, 8, .inl (fun _ => 0))), (q0, .inr (12, [.int 0, .int 0, .int 0, .int 0, .int 0, .int 0, .int 0, .int (-1), .ref q8, .ref q7, .ref q9, .int 0, .ref q10, .ref q11, .ref q12, .ref q13, .ref q14, .ref q1, .ref q15, .int 0, .ref q2, .ref q16, .ref q17, .ref q18, .ref q19, .ref q20, .ref q21, .int 0, .int (-1), .int 0, .ref q22, .ref q23, .ref q24, .ref q25, .ref q26, .ref q27, .ref q28, .ref q29, .int 0, .ref q30, .ref q31, .ref q32, .ref q33, .ref q34, .int 0, .ref q35, .ref q36, .ref q37, .ref q38, .int 0, .ref q3, .ref q4, .ref q5, .ref q6, .int (-1), .int 0, .ref q39, .ref q40, .ref q41, .ref q42])), (q7, .inl (G.2.1, 242, .inl (fun _ => 0)))]) rfl (fun H locs w => ?_)
  refine lv_aload_n hx hb dX12_findPeriod_43 rfl (lv_at hl 2 rfl) ?_
  refine r_get C w 6 rfl fr_X12_130 rfl dX12_findPeriod_44 ?_
  refine lv_bipush (v := 16) hx hb dX12_findPeriod_47 (by decide) ?_
  refine lv_iload_n hx hb dX12_findPeriod_49 rfl (lv_at hl 1 rfl) ?_
  refine lv_imul hx hb dX12_findPeriod_50 ?_
  refine z_i (v := 16) (by decide +kernel) ?_
  refine lv_bipush (v := 8) hx hb dX12_findPeriod_51 (by decide) ?_
  refine lv_iadd hx hb dX12_findPeriod_53 ?_
  refine z_i (v := 24) (by decide +kernel) ?_
  refine lv_iload_n hx hb dX12_findPeriod_54 rfl (lv_at hl 0 rfl) ?_
  refine lv_iadd hx hb dX12_findPeriod_55 ?_
  refine z_i (v := 25) (by decide +kernel) ?_
  refine lv_aload_n hx hb dX12_findPeriod_56 rfl (lv_at hl 2 rfl) ?_
  refine r_get C w 6 rfl fr_X12_124 rfl dX12_findPeriod_57 ?_
  refine lv_iload_n hx hb dX12_findPeriod_60 rfl (lv_at hl 0 rfl) ?_
  refine r_iald C w 4 rfl (IX.of (k := 1) (by decide +kernel)) (v := 0) rfl dX12_findPeriod_61 ?_
  refine r_iast C w 0 rfl (IX.of (k := 25) (by decide +kernel)) (g := (fun _ => 0)) (upd_c _ _) dX12_findPeriod_62 (ws2 := [(q5, .inl (G.2.1, 32016, .inl (fun _ => 0))), (q6, .inl (G.2.1, 16008, .inl (fun _ => 0))), (q1, .inl (G.2.1, 57, .inl (fun _ => 0))), (q2, .inl (G.2.1, 8, .inl (fun _ => 0))), (q3, .inl (G.2.1, 8, .inl (fun _ => 0))), (q4, .inl (G.2.1, 8, .inl (fun _ => 0))), (q0, .inr (12, [.int 0, .int 0, .int 0, .int 0, .int 0, .int 0, .int 0, .int (-1), .ref q8, .ref q7, .ref q9, .int 0, .ref q10, .ref q11, .ref q12, .ref q13, .ref q14, .ref q1, .ref q15, .int 0, .ref q2, .ref q16, .ref q17, .ref q18, .ref q19, .ref q20, .ref q21, .int 0, .int (-1), .int 0, .ref q22, .ref q23, .ref q24, .ref q25, .ref q26, .ref q27, .ref q28, .ref q29, .int 0, .ref q30, .ref q31, .ref q32, .ref q33, .ref q34, .int 0, .ref q35, .ref q36, .ref q37, .ref q38, .int 0, .ref q3, .ref q4, .ref q5, .ref q6, .int (-1), .int 0, .ref q39, .ref q40, .ref q41, .ref q42])), (q7, .inl (G.2.1, 242, .inl (fun _ => 0)))]) rfl (fun H locs w => ?_)
  refine lv_aload_n hx hb dX12_findPeriod_63 rfl (lv_at hl 2 rfl) ?_
  refine r_get C w 6 rfl fr_X12_133 rfl dX12_findPeriod_64 ?_
  refine lv_bipush (v := 8) hx hb dX12_findPeriod_67 (by decide) ?_
  refine lv_iload_n hx hb dX12_findPeriod_69 rfl (lv_at hl 1 rfl) ?_
  refine lv_imul hx hb dX12_findPeriod_70 ?_
  refine z_i (v := 8) (by decide +kernel) ?_
  refine lv_iload_n hx hb dX12_findPeriod_71 rfl (lv_at hl 0 rfl) ?_
  refine lv_iadd hx hb dX12_findPeriod_72 ?_
  refine z_i (v := 9) (by decide +kernel) ?_
  refine lv_aload_n hx hb dX12_findPeriod_73 rfl (lv_at hl 2 rfl) ?_
  refine r_get C w 6 rfl fr_X12_127 rfl dX12_findPeriod_74 ?_
  refine lv_iload_n hx hb dX12_findPeriod_77 rfl (lv_at hl 0 rfl) ?_
  refine r_iald C w 5 rfl (IX.of (k := 1) (by decide +kernel)) (v := 0) rfl dX12_findPeriod_78 ?_
  refine r_iast C w 1 rfl (IX.of (k := 9) (by decide +kernel)) (g := (fun _ => 0)) (upd_c _ _) dX12_findPeriod_79 (ws2 := [(q5, .inl (G.2.1, 32016, .inl (fun _ => 0))), (q6, .inl (G.2.1, 16008, .inl (fun _ => 0))), (q1, .inl (G.2.1, 57, .inl (fun _ => 0))), (q2, .inl (G.2.1, 8, .inl (fun _ => 0))), (q3, .inl (G.2.1, 8, .inl (fun _ => 0))), (q4, .inl (G.2.1, 8, .inl (fun _ => 0))), (q0, .inr (12, [.int 0, .int 0, .int 0, .int 0, .int 0, .int 0, .int 0, .int (-1), .ref q8, .ref q7, .ref q9, .int 0, .ref q10, .ref q11, .ref q12, .ref q13, .ref q14, .ref q1, .ref q15, .int 0, .ref q2, .ref q16, .ref q17, .ref q18, .ref q19, .ref q20, .ref q21, .int 0, .int (-1), .int 0, .ref q22, .ref q23, .ref q24, .ref q25, .ref q26, .ref q27, .ref q28, .ref q29, .int 0, .ref q30, .ref q31, .ref q32, .ref q33, .ref q34, .int 0, .ref q35, .ref q36, .ref q37, .ref q38, .int 0, .ref q3, .ref q4, .ref q5, .ref q6, .int (-1), .int 0, .ref q39, .ref q40, .ref q41, .ref q42])), (q7, .inl (G.2.1, 242, .inl (fun _ => 0)))]) rfl (fun H locs w => ?_)
  refine lv_iinc (v := 2) (lv' := [(2, .int 2), (1, .int 1), (0, .ref q0)]) hx hb dX12_findPeriod_80 hl (k := 0) rfl (by decide +kernel) (by decide) rfl (fun ls hl => ?_)
  refine lv_goto (tgt := 20) hx hb dX12_findPeriod_83 (by decide) ?_
  refine lv_iload_n hx hb dX12_findPeriod_20 rfl (lv_at hl 0 rfl) ?_
  refine lv_bipush (v := 8) hx hb dX12_findPeriod_21 (by decide) ?_
  refine lv_icmp_ge (tgt := 86) hx hb dX12_findPeriod_23 (by decide) (fun h => absurd h (by decide)) (fun _ => ?_)
  refine lv_aload_n hx hb dX12_findPeriod_26 rfl (lv_at hl 2 rfl) ?_
  refine r_get C w 6 rfl fr_X12_130 rfl dX12_findPeriod_27 ?_
  refine lv_bipush (v := 16) hx hb dX12_findPeriod_30 (by decide) ?_
  refine lv_iload_n hx hb dX12_findPeriod_32 rfl (lv_at hl 1 rfl) ?_
  refine lv_imul hx hb dX12_findPeriod_33 ?_
  refine z_i (v := 16) (by decide +kernel) ?_
  refine lv_iload_n hx hb dX12_findPeriod_34 rfl (lv_at hl 0 rfl) ?_
  refine lv_iadd hx hb dX12_findPeriod_35 ?_
  refine z_i (v := 18) (by decide +kernel) ?_
  refine lv_aload_n hx hb dX12_findPeriod_36 rfl (lv_at hl 2 rfl) ?_
  refine r_get C w 6 rfl fr_X12_47 rfl dX12_findPeriod_37 ?_
  refine lv_iload_n hx hb dX12_findPeriod_40 rfl (lv_at hl 0 rfl) ?_
  refine r_iald C w 3 rfl (IX.of (k := 2) (by decide +kernel)) (v := 0) rfl dX12_findPeriod_41 ?_
  refine r_iast C w 0 rfl (IX.of (k := 18) (by decide +kernel)) (g := (fun _ => 0)) (upd_c _ _) dX12_findPeriod_42 (ws2 := [(q5, .inl (G.2.1, 32016, .inl (fun _ => 0))), (q6, .inl (G.2.1, 16008, .inl (fun _ => 0))), (q1, .inl (G.2.1, 57, .inl (fun _ => 0))), (q2, .inl (G.2.1, 8, .inl (fun _ => 0))), (q3, .inl (G.2.1, 8, .inl (fun _ => 0))), (q4, .inl (G.2.1, 8, .inl (fun _ => 0))), (q0, .inr (12, [.int 0, .int 0, .int 0, .int 0, .int 0, .int 0, .int 0, .int (-1), .ref q8, .ref q7, .ref q9, .int 0, .ref q10, .ref q11, .ref q12, .ref q13, .ref q14, .ref q1, .ref q15, .int 0, .ref q2, .ref q16, .ref q17, .ref q18, .ref q19, .ref q20, .ref q21, .int 0, .int (-1), .int 0, .ref q22, .ref q23, .ref q24, .ref q25, .ref q26, .ref q27, .ref q28, .ref q29, .int 0, .ref q30, .ref q31, .ref q32, .ref q33, .ref q34, .int 0, .ref q35, .ref q36, .ref q37, .ref q38, .int 0, .ref q3, .ref q4, .ref q5, .ref q6, .int (-1), .int 0, .ref q39, .ref q40, .ref q41, .ref q42])), (q7, .inl (G.2.1, 242, .inl (fun _ => 0)))]) rfl (fun H locs w => ?_)
  refine lv_aload_n hx hb dX12_findPeriod_43 rfl (lv_at hl 2 rfl) ?_
  refine r_get C w 6 rfl fr_X12_130 rfl dX12_findPeriod_44 ?_
  refine lv_bipush (v := 16) hx hb dX12_findPeriod_47 (by decide) ?_
  refine lv_iload_n hx hb dX12_findPeriod_49 rfl (lv_at hl 1 rfl) ?_
  refine lv_imul hx hb dX12_findPeriod_50 ?_
  refine z_i (v := 16) (by decide +kernel) ?_
  refine lv_bipush (v := 8) hx hb dX12_findPeriod_51 (by decide) ?_
  refine lv_iadd hx hb dX12_findPeriod_53 ?_
  refine z_i (v := 24) (by decide +kernel) ?_
  refine lv_iload_n hx hb dX12_findPeriod_54 rfl (lv_at hl 0 rfl) ?_
  refine lv_iadd hx hb dX12_findPeriod_55 ?_
  refine z_i (v := 26) (by decide +kernel) ?_
  refine lv_aload_n hx hb dX12_findPeriod_56 rfl (lv_at hl 2 rfl) ?_
  refine r_get C w 6 rfl fr_X12_124 rfl dX12_findPeriod_57 ?_
  refine lv_iload_n hx hb dX12_findPeriod_60 rfl (lv_at hl 0 rfl) ?_
  refine r_iald C w 4 rfl (IX.of (k := 2) (by decide +kernel)) (v := 0) rfl dX12_findPeriod_61 ?_
  refine r_iast C w 0 rfl (IX.of (k := 26) (by decide +kernel)) (g := (fun _ => 0)) (upd_c _ _) dX12_findPeriod_62 (ws2 := [(q5, .inl (G.2.1, 32016, .inl (fun _ => 0))), (q6, .inl (G.2.1, 16008, .inl (fun _ => 0))), (q1, .inl (G.2.1, 57, .inl (fun _ => 0))), (q2, .inl (G.2.1, 8, .inl (fun _ => 0))), (q3, .inl (G.2.1, 8, .inl (fun _ => 0))), (q4, .inl (G.2.1, 8, .inl (fun _ => 0))), (q0, .inr (12, [.int 0, .int 0, .int 0, .int 0, .int 0, .int 0, .int 0, .int (-1), .ref q8, .ref q7, .ref q9, .int 0, .ref q10, .ref q11, .ref q12, .ref q13, .ref q14, .ref q1, .ref q15, .int 0, .ref q2, .ref q16, .ref q17, .ref q18, .ref q19, .ref q20, .ref q21, .int 0, .int (-1), .int 0, .ref q22, .ref q23, .ref q24, .ref q25, .ref q26, .ref q27, .ref q28, .ref q29, .int 0, .ref q30, .ref q31, .ref q32, .ref q33, .ref q34, .int 0, .ref q35, .ref q36, .ref q37, .ref q38, .int 0, .ref q3, .ref q4, .ref q5, .ref q6, .int (-1), .int 0, .ref q39, .ref q40, .ref q41, .ref q42])), (q7, .inl (G.2.1, 242, .inl (fun _ => 0)))]) rfl (fun H locs w => ?_)
  refine lv_aload_n hx hb dX12_findPeriod_63 rfl (lv_at hl 2 rfl) ?_
  refine r_get C w 6 rfl fr_X12_133 rfl dX12_findPeriod_64 ?_
  refine lv_bipush (v := 8) hx hb dX12_findPeriod_67 (by decide) ?_
  refine lv_iload_n hx hb dX12_findPeriod_69 rfl (lv_at hl 1 rfl) ?_
  refine lv_imul hx hb dX12_findPeriod_70 ?_
  refine z_i (v := 8) (by decide +kernel) ?_
  refine lv_iload_n hx hb dX12_findPeriod_71 rfl (lv_at hl 0 rfl) ?_
  refine lv_iadd hx hb dX12_findPeriod_72 ?_
  refine z_i (v := 10) (by decide +kernel) ?_
  refine lv_aload_n hx hb dX12_findPeriod_73 rfl (lv_at hl 2 rfl) ?_
  refine r_get C w 6 rfl fr_X12_127 rfl dX12_findPeriod_74 ?_
  refine lv_iload_n hx hb dX12_findPeriod_77 rfl (lv_at hl 0 rfl) ?_
  refine r_iald C w 5 rfl (IX.of (k := 2) (by decide +kernel)) (v := 0) rfl dX12_findPeriod_78 ?_
  refine r_iast C w 1 rfl (IX.of (k := 10) (by decide +kernel)) (g := (fun _ => 0)) (upd_c _ _) dX12_findPeriod_79 (ws2 := [(q5, .inl (G.2.1, 32016, .inl (fun _ => 0))), (q6, .inl (G.2.1, 16008, .inl (fun _ => 0))), (q1, .inl (G.2.1, 57, .inl (fun _ => 0))), (q2, .inl (G.2.1, 8, .inl (fun _ => 0))), (q3, .inl (G.2.1, 8, .inl (fun _ => 0))), (q4, .inl (G.2.1, 8, .inl (fun _ => 0))), (q0, .inr (12, [.int 0, .int 0, .int 0, .int 0, .int 0, .int 0, .int 0, .int (-1), .ref q8, .ref q7, .ref q9, .int 0, .ref q10, .ref q11, .ref q12, .ref q13, .ref q14, .ref q1, .ref q15, .int 0, .ref q2, .ref q16, .ref q17, .ref q18, .ref q19, .ref q20, .ref q21, .int 0, .int (-1), .int 0, .ref q22, .ref q23, .ref q24, .ref q25, .ref q26, .ref q27, .ref q28, .ref q29, .int 0, .ref q30, .ref q31, .ref q32, .ref q33, .ref q34, .int 0, .ref q35, .ref q36, .ref q37, .ref q38, .int 0, .ref q3, .ref q4, .ref q5, .ref q6, .int (-1), .int 0, .ref q39, .ref q40, .ref q41, .ref q42])), (q7, .inl (G.2.1, 242, .inl (fun _ => 0)))]) rfl (fun H locs w => ?_)
  refine lv_iinc (v := 3) (lv' := [(2, .int 3), (1, .int 1), (0, .ref q0)]) hx hb dX12_findPeriod_80 hl (k := 0) rfl (by decide +kernel) (by decide) rfl (fun ls hl => ?_)
  refine lv_goto (tgt := 20) hx hb dX12_findPeriod_83 (by decide) ?_
  refine lv_iload_n hx hb dX12_findPeriod_20 rfl (lv_at hl 0 rfl) ?_
  refine lv_bipush (v := 8) hx hb dX12_findPeriod_21 (by decide) ?_
  refine lv_icmp_ge (tgt := 86) hx hb dX12_findPeriod_23 (by decide) (fun h => absurd h (by decide)) (fun _ => ?_)
  refine lv_aload_n hx hb dX12_findPeriod_26 rfl (lv_at hl 2 rfl) ?_
  refine r_get C w 6 rfl fr_X12_130 rfl dX12_findPeriod_27 ?_
  refine lv_bipush (v := 16) hx hb dX12_findPeriod_30 (by decide) ?_
  refine lv_iload_n hx hb dX12_findPeriod_32 rfl (lv_at hl 1 rfl) ?_
  refine lv_imul hx hb dX12_findPeriod_33 ?_
  refine z_i (v := 16) (by decide +kernel) ?_
  refine lv_iload_n hx hb dX12_findPeriod_34 rfl (lv_at hl 0 rfl) ?_
  refine lv_iadd hx hb dX12_findPeriod_35 ?_
  refine z_i (v := 19) (by decide +kernel) ?_
  refine lv_aload_n hx hb dX12_findPeriod_36 rfl (lv_at hl 2 rfl) ?_
  refine r_get C w 6 rfl fr_X12_47 rfl dX12_findPeriod_37 ?_
  refine lv_iload_n hx hb dX12_findPeriod_40 rfl (lv_at hl 0 rfl) ?_
  refine r_iald C w 3 rfl (IX.of (k := 3) (by decide +kernel)) (v := 0) rfl dX12_findPeriod_41 ?_
  refine r_iast C w 0 rfl (IX.of (k := 19) (by decide +kernel)) (g := (fun _ => 0)) (upd_c _ _) dX12_findPeriod_42 (ws2 := [(q5, .inl (G.2.1, 32016, .inl (fun _ => 0))), (q6, .inl (G.2.1, 16008, .inl (fun _ => 0))), (q1, .inl (G.2.1, 57, .inl (fun _ => 0))), (q2, .inl (G.2.1, 8, .inl (fun _ => 0))), (q3, .inl (G.2.1, 8, .inl (fun _ => 0))), (q4, .inl (G.2.1, 8, .inl (fun _ => 0))), (q0, .inr (12, [.int 0, .int 0, .int 0, .int 0, .int 0, .int 0, .int 0, .int (-1), .ref q8, .ref q7, .ref q9, .int 0, .ref q10, .ref q11, .ref q12, .ref q13, .ref q14, .ref q1, .ref q15, .int 0, .ref q2, .ref q16, .ref q17, .ref q18, .ref q19, .ref q20, .ref q21, .int 0, .int (-1), .int 0, .ref q22, .ref q23, .ref q24, .ref q25, .ref q26, .ref q27, .ref q28, .ref q29, .int 0, .ref q30, .ref q31, .ref q32, .ref q33, .ref q34, .int 0, .ref q35, .ref q36, .ref q37, .ref q38, .int 0, .ref q3, .ref q4, .ref q5, .ref q6, .int (-1), .int 0, .ref q39, .ref q40, .ref q41, .ref q42])), (q7, .inl (G.2.1, 242, .inl (fun _ => 0)))]) rfl (fun H locs w => ?_)
  refine lv_aload_n hx hb dX12_findPeriod_43 rfl (lv_at hl 2 rfl) ?_
  refine r_get C w 6 rfl fr_X12_130 rfl dX12_findPeriod_44 ?_
  refine lv_bipush (v := 16) hx hb dX12_findPeriod_47 (by decide) ?_
  refine lv_iload_n hx hb dX12_findPeriod_49 rfl (lv_at hl 1 rfl) ?_
  refine lv_imul hx hb dX12_findPeriod_50 ?_
  refine z_i (v := 16) (by decide +kernel) ?_
  refine lv_bipush (v := 8) hx hb dX12_findPeriod_51 (by decide) ?_
  refine lv_iadd hx hb dX12_findPeriod_53 ?_
  refine z_i (v := 24) (by decide +kernel) ?_
  refine lv_iload_n hx hb dX12_findPeriod_54 rfl (lv_at hl 0 rfl) ?_
  refine lv_iadd hx hb dX12_findPeriod_55 ?_
  refine z_i (v := 27) (by decide +kernel) ?_
  refine lv_aload_n hx hb dX12_findPeriod_56 rfl (lv_at hl 2 rfl) ?_
  refine r_get C w 6 rfl fr_X12_124 rfl dX12_findPeriod_57 ?_
  refine lv_iload_n hx hb dX12_findPeriod_60 rfl (lv_at hl 0 rfl) ?_
  refine r_iald C w 4 rfl (IX.of (k := 3) (by decide +kernel)) (v := 0) rfl dX12_findPeriod_61 ?_
  refine r_iast C w 0 rfl (IX.of (k := 27) (by decide +kernel)) (g := (fun _ => 0)) (upd_c _ _) dX12_findPeriod_62 (ws2 := [(q5, .inl (G.2.1, 32016, .inl (fun _ => 0))), (q6, .inl (G.2.1, 16008, .inl (fun _ => 0))), (q1, .inl (G.2.1, 57, .inl (fun _ => 0))), (q2, .inl (G.2.1, 8, .inl (fun _ => 0))), (q3, .inl (G.2.1, 8, .inl (fun _ => 0))), (q4, .inl (G.2.1, 8, .inl (fun _ => 0))), (q0, .inr (12, [.int 0, .int 0, .int 0, .int 0, .int 0, .int 0, .int 0, .int (-1), .ref q8, .ref q7, .ref q9, .int 0, .ref q10, .ref q11, .ref q12, .ref q13, .ref q14, .ref q1, .ref q15, .int 0, .ref q2, .ref q16, .ref q17, .ref q18, .ref q19, .ref q20, .ref q21, .int 0, .int (-1), .int 0, .ref q22, .ref q23, .ref q24, .ref q25, .ref q26, .ref q27, .ref q28, .ref q29, .int 0, .ref q30, .ref q31, .ref q32, .ref q33, .ref q34, .int 0, .ref q35, .ref q36, .ref q37, .ref q38, .int 0, .ref q3, .ref q4, .ref q5, .ref q6, .int (-1), .int 0, .ref q39, .ref q40, .ref q41, .ref q42])), (q7, .inl (G.2.1, 242, .inl (fun _ => 0)))]) rfl (fun H locs w => ?_)
  refine lv_aload_n hx hb dX12_findPeriod_63 rfl (lv_at hl 2 rfl) ?_
  refine r_get C w 6 rfl fr_X12_133 rfl dX12_findPeriod_64 ?_
  refine lv_bipush (v := 8) hx hb dX12_findPeriod_67 (by decide) ?_
  refine lv_iload_n hx hb dX12_findPeriod_69 rfl (lv_at hl 1 rfl) ?_
  refine lv_imul hx hb dX12_findPeriod_70 ?_
  refine z_i (v := 8) (by decide +kernel) ?_
  refine lv_iload_n hx hb dX12_findPeriod_71 rfl (lv_at hl 0 rfl) ?_
  refine lv_iadd hx hb dX12_findPeriod_72 ?_
  refine z_i (v := 11) (by decide +kernel) ?_
  refine lv_aload_n hx hb dX12_findPeriod_73 rfl (lv_at hl 2 rfl) ?_
  refine r_get C w 6 rfl fr_X12_127 rfl dX12_findPeriod_74 ?_
  refine lv_iload_n hx hb dX12_findPeriod_77 rfl (lv_at hl 0 rfl) ?_
  refine r_iald C w 5 rfl (IX.of (k := 3) (by decide +kernel)) (v := 0) rfl dX12_findPeriod_78 ?_
  refine r_iast C w 1 rfl (IX.of (k := 11) (by decide +kernel)) (g := (fun _ => 0)) (upd_c _ _) dX12_findPeriod_79 (ws2 := [(q5, .inl (G.2.1, 32016, .inl (fun _ => 0))), (q6, .inl (G.2.1, 16008, .inl (fun _ => 0))), (q1, .inl (G.2.1, 57, .inl (fun _ => 0))), (q2, .inl (G.2.1, 8, .inl (fun _ => 0))), (q3, .inl (G.2.1, 8, .inl (fun _ => 0))), (q4, .inl (G.2.1, 8, .inl (fun _ => 0))), (q0, .inr (12, [.int 0, .int 0, .int 0, .int 0, .int 0, .int 0, .int 0, .int (-1), .ref q8, .ref q7, .ref q9, .int 0, .ref q10, .ref q11, .ref q12, .ref q13, .ref q14, .ref q1, .ref q15, .int 0, .ref q2, .ref q16, .ref q17, .ref q18, .ref q19, .ref q20, .ref q21, .int 0, .int (-1), .int 0, .ref q22, .ref q23, .ref q24, .ref q25, .ref q26, .ref q27, .ref q28, .ref q29, .int 0, .ref q30, .ref q31, .ref q32, .ref q33, .ref q34, .int 0, .ref q35, .ref q36, .ref q37, .ref q38, .int 0, .ref q3, .ref q4, .ref q5, .ref q6, .int (-1), .int 0, .ref q39, .ref q40, .ref q41, .ref q42])), (q7, .inl (G.2.1, 242, .inl (fun _ => 0)))]) rfl (fun H locs w => ?_)
  refine lv_iinc (v := 4) (lv' := [(2, .int 4), (1, .int 1), (0, .ref q0)]) hx hb dX12_findPeriod_80 hl (k := 0) rfl (by decide +kernel) (by decide) rfl (fun ls hl => ?_)
  refine lv_goto (tgt := 20) hx hb dX12_findPeriod_83 (by decide) ?_
  refine lv_iload_n hx hb dX12_findPeriod_20 rfl (lv_at hl 0 rfl) ?_
  refine lv_bipush (v := 8) hx hb dX12_findPeriod_21 (by decide) ?_
  refine lv_icmp_ge (tgt := 86) hx hb dX12_findPeriod_23 (by decide) (fun h => absurd h (by decide)) (fun _ => ?_)
  refine lv_aload_n hx hb dX12_findPeriod_26 rfl (lv_at hl 2 rfl) ?_
  refine r_get C w 6 rfl fr_X12_130 rfl dX12_findPeriod_27 ?_
  refine lv_bipush (v := 16) hx hb dX12_findPeriod_30 (by decide) ?_
  refine lv_iload_n hx hb dX12_findPeriod_32 rfl (lv_at hl 1 rfl) ?_
  refine lv_imul hx hb dX12_findPeriod_33 ?_
  refine z_i (v := 16) (by decide +kernel) ?_
  refine lv_iload_n hx hb dX12_findPeriod_34 rfl (lv_at hl 0 rfl) ?_
  refine lv_iadd hx hb dX12_findPeriod_35 ?_
  refine z_i (v := 20) (by decide +kernel) ?_
  refine lv_aload_n hx hb dX12_findPeriod_36 rfl (lv_at hl 2 rfl) ?_
  refine r_get C w 6 rfl fr_X12_47 rfl dX12_findPeriod_37 ?_
  refine lv_iload_n hx hb dX12_findPeriod_40 rfl (lv_at hl 0 rfl) ?_
  refine r_iald C w 3 rfl (IX.of (k := 4) (by decide +kernel)) (v := 0) rfl dX12_findPeriod_41 ?_
  refine r_iast C w 0 rfl (IX.of (k := 20) (by decide +kernel)) (g := (fun _ => 0)) (upd_c _ _) dX12_findPeriod_42 (ws2 := [(q5, .inl (G.2.1, 32016, .inl (fun _ => 0))), (q6, .inl (G.2.1, 16008, .inl (fun _ => 0))), (q1, .inl (G.2.1, 57, .inl (fun _ => 0))), (q2, .inl (G.2.1, 8, .inl (fun _ => 0))), (q3, .inl (G.2.1, 8, .inl (fun _ => 0))), (q4, .inl (G.2.1, 8, .inl (fun _ => 0))), (q0, .inr (12, [.int 0, .int 0, .int 0, .int 0, .int 0, .int 0, .int 0, .int (-1), .ref q8, .ref q7, .ref q9, .int 0, .ref q10, .ref q11, .ref q12, .ref q13, .ref q14, .ref q1, .ref q15, .int 0, .ref q2, .ref q16, .ref q17, .ref q18, .ref q19, .ref q20, .ref q21, .int 0, .int (-1), .int 0, .ref q22, .ref q23, .ref q24, .ref q25, .ref q26, .ref q27, .ref q28, .ref q29, .int 0, .ref q30, .ref q31, .ref q32, .ref q33, .ref q34, .int 0, .ref q35, .ref q36, .ref q37, .ref q38, .int 0, .ref q3, .ref q4, .ref q5, .ref q6, .int (-1), .int 0, .ref q39, .ref q40, .ref q41, .ref q42])), (q7, .inl (G.2.1, 242, .inl (fun _ => 0)))]) rfl (fun H locs w => ?_)
  refine lv_aload_n hx hb dX12_findPeriod_43 rfl (lv_at hl 2 rfl) ?_
  refine r_get C w 6 rfl fr_X12_130 rfl dX12_findPeriod_44 ?_
  refine lv_bipush (v := 16) hx hb dX12_findPeriod_47 (by decide) ?_
  refine lv_iload_n hx hb dX12_findPeriod_49 rfl (lv_at hl 1 rfl) ?_
  refine lv_imul hx hb dX12_findPeriod_50 ?_
  refine z_i (v := 16) (by decide +kernel) ?_
  refine lv_bipush (v := 8) hx hb dX12_findPeriod_51 (by decide) ?_
  refine lv_iadd hx hb dX12_findPeriod_53 ?_
  refine z_i (v := 24) (by decide +kernel) ?_
  refine lv_iload_n hx hb dX12_findPeriod_54 rfl (lv_at hl 0 rfl) ?_
  refine lv_iadd hx hb dX12_findPeriod_55 ?_
  refine z_i (v := 28) (by decide +kernel) ?_
  refine lv_aload_n hx hb dX12_findPeriod_56 rfl (lv_at hl 2 rfl) ?_
  refine r_get C w 6 rfl fr_X12_124 rfl dX12_findPeriod_57 ?_
  refine lv_iload_n hx hb dX12_findPeriod_60 rfl (lv_at hl 0 rfl) ?_
  refine r_iald C w 4 rfl (IX.of (k := 4) (by decide +kernel)) (v := 0) rfl dX12_findPeriod_61 ?_
  refine r_iast C w 0 rfl (IX.of (k := 28) (by decide +kernel)) (g := (fun _ => 0)) (upd_c _ _) dX12_findPeriod_62 (ws2 := [(q5, .inl (G.2.1, 32016, .inl (fun _ => 0))), (q6, .inl (G.2.1, 16008, .inl (fun _ => 0))), (q1, .inl (G.2.1, 57, .inl (fun _ => 0))), (q2, .inl (G.2.1, 8, .inl (fun _ => 0))), (q3, .inl (G.2.1, 8, .inl (fun _ => 0))), (q4, .inl (G.2.1, 8, .inl (fun _ => 0))), (q0, .inr (12, [.int 0, .int 0, .int 0, .int 0, .int 0, .int 0, .int 0, .int (-1), .ref q8, .ref q7, .ref q9, .int 0, .ref q10, .ref q11, .ref q12, .ref q13, .ref q14, .ref q1, .ref q15, .int 0, .ref q2, .ref q16, .ref q17, .ref q18, .ref q19, .ref q20, .ref q21, .int 0, .int (-1), .int 0, .ref q22, .ref q23, .ref q24, .ref q25, .ref q26, .ref q27, .ref q28, .ref q29, .int 0, .ref q30, .ref q31, .ref q32, .ref q33, .ref q34, .int 0, .ref q35, .ref q36, .ref q37, .ref q38, .int 0, .ref q3, .ref q4, .ref q5, .ref q6, .int (-1), .int 0, .ref q39, .ref q40, .ref q41, .ref q42])), (q7, .inl (G.2.1, 242, .inl (fun _ => 0)))]) rfl (fun H locs w => ?_)
  refine lv_aload_n hx hb dX12_findPeriod_63 rfl (lv_at hl 2 rfl) ?_
  refine r_get C w 6 rfl fr_X12_133 rfl dX12_findPeriod_64 ?_
  refine lv_bipush (v := 8) hx hb dX12_findPeriod_67 (by decide) ?_
  refine lv_iload_n hx hb dX12_findPeriod_69 rfl (lv_at hl 1 rfl) ?_
  refine lv_imul hx hb dX12_findPeriod_70 ?_
  refine z_i (v := 8) (by decide +kernel) ?_
  refine lv_iload_n hx hb dX12_findPeriod_71 rfl (lv_at hl 0 rfl) ?_
  refine lv_iadd hx hb dX12_findPeriod_72 ?_
  refine z_i (v := 12) (by decide +kernel) ?_
  refine lv_aload_n hx hb dX12_findPeriod_73 rfl (lv_at hl 2 rfl) ?_
  refine r_get C w 6 rfl fr_X12_127 rfl dX12_findPeriod_74 ?_
  refine lv_iload_n hx hb dX12_findPeriod_77 rfl (lv_at hl 0 rfl) ?_
  refine r_iald C w 5 rfl (IX.of (k := 4) (by decide +kernel)) (v := 0) rfl dX12_findPeriod_78 ?_
  refine r_iast C w 1 rfl (IX.of (k := 12) (by decide +kernel)) (g := (fun _ => 0)) (upd_c _ _) dX12_findPeriod_79 (ws2 := [(q5, .inl (G.2.1, 32016, .inl (fun _ => 0))), (q6, .inl (G.2.1, 16008, .inl (fun _ => 0))), (q1, .inl (G.2.1, 57, .inl (fun _ => 0))), (q2, .inl (G.2.1, 8, .inl (fun _ => 0))), (q3, .inl (G.2.1, 8, .inl (fun _ => 0))), (q4, .inl (G.2.1, 8, .inl (fun _ => 0))), (q0, .inr (12, [.int 0, .int 0, .int 0, .int 0, .int 0, .int 0, .int 0, .int (-1), .ref q8, .ref q7, .ref q9, .int 0, .ref q10, .ref q11, .ref q12, .ref q13, .ref q14, .ref q1, .ref q15, .int 0, .ref q2, .ref q16, .ref q17, .ref q18, .ref q19, .ref q20, .ref q21, .int 0, .int (-1), .int 0, .ref q22, .ref q23, .ref q24, .ref q25, .ref q26, .ref q27, .ref q28, .ref q29, .int 0, .ref q30, .ref q31, .ref q32, .ref q33, .ref q34, .int 0, .ref q35, .ref q36, .ref q37, .ref q38, .int 0, .ref q3, .ref q4, .ref q5, .ref q6, .int (-1), .int 0, .ref q39, .ref q40, .ref q41, .ref q42])), (q7, .inl (G.2.1, 242, .inl (fun _ => 0)))]) rfl (fun H locs w => ?_)
  refine lv_iinc (v := 5) (lv' := [(2, .int 5), (1, .int 1), (0, .ref q0)]) hx hb dX12_findPeriod_80 hl (k := 0) rfl (by decide +kernel) (by decide) rfl (fun ls hl => ?_)
  refine lv_goto (tgt := 20) hx hb dX12_findPeriod_83 (by decide) ?_
  refine lv_iload_n hx hb dX12_findPeriod_20 rfl (lv_at hl 0 rfl) ?_
  refine lv_bipush (v := 8) hx hb dX12_findPeriod_21 (by decide) ?_
  refine lv_icmp_ge (tgt := 86) hx hb dX12_findPeriod_23 (by decide) (fun h => absurd h (by decide)) (fun _ => ?_)
  refine lv_aload_n hx hb dX12_findPeriod_26 rfl (lv_at hl 2 rfl) ?_
  refine r_get C w 6 rfl fr_X12_130 rfl dX12_findPeriod_27 ?_
  refine lv_bipush (v := 16) hx hb dX12_findPeriod_30 (by decide) ?_
  refine lv_iload_n hx hb dX12_findPeriod_32 rfl (lv_at hl 1 rfl) ?_
  refine lv_imul hx hb dX12_findPeriod_33 ?_
  refine z_i (v := 16) (by decide +kernel) ?_
  refine lv_iload_n hx hb dX12_findPeriod_34 rfl (lv_at hl 0 rfl) ?_
  refine lv_iadd hx hb dX12_findPeriod_35 ?_
  refine z_i (v := 21) (by decide +kernel) ?_
  refine lv_aload_n hx hb dX12_findPeriod_36 rfl (lv_at hl 2 rfl) ?_
  refine r_get C w 6 rfl fr_X12_47 rfl dX12_findPeriod_37 ?_
  refine lv_iload_n hx hb dX12_findPeriod_40 rfl (lv_at hl 0 rfl) ?_
  refine r_iald C w 3 rfl (IX.of (k := 5) (by decide +kernel)) (v := 0) rfl dX12_findPeriod_41 ?_
  refine r_iast C w 0 rfl (IX.of (k := 21) (by decide +kernel)) (g := (fun _ => 0)) (upd_c _ _) dX12_findPeriod_42 (ws2 := [(q5, .inl (G.2.1, 32016, .inl (fun _ => 0))), (q6, .inl (G.2.1, 16008, .inl (fun _ => 0))), (q1, .inl (G.2.1, 57, .inl (fun _ => 0))), (q2, .inl (G.2.1, 8, .inl (fun _ => 0))), (q3, .inl (G.2.1, 8, .inl (fun _ => 0))), (q4, .inl (G.2.1, 8, .inl (fun _ => 0))), (q0, .inr (12, [.int 0, .int 0, .int 0, .int 0, .int 0, .int 0, .int 0, .int (-1), .ref q8, .ref q7, .ref q9, .int 0, .ref q10, .ref q11, .ref q12, .ref q13, .ref q14, .ref q1, .ref q15, .int 0, .ref q2, .ref q16, .ref q17, .ref q18, .ref q19, .ref q20, .ref q21, .int 0, .int (-1), .int 0, .ref q22, .ref q23, .ref q24, .ref q25, .ref q26, .ref q27, .ref q28, .ref q29, .int 0, .ref q30, .ref q31, .ref q32, .ref q33, .ref q34, .int 0, .ref q35, .ref q36, .ref q37, .ref q38, .int 0, .ref q3, .ref q4, .ref q5, .ref q6, .int (-1), .int 0, .ref q39, .ref q40, .ref q41, .ref q42])), (q7, .inl (G.2.1, 242, .inl (fun _ => 0)))]) rfl (fun H locs w => ?_)
  refine lv_aload_n hx hb dX12_findPeriod_43 rfl (lv_at hl 2 rfl) ?_
  refine r_get C w 6 rfl fr_X12_130 rfl dX12_findPeriod_44 ?_
  refine lv_bipush (v := 16) hx hb dX12_findPeriod_47 (by decide) ?_
  refine lv_iload_n hx hb dX12_findPeriod_49 rfl (lv_at hl 1 rfl) ?_
  refine lv_imul hx hb dX12_findPeriod_50 ?_
  refine z_i (v := 16) (by decide +kernel) ?_
  refine lv_bipush (v := 8) hx hb dX12_findPeriod_51 (by decide) ?_
  refine lv_iadd hx hb dX12_findPeriod_53 ?_
  refine z_i (v := 24) (by decide +kernel) ?_
  refine lv_iload_n hx hb dX12_findPeriod_54 rfl (lv_at hl 0 rfl) ?_
  refine lv_iadd hx hb dX12_findPeriod_55 ?_
  refine z_i (v := 29) (by decide +kernel) ?_
  refine lv_aload_n hx hb dX12_findPeriod_56 rfl (lv_at hl 2 rfl) ?_
  refine r_get C w 6 rfl fr_X12_124 rfl dX12_findPeriod_57 ?_
  refine lv_iload_n hx hb dX12_findPeriod_60 rfl (lv_at hl 0 rfl) ?_
  refine r_iald C w 4 rfl (IX.of (k := 5) (by decide +kernel)) (v := 0) rfl dX12_findPeriod_61 ?_
  refine r_iast C w 0 rfl (IX.of (k := 29) (by decide +kernel)) (g := (fun _ => 0)) (upd_c _ _) dX12_findPeriod_62 (ws2 := [(q5, .inl (G.2.1, 32016, .inl (fun _ => 0))), (q6, .inl (G.2.1, 16008, .inl (fun _ => 0))), (q1, .inl (G.2.1, 57, .inl (fun _ => 0))), (q2, .inl (G.2.1, 8, .inl (fun _ => 0))), (q3, .inl (G.2.1, 8, .inl (fun _ => 0))), (q4, .inl (G.2.1, 8, .inl (fun _ => 0))), (q0, .inr (12, [.int 0, .int 0, .int 0, .int 0, .int 0, .int 0, .int 0, .int (-1), .ref q8, .ref q7, .ref q9, .int 0, .ref q10, .ref q11, .ref q12, .ref q13, .ref q14, .ref q1, .ref q15, .int 0, .ref q2, .ref q16, .ref q17, .ref q18, .ref q19, .ref q20, .ref q21, .int 0, .int (-1), .int 0, .ref q22, .ref q23, .ref q24, .ref q25, .ref q26, .ref q27, .ref q28, .ref q29, .int 0, .ref q30, .ref q31, .ref q32, .ref q33, .ref q34, .int 0, .ref q35, .ref q36, .ref q37, .ref q38, .int 0, .ref q3, .ref q4, .ref q5, .ref q6, .int (-1), .int 0, .ref q39, .ref q40, .ref q41, .ref q42])), (q7, .inl (G.2.1, 242, .inl (fun _ => 0)))]) rfl (fun H locs w => ?_)
  refine lv_aload_n hx hb dX12_findPeriod_63 rfl (lv_at hl 2 rfl) ?_
  refine r_get C w 6 rfl fr_X12_133 rfl dX12_findPeriod_64 ?_
  refine lv_bipush (v := 8) hx hb dX12_findPeriod_67 (by decide) ?_
  refine lv_iload_n hx hb dX12_findPeriod_69 rfl (lv_at hl 1 rfl) ?_
  refine lv_imul hx hb dX12_findPeriod_70 ?_
  refine z_i (v := 8) (by decide +kernel) ?_
  refine lv_iload_n hx hb dX12_findPeriod_71 rfl (lv_at hl 0 rfl) ?_
  refine lv_iadd hx hb dX12_findPeriod_72 ?_
  refine z_i (v := 13) (by decide +kernel) ?_
  refine lv_aload_n hx hb dX12_findPeriod_73 rfl (lv_at hl 2 rfl) ?_
  refine r_get C w 6 rfl fr_X12_127 rfl dX12_findPeriod_74 ?_
  refine lv_iload_n hx hb dX12_findPeriod_77 rfl (lv_at hl 0 rfl) ?_
  refine r_iald C w 5 rfl (IX.of (k := 5) (by decide +kernel)) (v := 0) rfl dX12_findPeriod_78 ?_
  refine r_iast C w 1 rfl (IX.of (k := 13) (by decide +kernel)) (g := (fun _ => 0)) (upd_c _ _) dX12_findPeriod_79 (ws2 := [(q5, .inl (G.2.1, 32016, .inl (fun _ => 0))), (q6, .inl (G.2.1, 16008, .inl (fun _ => 0))), (q1, .inl (G.2.1, 57, .inl (fun _ => 0))), (q2, .inl (G.2.1, 8, .inl (fun _ => 0))), (q3, .inl (G.2.1, 8, .inl (fun _ => 0))), (q4, .inl (G.2.1, 8, .inl (fun _ => 0))), (q0, .inr (12, [.int 0, .int 0, .int 0, .int 0, .int 0, .int 0, .int 0, .int (-1), .ref q8, .ref q7, .ref q9, .int 0, .ref q10, .ref q11, .ref q12, .ref q13, .ref q14, .ref q1, .ref q15, .int 0, .ref q2, .ref q16, .ref q17, .ref q18, .ref q19, .ref q20, .ref q21, .int 0, .int (-1), .int 0, .ref q22, .ref q23, .ref q24, .ref q25, .ref q26, .ref q27, .ref q28, .ref q29, .int 0, .ref q30, .ref q31, .ref q32, .ref q33, .ref q34, .int 0, .ref q35, .ref q36, .ref q37, .ref q38, .int 0, .ref q3, .ref q4, .ref q5, .ref q6, .int (-1), .int 0, .ref q39, .ref q40, .ref q41, .ref q42])), (q7, .inl (G.2.1, 242, .inl (fun _ => 0)))]) rfl (fun H locs w => ?_)
  refine lv_iinc (v := 6) (lv' := [(2, .int 6), (1, .int 1), (0, .ref q0)]) hx hb dX12_findPeriod_80 hl (k := 0) rfl (by decide +kernel) (by decide) rfl (fun ls hl => ?_)
  refine lv_goto (tgt := 20) hx hb dX12_findPeriod_83 (by decide) ?_
  refine lv_iload_n hx hb dX12_findPeriod_20 rfl (lv_at hl 0 rfl) ?_
  refine lv_bipush (v := 8) hx hb dX12_findPeriod_21 (by decide) ?_
  refine lv_icmp_ge (tgt := 86) hx hb dX12_findPeriod_23 (by decide) (fun h => absurd h (by decide)) (fun _ => ?_)
  refine lv_aload_n hx hb dX12_findPeriod_26 rfl (lv_at hl 2 rfl) ?_
  refine r_get C w 6 rfl fr_X12_130 rfl dX12_findPeriod_27 ?_
  refine lv_bipush (v := 16) hx hb dX12_findPeriod_30 (by decide) ?_
  refine lv_iload_n hx hb dX12_findPeriod_32 rfl (lv_at hl 1 rfl) ?_
  refine lv_imul hx hb dX12_findPeriod_33 ?_
  refine z_i (v := 16) (by decide +kernel) ?_
  refine lv_iload_n hx hb dX12_findPeriod_34 rfl (lv_at hl 0 rfl) ?_
  refine lv_iadd hx hb dX12_findPeriod_35 ?_
  refine z_i (v := 22) (by decide +kernel) ?_
  refine lv_aload_n hx hb dX12_findPeriod_36 rfl (lv_at hl 2 rfl) ?_
  refine r_get C w 6 rfl fr_X12_47 rfl dX12_findPeriod_37 ?_
  refine lv_iload_n hx hb dX12_findPeriod_40 rfl (lv_at hl 0 rfl) ?_
  refine r_iald C w 3 rfl (IX.of (k := 6) (by decide +kernel)) (v := 0) rfl dX12_findPeriod_41 ?_
  refine r_iast C w 0 rfl (IX.of (k := 22) (by decide +kernel)) (g := (fun _ => 0)) (upd_c _ _) dX12_findPeriod_42 (ws2 := [(q5, .inl (G.2.1, 32016, .inl (fun _ => 0))), (q6, .inl (G.2.1, 16008, .inl (fun _ => 0))), (q1, .inl (G.2.1, 57, .inl (fun _ => 0))), (q2, .inl (G.2.1, 8, .inl (fun _ => 0))), (q3, .inl (G.2.1, 8, .inl (fun _ => 0))), (q4, .inl (G.2.1, 8, .inl (fun _ => 0))), (q0, .inr (12, [.int 0, .int 0, .int 0, .int 0, .int 0, .int 0, .int 0, .int (-1), .ref q8, .ref q7, .ref q9, .int 0, .ref q10, .ref q11, .ref q12, .ref q13, .ref q14, .ref q1, .ref q15, .int 0, .ref q2, .ref q16, .ref q17, .ref q18, .ref q19, .ref q20, .ref q21, .int 0, .int (-1), .int 0, .ref q22, .ref q23, .ref q24, .ref q25, .ref q26, .ref q27, .ref q28, .ref q29, .int 0, .ref q30, .ref q31, .ref q32, .ref q33, .ref q34, .int 0, .ref q35, .ref q36, .ref q37, .ref q38, .int 0, .ref q3, .ref q4, .ref q5, .ref q6, .int (-1), .int 0, .ref q39, .ref q40, .ref q41, .ref q42])), (q7, .inl (G.2.1, 242, .inl (fun _ => 0)))]) rfl (fun H locs w => ?_)
  refine lv_aload_n hx hb dX12_findPeriod_43 rfl (lv_at hl 2 rfl) ?_
  refine r_get C w 6 rfl fr_X12_130 rfl dX12_findPeriod_44 ?_
  refine lv_bipush (v := 16) hx hb dX12_findPeriod_47 (by decide) ?_
  refine lv_iload_n hx hb dX12_findPeriod_49 rfl (lv_at hl 1 rfl) ?_
  refine lv_imul hx hb dX12_findPeriod_50 ?_
  refine z_i (v := 16) (by decide +kernel) ?_
  refine lv_bipush (v := 8) hx hb dX12_findPeriod_51 (by decide) ?_
  refine lv_iadd hx hb dX12_findPeriod_53 ?_
  refine z_i (v := 24) (by decide +kernel) ?_
  refine lv_iload_n hx hb dX12_findPeriod_54 rfl (lv_at hl 0 rfl) ?_
  refine lv_iadd hx hb dX12_findPeriod_55 ?_
  refine z_i (v := 30) (by decide +kernel) ?_
  refine lv_aload_n hx hb dX12_findPeriod_56 rfl (lv_at hl 2 rfl) ?_
  refine r_get C w 6 rfl fr_X12_124 rfl dX12_findPeriod_57 ?_
  refine lv_iload_n hx hb dX12_findPeriod_60 rfl (lv_at hl 0 rfl) ?_
  refine r_iald C w 4 rfl (IX.of (k := 6) (by decide +kernel)) (v := 0) rfl dX12_findPeriod_61 ?_
  refine r_iast C w 0 rfl (IX.of (k := 30) (by decide +kernel)) (g := (fun _ => 0)) (upd_c _ _) dX12_findPeriod_62 (ws2 := [(q5, .inl (G.2.1, 32016, .inl (fun _ => 0))), (q6, .inl (G.2.1, 16008, .inl (fun _ => 0))), (q1, .inl (G.2.1, 57, .inl (fun _ => 0))), (q2, .inl (G.2.1, 8, .inl (fun _ => 0))), (q3, .inl (G.2.1, 8, .inl (fun _ => 0))), (q4, .inl (G.2.1, 8, .inl (fun _ => 0))), (q0, .inr (12, [.int 0, .int 0, .int 0, .int 0, .int 0, .int 0, .int 0, .int (-1), .ref q8, .ref q7, .ref q9, .int 0, .ref q10, .ref q11, .ref q12, .ref q13, .ref q14, .ref q1, .ref q15, .int 0, .ref q2, .ref q16, .ref q17, .ref q18, .ref q19, .ref q20, .ref q21, .int 0, .int (-1), .int 0, .ref q22, .ref q23, .ref q24, .ref q25, .ref q26, .ref q27, .ref q28, .ref q29, .int 0, .ref q30, .ref q31, .ref q32, .ref q33, .ref q34, .int 0, .ref q35, .ref q36, .ref q37, .ref q38, .int 0, .ref q3, .ref q4, .ref q5, .ref q6, .int (-1), .int 0, .ref q39, .ref q40, .ref q41, .ref q42])), (q7, .inl (G.2.1, 242, .inl (fun _ => 0)))]) rfl (fun H locs w => ?_)
  refine lv_aload_n hx hb dX12_findPeriod_63 rfl (lv_at hl 2 rfl) ?_
  refine r_get C w 6 rfl fr_X12_133 rfl dX12_findPeriod_64 ?_
  refine lv_bipush (v := 8) hx hb dX12_findPeriod_67 (by decide) ?_
  refine lv_iload_n hx hb dX12_findPeriod_69 rfl (lv_at hl 1 rfl) ?_
  refine lv_imul hx hb dX12_findPeriod_70 ?_
  refine z_i (v := 8) (by decide +kernel) ?_
  refine lv_iload_n hx hb dX12_findPeriod_71 rfl (lv_at hl 0 rfl) ?_
  refine lv_iadd hx hb dX12_findPeriod_72 ?_
  refine z_i (v := 14) (by decide +kernel) ?_
  refine lv_aload_n hx hb dX12_findPeriod_73 rfl (lv_at hl 2 rfl) ?_
  refine r_get C w 6 rfl fr_X12_127 rfl dX12_findPeriod_74 ?_
  refine lv_iload_n hx hb dX12_findPeriod_77 rfl (lv_at hl 0 rfl) ?_
  refine r_iald C w 5 rfl (IX.of (k := 6) (by decide +kernel)) (v := 0) rfl dX12_findPeriod_78 ?_
  refine r_iast C w 1 rfl (IX.of (k := 14) (by decide +kernel)) (g := (fun _ => 0)) (upd_c _ _) dX12_findPeriod_79 (ws2 := [(q5, .inl (G.2.1, 32016, .inl (fun _ => 0))), (q6, .inl (G.2.1, 16008, .inl (fun _ => 0))), (q1, .inl (G.2.1, 57, .inl (fun _ => 0))), (q2, .inl (G.2.1, 8, .inl (fun _ => 0))), (q3, .inl (G.2.1, 8, .inl (fun _ => 0))), (q4, .inl (G.2.1, 8, .inl (fun _ => 0))), (q0, .inr (12, [.int 0, .int 0, .int 0, .int 0, .int 0, .int 0, .int 0, .int (-1), .ref q8, .ref q7, .ref q9, .int 0, .ref q10, .ref q11, .ref q12, .ref q13, .ref q14, .ref q1, .ref q15, .int 0, .ref q2, .ref q16, .ref q17, .ref q18, .ref q19, .ref q20, .ref q21, .int 0, .int (-1), .int 0, .ref q22, .ref q23, .ref q24, .ref q25, .ref q26, .ref q27, .ref q28, .ref q29, .int 0, .ref q30, .ref q31, .ref q32, .ref q33, .ref q34, .int 0, .ref q35, .ref q36, .ref q37, .ref q38, .int 0, .ref q3, .ref q4, .ref q5, .ref q6, .int (-1), .int 0, .ref q39, .ref q40, .ref q41, .ref q42])), (q7, .inl (G.2.1, 242, .inl (fun _ => 0)))]) rfl (fun H locs w => ?_)
  refine lv_iinc (v := 7) (lv' := [(2, .int 7), (1, .int 1), (0, .ref q0)]) hx hb dX12_findPeriod_80 hl (k := 0) rfl (by decide +kernel) (by decide) rfl (fun ls hl => ?_)
  refine lv_goto (tgt := 20) hx hb dX12_findPeriod_83 (by decide) ?_
  refine lv_iload_n hx hb dX12_findPeriod_20 rfl (lv_at hl 0 rfl) ?_
  refine lv_bipush (v := 8) hx hb dX12_findPeriod_21 (by decide) ?_
  refine lv_icmp_ge (tgt := 86) hx hb dX12_findPeriod_23 (by decide) (fun h => absurd h (by decide)) (fun _ => ?_)
  refine lv_aload_n hx hb dX12_findPeriod_26 rfl (lv_at hl 2 rfl) ?_
  refine r_get C w 6 rfl fr_X12_130 rfl dX12_findPeriod_27 ?_
  refine lv_bipush (v := 16) hx hb dX12_findPeriod_30 (by decide) ?_
  refine lv_iload_n hx hb dX12_findPeriod_32 rfl (lv_at hl 1 rfl) ?_
  refine lv_imul hx hb dX12_findPeriod_33 ?_
  refine z_i (v := 16) (by decide +kernel) ?_
  refine lv_iload_n hx hb dX12_findPeriod_34 rfl (lv_at hl 0 rfl) ?_
  refine lv_iadd hx hb dX12_findPeriod_35 ?_
  refine z_i (v := 23) (by decide +kernel) ?_
  refine lv_aload_n hx hb dX12_findPeriod_36 rfl (lv_at hl 2 rfl) ?_
  refine r_get C w 6 rfl fr_X12_47 rfl dX12_findPeriod_37 ?_
  refine lv_iload_n hx hb dX12_findPeriod_40 rfl (lv_at hl 0 rfl) ?_
  refine r_iald C w 3 rfl (IX.of (k := 7) (by decide +kernel)) (v := 0) rfl dX12_findPeriod_41 ?_
  refine r_iast C w 0 rfl (IX.of (k := 23) (by decide +kernel)) (g := (fun _ => 0)) (upd_c _ _) dX12_findPeriod_42 (ws2 := [(q5, .inl (G.2.1, 32016, .inl (fun _ => 0))), (q6, .inl (G.2.1, 16008, .inl (fun _ => 0))), (q1, .inl (G.2.1, 57, .inl (fun _ => 0))), (q2, .inl (G.2.1, 8, .inl (fun _ => 0))), (q3, .inl (G.2.1, 8, .inl (fun _ => 0))), (q4, .inl (G.2.1, 8, .inl (fun _ => 0))), (q0, .inr (12, [.int 0, .int 0, .int 0, .int 0, .int 0, .int 0, .int 0, .int (-1), .ref q8, .ref q7, .ref q9, .int 0, .ref q10, .ref q11, .ref q12, .ref q13, .ref q14, .ref q1, .ref q15, .int 0, .ref q2, .ref q16, .ref q17, .ref q18, .ref q19, .ref q20, .ref q21, .int 0, .int (-1), .int 0, .ref q22, .ref q23, .ref q24, .ref q25, .ref q26, .ref q27, .ref q28, .ref q29, .int 0, .ref q30, .ref q31, .ref q32, .ref q33, .ref q34, .int 0, .ref q35, .ref q36, .ref q37, .ref q38, .int 0, .ref q3, .ref q4, .ref q5, .ref q6, .int (-1), .int 0, .ref q39, .ref q40, .ref q41, .ref q42])), (q7, .inl (G.2.1, 242, .inl (fun _ => 0)))]) rfl (fun H locs w => ?_)
  refine lv_aload_n hx hb dX12_findPeriod_43 rfl (lv_at hl 2 rfl) ?_
  refine r_get C w 6 rfl fr_X12_130 rfl dX12_findPeriod_44 ?_
  refine lv_bipush (v := 16) hx hb dX12_findPeriod_47 (by decide) ?_
  refine lv_iload_n hx hb dX12_findPeriod_49 rfl (lv_at hl 1 rfl) ?_
  refine lv_imul hx hb dX12_findPeriod_50 ?_
  refine z_i (v := 16) (by decide +kernel) ?_
  refine lv_bipush (v := 8) hx hb dX12_findPeriod_51 (by decide) ?_
  refine lv_iadd hx hb dX12_findPeriod_53 ?_
  refine z_i (v := 24) (by decide +kernel) ?_
  refine lv_iload_n hx hb dX12_findPeriod_54 rfl (lv_at hl 0 rfl) ?_
  refine lv_iadd hx hb dX12_findPeriod_55 ?_
  refine z_i (v := 31) (by decide +kernel) ?_
  refine lv_aload_n hx hb dX12_findPeriod_56 rfl (lv_at hl 2 rfl) ?_
  refine r_get C w 6 rfl fr_X12_124 rfl dX12_findPeriod_57 ?_
  refine lv_iload_n hx hb dX12_findPeriod_60 rfl (lv_at hl 0 rfl) ?_
  refine r_iald C w 4 rfl (IX.of (k := 7) (by decide +kernel)) (v := 0) rfl dX12_findPeriod_61 ?_
  refine r_iast C w 0 rfl (IX.of (k := 31) (by decide +kernel)) (g := (fun _ => 0)) (upd_c _ _) dX12_findPeriod_62 (ws2 := [(q5, .inl (G.2.1, 32016, .inl (fun _ => 0))), (q6, .inl (G.2.1, 16008, .inl (fun _ => 0))), (q1, .inl (G.2.1, 57, .inl (fun _ => 0))), (q2, .inl (G.2.1, 8, .inl (fun _ => 0))), (q3, .inl (G.2.1, 8, .inl (fun _ => 0))), (q4, .inl (G.2.1, 8, .inl (fun _ => 0))), (q0, .inr (12, [.int 0, .int 0, .int 0, .int 0, .int 0, .int 0, .int 0, .int (-1), .ref q8, .ref q7, .ref q9, .int 0, .ref q10, .ref q11, .ref q12, .ref q13, .ref q14, .ref q1, .ref q15, .int 0, .ref q2, .ref q16, .ref q17, .ref q18, .ref q19, .ref q20, .ref q21, .int 0, .int (-1), .int 0, .ref q22, .ref q23, .ref q24, .ref q25, .ref q26, .ref q27, .ref q28, .ref q29, .int 0, .ref q30, .ref q31, .ref q32, .ref q33, .ref q34, .int 0, .ref q35, .ref q36, .ref q37, .ref q38, .int 0, .ref q3, .ref q4, .ref q5, .ref q6, .int (-1), .int 0, .ref q39, .ref q40, .ref q41, .ref q42])), (q7, .inl (G.2.1, 242, .inl (fun _ => 0)))]) rfl (fun H locs w => ?_)
  refine lv_aload_n hx hb dX12_findPeriod_63 rfl (lv_at hl 2 rfl) ?_
  refine r_get C w 6 rfl fr_X12_133 rfl dX12_findPeriod_64 ?_
  refine lv_bipush (v := 8) hx hb dX12_findPeriod_67 (by decide) ?_
  refine lv_iload_n hx hb dX12_findPeriod_69 rfl (lv_at hl 1 rfl) ?_
  refine lv_imul hx hb dX12_findPeriod_70 ?_
  refine z_i (v := 8) (by decide +kernel) ?_
  refine lv_iload_n hx hb dX12_findPeriod_71 rfl (lv_at hl 0 rfl) ?_
  refine lv_iadd hx hb dX12_findPeriod_72 ?_
  refine z_i (v := 15) (by decide +kernel) ?_
  refine lv_aload_n hx hb dX12_findPeriod_73 rfl (lv_at hl 2 rfl) ?_
  refine r_get C w 6 rfl fr_X12_127 rfl dX12_findPeriod_74 ?_
  refine lv_iload_n hx hb dX12_findPeriod_77 rfl (lv_at hl 0 rfl) ?_
  refine r_iald C w 5 rfl (IX.of (k := 7) (by decide +kernel)) (v := 0) rfl dX12_findPeriod_78 ?_
  refine r_iast C w 1 rfl (IX.of (k := 15) (by decide +kernel)) (g := (fun _ => 0)) (upd_c _ _) dX12_findPeriod_79 (ws2 := [(q5, .inl (G.2.1, 32016, .inl (fun _ => 0))), (q6, .inl (G.2.1, 16008, .inl (fun _ => 0))), (q1, .inl (G.2.1, 57, .inl (fun _ => 0))), (q2, .inl (G.2.1, 8, .inl (fun _ => 0))), (q3, .inl (G.2.1, 8, .inl (fun _ => 0))), (q4, .inl (G.2.1, 8, .inl (fun _ => 0))), (q0, .inr (12, [.int 0, .int 0, .int 0, .int 0, .int 0, .int 0, .int 0, .int (-1), .ref q8, .ref q7, .ref q9, .int 0, .ref q10, .ref q11, .ref q12, .ref q13, .ref q14, .ref q1, .ref q15, .int 0, .ref q2, .ref q16, .ref q17, .ref q18, .ref q19, .ref q20, .ref q21, .int 0, .int (-1), .int 0, .ref q22, .ref q23, .ref q24, .ref q25, .ref q26, .ref q27, .ref q28, .ref q29, .int 0, .ref q30, .ref q31, .ref q32, .ref q33, .ref q34, .int 0, .ref q35, .ref q36, .ref q37, .ref q38, .int 0, .ref q3, .ref q4, .ref q5, .ref q6, .int (-1), .int 0, .ref q39, .ref q40, .ref q41, .ref q42])), (q7, .inl (G.2.1, 242, .inl (fun _ => 0)))]) rfl (fun H locs w => ?_)
  refine lv_iinc (v := 8) (lv' := [(2, .int 8), (1, .int 1), (0, .ref q0)]) hx hb dX12_findPeriod_80 hl (k := 0) rfl (by decide +kernel) (by decide) rfl (fun ls hl => ?_)
  refine lv_goto (tgt := 20) hx hb dX12_findPeriod_83 (by decide) ?_
  refine lv_iload_n hx hb dX12_findPeriod_20 rfl (lv_at hl 0 rfl) ?_
  refine lv_bipush (v := 8) hx hb dX12_findPeriod_21 (by decide) ?_
  refine lv_icmp_ge (tgt := 86) hx hb dX12_findPeriod_23 (by decide) (fun _ => ?_) (fun h => absurd (by decide) h)
  refine lv_iconst (v := 0) hx hb dX12_findPeriod_86 (by decide) ?_
  refine lv_istore_n (lv' := [(2, .int 0), (1, .int 1), (0, .ref q0)]) hx hb dX12_findPeriod_87 rfl hl (by decide) rfl (fun ls hl => ?_)
  refine lv_iload_n hx hb dX12_findPeriod_88 rfl (lv_at hl 0 rfl) ?_
  refine lv_iload_n hx hb dX12_findPeriod_89 rfl (lv_at hl 1 rfl) ?_
  refine lv_icmp_ge (tgt := 171) hx hb dX12_findPeriod_90 (by decide) (fun h => absurd h (by decide)) (fun _ => ?_)
  refine lv_aload_n hx hb dX12_findPeriod_93 rfl (lv_at hl 2 rfl) ?_
  refine r_get C w 6 rfl fr_X12_444 rfl dX12_findPeriod_94 ?_
  refine lv_iconst (v := (-1)) hx hb dX12_findPeriod_97 (by decide) ?_
  refine lv_icmp_ne (tgt := 171) hx hb dX12_findPeriod_98 (by decide) (fun h => absurd (by decide) h) (fun _ => ?_)
  refine lv_iconst (v := 1) hx hb dX12_findPeriod_101 (by decide) ?_
  refine lv_istore_n (lv' := [(3, .int 1), (2, .int 0), (1, .int 1), (0, .ref q0)]) hx hb dX12_findPeriod_102 rfl hl (by decide) rfl (fun ls hl => ?_)
  refine lv_iconst (v := 0) hx hb dX12_findPeriod_103 (by decide) ?_
  refine lv_istore (lv' := [(4, .int 0), (3, .int 1), (2, .int 0), (1, .int 1), (0, .ref q0)]) hx hb dX12_findPeriod_104 hl (by decide) rfl (fun ls hl => ?_)
  refine lv_iload hx hb dX12_findPeriod_106 (lv_at hl 0 rfl) ?_
  refine lv_bipush (v := 16) hx hb dX12_findPeriod_108 (by decide) ?_
  refine lv_icmp_ge (tgt := 156) hx hb dX12_findPeriod_110 (by decide) (fun h => absurd h (by decide)) (fun _ => ?_)
  refine lv_iload_n hx hb dX12_findPeriod_113 rfl (lv_at hl 1 rfl) ?_
  refine lv_if_eq (tgt := 156) hx hb dX12_findPeriod_114 (by decide) (fun h => absurd h (by decide)) (fun _ => ?_)
  refine lv_aload_n hx hb dX12_findPeriod_117 rfl (lv_at hl 4 rfl) ?_
  refine r_get C w 6 rfl fr_X12_130 rfl dX12_findPeriod_118 ?_
  refine lv_bipush (v := 16) hx hb dX12_findPeriod_121 (by decide) ?_
  refine lv_iload_n hx hb dX12_findPeriod_123 rfl (lv_at hl 2 rfl) ?_
  refine lv_imul hx hb dX12_findPeriod_124 ?_
  refine z_i (v := 0) (by decide +kernel) ?_
  refine lv_iload hx hb dX12_findPeriod_125 (lv_at hl 0 rfl) ?_
  refine lv_iadd hx hb dX12_findPeriod_127 ?_
  refine z_i (v := 0) (by decide +kernel) ?_
  refine r_iald C w 0 rfl (IX.of (k := 0) (by decide +kernel)) (v := 0) rfl dX12_findPeriod_128 ?_
  refine lv_aload_n hx hb dX12_findPeriod_129 rfl (lv_at hl 4 rfl) ?_
  refine r_get C w 6 rfl fr_X12_130 rfl dX12_findPeriod_130 ?_
  refine lv_bipush (v := 16) hx hb dX12_findPeriod_133 (by decide) ?_
  refine lv_iload_n hx hb dX12_findPeriod_135 rfl (lv_at hl 3 rfl) ?_
  refine lv_imul hx hb dX12_findPeriod_136 ?_
  refine z_i (v := 16) (by decide +kernel) ?_
  refine lv_iload hx hb dX12_findPeriod_137 (lv_at hl 0 rfl) ?_
  refine lv_iadd hx hb dX12_findPeriod_139 ?_
  refine z_i (v := 16) (by decide +kernel) ?_
  refine r_iald C w 0 rfl (IX.of (k := 16) (by decide +kernel)) (v := 0) rfl dX12_findPeriod_140 ?_
  refine lv_icmp_ne (tgt := 148) hx hb dX12_findPeriod_141 (by decide) (fun h => absurd (by decide) h) (fun _ => ?_)
  refine lv_iconst (v := 1) hx hb dX12_findPeriod_144 (by decide) ?_
  refine lv_goto (tgt := 149) hx hb dX12_findPeriod_145 (by decide) ?_
  refine lv_istore_n (lv' := [(3, .int 1), (4, .int 0), (2, .int 0), (1, .int 1), (0, .ref q0)]) hx hb dX12_findPeriod_149 rfl hl (by decide) rfl (fun ls hl => ?_)
  refine lv_iinc (v := 1) (lv' := [(4, .int 1), (3, .int 1), (2, .int 0), (1, .int 1), (0, .ref q0)]) hx hb dX12_findPeriod_150 hl (k := 1) rfl (by decide +kernel) (by decide) rfl (fun ls hl => ?_)
  refine lv_goto (tgt := 106) hx hb dX12_findPeriod_153 (by decide) ?_
  refine lv_iload hx hb dX12_findPeriod_106 (lv_at hl 0 rfl) ?_
  refine lv_bipush (v := 16) hx hb dX12_findPeriod_108 (by decide) ?_
  refine lv_icmp_ge (tgt := 156) hx hb dX12_findPeriod_110 (by decide) (fun h => absurd h (by decide)) (fun _ => ?_)
  refine lv_iload_n hx hb dX12_findPeriod_113 rfl (lv_at hl 1 rfl) ?_
  refine lv_if_eq (tgt := 156) hx hb dX12_findPeriod_114 (by decide) (fun h => absurd h (by decide)) (fun _ => ?_)
  refine lv_aload_n hx hb dX12_findPeriod_117 rfl (lv_at hl 4 rfl) ?_
  refine r_get C w 6 rfl fr_X12_130 rfl dX12_findPeriod_118 ?_
  refine lv_bipush (v := 16) hx hb dX12_findPeriod_121 (by decide) ?_
  refine lv_iload_n hx hb dX12_findPeriod_123 rfl (lv_at hl 2 rfl) ?_
  refine lv_imul hx hb dX12_findPeriod_124 ?_
  refine z_i (v := 0) (by decide +kernel) ?_
  refine lv_iload hx hb dX12_findPeriod_125 (lv_at hl 0 rfl) ?_
  refine lv_iadd hx hb dX12_findPeriod_127 ?_
  refine z_i (v := 1) (by decide +kernel) ?_
  refine r_iald C w 0 rfl (IX.of (k := 1) (by decide +kernel)) (v := 0) rfl dX12_findPeriod_128 ?_
  refine lv_aload_n hx hb dX12_findPeriod_129 rfl (lv_at hl 4 rfl) ?_
  refine r_get C w 6 rfl fr_X12_130 rfl dX12_findPeriod_130 ?_
  refine lv_bipush (v := 16) hx hb dX12_findPeriod_133 (by decide) ?_
  refine lv_iload_n hx hb dX12_findPeriod_135 rfl (lv_at hl 3 rfl) ?_
  refine lv_imul hx hb dX12_findPeriod_136 ?_
  refine z_i (v := 16) (by decide +kernel) ?_
  refine lv_iload hx hb dX12_findPeriod_137 (lv_at hl 0 rfl) ?_
  refine lv_iadd hx hb dX12_findPeriod_139 ?_
  refine z_i (v := 17) (by decide +kernel) ?_
  refine r_iald C w 0 rfl (IX.of (k := 17) (by decide +kernel)) (v := 0) rfl dX12_findPeriod_140 ?_
  refine lv_icmp_ne (tgt := 148) hx hb dX12_findPeriod_141 (by decide) (fun h => absurd (by decide) h) (fun _ => ?_)
  refine lv_iconst (v := 1) hx hb dX12_findPeriod_144 (by decide) ?_
  refine lv_goto (tgt := 149) hx hb dX12_findPeriod_145 (by decide) ?_
  refine lv_istore_n (lv' := [(3, .int 1), (4, .int 1), (2, .int 0), (1, .int 1), (0, .ref q0)]) hx hb dX12_findPeriod_149 rfl hl (by decide) rfl (fun ls hl => ?_)
  refine lv_iinc (v := 2) (lv' := [(4, .int 2), (3, .int 1), (2, .int 0), (1, .int 1), (0, .ref q0)]) hx hb dX12_findPeriod_150 hl (k := 1) rfl (by decide +kernel) (by decide) rfl (fun ls hl => ?_)
  refine lv_goto (tgt := 106) hx hb dX12_findPeriod_153 (by decide) ?_
  refine lv_iload hx hb dX12_findPeriod_106 (lv_at hl 0 rfl) ?_
  refine lv_bipush (v := 16) hx hb dX12_findPeriod_108 (by decide) ?_
  refine lv_icmp_ge (tgt := 156) hx hb dX12_findPeriod_110 (by decide) (fun h => absurd h (by decide)) (fun _ => ?_)
  refine lv_iload_n hx hb dX12_findPeriod_113 rfl (lv_at hl 1 rfl) ?_
  refine lv_if_eq (tgt := 156) hx hb dX12_findPeriod_114 (by decide) (fun h => absurd h (by decide)) (fun _ => ?_)
  refine lv_aload_n hx hb dX12_findPeriod_117 rfl (lv_at hl 4 rfl) ?_
  refine r_get C w 6 rfl fr_X12_130 rfl dX12_findPeriod_118 ?_
  refine lv_bipush (v := 16) hx hb dX12_findPeriod_121 (by decide) ?_
  refine lv_iload_n hx hb dX12_findPeriod_123 rfl (lv_at hl 2 rfl) ?_
  refine lv_imul hx hb dX12_findPeriod_124 ?_
  refine z_i (v := 0) (by decide +kernel) ?_
  refine lv_iload hx hb dX12_findPeriod_125 (lv_at hl 0 rfl) ?_
  refine lv_iadd hx hb dX12_findPeriod_127 ?_
  refine z_i (v := 2) (by decide +kernel) ?_
  refine r_iald C w 0 rfl (IX.of (k := 2) (by decide +kernel)) (v := 0) rfl dX12_findPeriod_128 ?_
  refine lv_aload_n hx hb dX12_findPeriod_129 rfl (lv_at hl 4 rfl) ?_
  refine r_get C w 6 rfl fr_X12_130 rfl dX12_findPeriod_130 ?_
  refine lv_bipush (v := 16) hx hb dX12_findPeriod_133 (by decide) ?_
  refine lv_iload_n hx hb dX12_findPeriod_135 rfl (lv_at hl 3 rfl) ?_
  refine lv_imul hx hb dX12_findPeriod_136 ?_
  refine z_i (v := 16) (by decide +kernel) ?_
  refine lv_iload hx hb dX12_findPeriod_137 (lv_at hl 0 rfl) ?_
  refine lv_iadd hx hb dX12_findPeriod_139 ?_
  refine z_i (v := 18) (by decide +kernel) ?_
  refine r_iald C w 0 rfl (IX.of (k := 18) (by decide +kernel)) (v := 0) rfl dX12_findPeriod_140 ?_
  refine lv_icmp_ne (tgt := 148) hx hb dX12_findPeriod_141 (by decide) (fun h => absurd (by decide) h) (fun _ => ?_)
  refine lv_iconst (v := 1) hx hb dX12_findPeriod_144 (by decide) ?_
  refine lv_goto (tgt := 149) hx hb dX12_findPeriod_145 (by decide) ?_
  refine lv_istore_n (lv' := [(3, .int 1), (4, .int 2), (2, .int 0), (1, .int 1), (0, .ref q0)]) hx hb dX12_findPeriod_149 rfl hl (by decide) rfl (fun ls hl => ?_)
  refine lv_iinc (v := 3) (lv' := [(4, .int 3), (3, .int 1), (2, .int 0), (1, .int 1), (0, .ref q0)]) hx hb dX12_findPeriod_150 hl (k := 1) rfl (by decide +kernel) (by decide) rfl (fun ls hl => ?_)
  refine lv_goto (tgt := 106) hx hb dX12_findPeriod_153 (by decide) ?_
  refine lv_iload hx hb dX12_findPeriod_106 (lv_at hl 0 rfl) ?_
  refine lv_bipush (v := 16) hx hb dX12_findPeriod_108 (by decide) ?_
  refine lv_icmp_ge (tgt := 156) hx hb dX12_findPeriod_110 (by decide) (fun h => absurd h (by decide)) (fun _ => ?_)
  refine lv_iload_n hx hb dX12_findPeriod_113 rfl (lv_at hl 1 rfl) ?_
  refine lv_if_eq (tgt := 156) hx hb dX12_findPeriod_114 (by decide) (fun h => absurd h (by decide)) (fun _ => ?_)
  refine lv_aload_n hx hb dX12_findPeriod_117 rfl (lv_at hl 4 rfl) ?_
  refine r_get C w 6 rfl fr_X12_130 rfl dX12_findPeriod_118 ?_
  refine lv_bipush (v := 16) hx hb dX12_findPeriod_121 (by decide) ?_
  refine lv_iload_n hx hb dX12_findPeriod_123 rfl (lv_at hl 2 rfl) ?_
  refine lv_imul hx hb dX12_findPeriod_124 ?_
  refine z_i (v := 0) (by decide +kernel) ?_
  refine lv_iload hx hb dX12_findPeriod_125 (lv_at hl 0 rfl) ?_
  refine lv_iadd hx hb dX12_findPeriod_127 ?_
  refine z_i (v := 3) (by decide +kernel) ?_
  refine r_iald C w 0 rfl (IX.of (k := 3) (by decide +kernel)) (v := 0) rfl dX12_findPeriod_128 ?_
  refine lv_aload_n hx hb dX12_findPeriod_129 rfl (lv_at hl 4 rfl) ?_
  refine r_get C w 6 rfl fr_X12_130 rfl dX12_findPeriod_130 ?_
  refine lv_bipush (v := 16) hx hb dX12_findPeriod_133 (by decide) ?_
  refine lv_iload_n hx hb dX12_findPeriod_135 rfl (lv_at hl 3 rfl) ?_
  refine lv_imul hx hb dX12_findPeriod_136 ?_
  refine z_i (v := 16) (by decide +kernel) ?_
  refine lv_iload hx hb dX12_findPeriod_137 (lv_at hl 0 rfl) ?_
  refine lv_iadd hx hb dX12_findPeriod_139 ?_
  refine z_i (v := 19) (by decide +kernel) ?_
  refine r_iald C w 0 rfl (IX.of (k := 19) (by decide +kernel)) (v := 0) rfl dX12_findPeriod_140 ?_
  refine lv_icmp_ne (tgt := 148) hx hb dX12_findPeriod_141 (by decide) (fun h => absurd (by decide) h) (fun _ => ?_)
  refine lv_iconst (v := 1) hx hb dX12_findPeriod_144 (by decide) ?_
  refine lv_goto (tgt := 149) hx hb dX12_findPeriod_145 (by decide) ?_
  refine lv_istore_n (lv' := [(3, .int 1), (4, .int 3), (2, .int 0), (1, .int 1), (0, .ref q0)]) hx hb dX12_findPeriod_149 rfl hl (by decide) rfl (fun ls hl => ?_)
  refine lv_iinc (v := 4) (lv' := [(4, .int 4), (3, .int 1), (2, .int 0), (1, .int 1), (0, .ref q0)]) hx hb dX12_findPeriod_150 hl (k := 1) rfl (by decide +kernel) (by decide) rfl (fun ls hl => ?_)
  refine lv_goto (tgt := 106) hx hb dX12_findPeriod_153 (by decide) ?_
  refine lv_iload hx hb dX12_findPeriod_106 (lv_at hl 0 rfl) ?_
  refine lv_bipush (v := 16) hx hb dX12_findPeriod_108 (by decide) ?_
  refine lv_icmp_ge (tgt := 156) hx hb dX12_findPeriod_110 (by decide) (fun h => absurd h (by decide)) (fun _ => ?_)
  refine lv_iload_n hx hb dX12_findPeriod_113 rfl (lv_at hl 1 rfl) ?_
  refine lv_if_eq (tgt := 156) hx hb dX12_findPeriod_114 (by decide) (fun h => absurd h (by decide)) (fun _ => ?_)
  refine lv_aload_n hx hb dX12_findPeriod_117 rfl (lv_at hl 4 rfl) ?_
  refine r_get C w 6 rfl fr_X12_130 rfl dX12_findPeriod_118 ?_
  refine lv_bipush (v := 16) hx hb dX12_findPeriod_121 (by decide) ?_
  refine lv_iload_n hx hb dX12_findPeriod_123 rfl (lv_at hl 2 rfl) ?_
  refine lv_imul hx hb dX12_findPeriod_124 ?_
  refine z_i (v := 0) (by decide +kernel) ?_
  refine lv_iload hx hb dX12_findPeriod_125 (lv_at hl 0 rfl) ?_
  refine lv_iadd hx hb dX12_findPeriod_127 ?_
  refine z_i (v := 4) (by decide +kernel) ?_
  refine r_iald C w 0 rfl (IX.of (k := 4) (by decide +kernel)) (v := 0) rfl dX12_findPeriod_128 ?_
  refine lv_aload_n hx hb dX12_findPeriod_129 rfl (lv_at hl 4 rfl) ?_
  refine r_get C w 6 rfl fr_X12_130 rfl dX12_findPeriod_130 ?_
  refine lv_bipush (v := 16) hx hb dX12_findPeriod_133 (by decide) ?_
  refine lv_iload_n hx hb dX12_findPeriod_135 rfl (lv_at hl 3 rfl) ?_
  refine lv_imul hx hb dX12_findPeriod_136 ?_
  refine z_i (v := 16) (by decide +kernel) ?_
  refine lv_iload hx hb dX12_findPeriod_137 (lv_at hl 0 rfl) ?_
  refine lv_iadd hx hb dX12_findPeriod_139 ?_
  refine z_i (v := 20) (by decide +kernel) ?_
  refine r_iald C w 0 rfl (IX.of (k := 20) (by decide +kernel)) (v := 0) rfl dX12_findPeriod_140 ?_
  refine lv_icmp_ne (tgt := 148) hx hb dX12_findPeriod_141 (by decide) (fun h => absurd (by decide) h) (fun _ => ?_)
  refine lv_iconst (v := 1) hx hb dX12_findPeriod_144 (by decide) ?_
  refine lv_goto (tgt := 149) hx hb dX12_findPeriod_145 (by decide) ?_
  refine lv_istore_n (lv' := [(3, .int 1), (4, .int 4), (2, .int 0), (1, .int 1), (0, .ref q0)]) hx hb dX12_findPeriod_149 rfl hl (by decide) rfl (fun ls hl => ?_)
  refine lv_iinc (v := 5) (lv' := [(4, .int 5), (3, .int 1), (2, .int 0), (1, .int 1), (0, .ref q0)]) hx hb dX12_findPeriod_150 hl (k := 1) rfl (by decide +kernel) (by decide) rfl (fun ls hl => ?_)
  refine lv_goto (tgt := 106) hx hb dX12_findPeriod_153 (by decide) ?_
  refine lv_iload hx hb dX12_findPeriod_106 (lv_at hl 0 rfl) ?_
  refine lv_bipush (v := 16) hx hb dX12_findPeriod_108 (by decide) ?_
  refine lv_icmp_ge (tgt := 156) hx hb dX12_findPeriod_110 (by decide) (fun h => absurd h (by decide)) (fun _ => ?_)
  refine lv_iload_n hx hb dX12_findPeriod_113 rfl (lv_at hl 1 rfl) ?_
  refine lv_if_eq (tgt := 156) hx hb dX12_findPeriod_114 (by decide) (fun h => absurd h (by decide)) (fun _ => ?_)
  refine lv_aload_n hx hb dX12_findPeriod_117 rfl (lv_at hl 4 rfl) ?_
  refine r_get C w 6 rfl fr_X12_130 rfl dX12_findPeriod_118 ?_
  refine lv_bipush (v := 16) hx hb dX12_findPeriod_121 (by decide) ?_
  refine lv_iload_n hx hb dX12_findPeriod_123 rfl (lv_at hl 2 rfl) ?_
  refine lv_imul hx hb dX12_findPeriod_124 ?_
  refine z_i (v := 0) (by decide +kernel) ?_
  refine lv_iload hx hb dX12_findPeriod_125 (lv_at hl 0 rfl) ?_
  refine lv_iadd hx hb dX12_findPeriod_127 ?_
  refine z_i (v := 5) (by decide +kernel) ?_
  refine r_iald C w 0 rfl (IX.of (k := 5) (by decide +kernel)) (v := 0) rfl dX12_findPeriod_128 ?_
  refine lv_aload_n hx hb dX12_findPeriod_129 rfl (lv_at hl 4 rfl) ?_
  refine r_get C w 6 rfl fr_X12_130 rfl dX12_findPeriod_130 ?_
  refine lv_bipush (v := 16) hx hb dX12_findPeriod_133 (by decide) ?_
  refine lv_iload_n hx hb dX12_findPeriod_135 rfl (lv_at hl 3 rfl) ?_
  refine lv_imul hx hb dX12_findPeriod_136 ?_
  refine z_i (v := 16) (by decide +kernel) ?_
  refine lv_iload hx hb dX12_findPeriod_137 (lv_at hl 0 rfl) ?_
  refine lv_iadd hx hb dX12_findPeriod_139 ?_
  refine z_i (v := 21) (by decide +kernel) ?_
  refine r_iald C w 0 rfl (IX.of (k := 21) (by decide +kernel)) (v := 0) rfl dX12_findPeriod_140 ?_
  refine lv_icmp_ne (tgt := 148) hx hb dX12_findPeriod_141 (by decide) (fun h => absurd (by decide) h) (fun _ => ?_)
  refine lv_iconst (v := 1) hx hb dX12_findPeriod_144 (by decide) ?_
  refine lv_goto (tgt := 149) hx hb dX12_findPeriod_145 (by decide) ?_
  refine lv_istore_n (lv' := [(3, .int 1), (4, .int 5), (2, .int 0), (1, .int 1), (0, .ref q0)]) hx hb dX12_findPeriod_149 rfl hl (by decide) rfl (fun ls hl => ?_)
  refine lv_iinc (v := 6) (lv' := [(4, .int 6), (3, .int 1), (2, .int 0), (1, .int 1), (0, .ref q0)]) hx hb dX12_findPeriod_150 hl (k := 1) rfl (by decide +kernel) (by decide) rfl (fun ls hl => ?_)
  refine lv_goto (tgt := 106) hx hb dX12_findPeriod_153 (by decide) ?_
  refine lv_iload hx hb dX12_findPeriod_106 (lv_at hl 0 rfl) ?_
  refine lv_bipush (v := 16) hx hb dX12_findPeriod_108 (by decide) ?_
  refine lv_icmp_ge (tgt := 156) hx hb dX12_findPeriod_110 (by decide) (fun h => absurd h (by decide)) (fun _ => ?_)
  refine lv_iload_n hx hb dX12_findPeriod_113 rfl (lv_at hl 1 rfl) ?_
  refine lv_if_eq (tgt := 156) hx hb dX12_findPeriod_114 (by decide) (fun h => absurd h (by decide)) (fun _ => ?_)
  refine lv_aload_n hx hb dX12_findPeriod_117 rfl (lv_at hl 4 rfl) ?_
  refine r_get C w 6 rfl fr_X12_130 rfl dX12_findPeriod_118 ?_
  refine lv_bipush (v := 16) hx hb dX12_findPeriod_121 (by decide) ?_
  refine lv_iload_n hx hb dX12_findPeriod_123 rfl (lv_at hl 2 rfl) ?_
  refine lv_imul hx hb dX12_findPeriod_124 ?_
  refine z_i (v := 0) (by decide +kernel) ?_
  refine lv_iload hx hb dX12_findPeriod_125 (lv_at hl 0 rfl) ?_
  refine lv_iadd hx hb dX12_findPeriod_127 ?_
  refine z_i (v := 6) (by decide +kernel) ?_
  refine r_iald C w 0 rfl (IX.of (k := 6) (by decide +kernel)) (v := 0) rfl dX12_findPeriod_128 ?_
  refine lv_aload_n hx hb dX12_findPeriod_129 rfl (lv_at hl 4 rfl) ?_
  refine r_get C w 6 rfl fr_X12_130 rfl dX12_findPeriod_130 ?_
  refine lv_bipush (v := 16) hx hb dX12_findPeriod_133 (by decide) ?_
  refine lv_iload_n hx hb dX12_findPeriod_135 rfl (lv_at hl 3 rfl) ?_
  refine lv_imul hx hb dX12_findPeriod_136 ?_
  refine z_i (v := 16) (by decide +kernel) ?_
  refine lv_iload hx hb dX12_findPeriod_137 (lv_at hl 0 rfl) ?_
  refine lv_iadd hx hb dX12_findPeriod_139 ?_
  refine z_i (v := 22) (by decide +kernel) ?_
  refine r_iald C w 0 rfl (IX.of (k := 22) (by decide +kernel)) (v := 0) rfl dX12_findPeriod_140 ?_
  refine lv_icmp_ne (tgt := 148) hx hb dX12_findPeriod_141 (by decide) (fun h => absurd (by decide) h) (fun _ => ?_)
  refine lv_iconst (v := 1) hx hb dX12_findPeriod_144 (by decide) ?_
  refine lv_goto (tgt := 149) hx hb dX12_findPeriod_145 (by decide) ?_
  refine lv_istore_n (lv' := [(3, .int 1), (4, .int 6), (2, .int 0), (1, .int 1), (0, .ref q0)]) hx hb dX12_findPeriod_149 rfl hl (by decide) rfl (fun ls hl => ?_)
  refine lv_iinc (v := 7) (lv' := [(4, .int 7), (3, .int 1), (2, .int 0), (1, .int 1), (0, .ref q0)]) hx hb dX12_findPeriod_150 hl (k := 1) rfl (by decide +kernel) (by decide) rfl (fun ls hl => ?_)
  refine lv_goto (tgt := 106) hx hb dX12_findPeriod_153 (by decide) ?_
  refine lv_iload hx hb dX12_findPeriod_106 (lv_at hl 0 rfl) ?_
  refine lv_bipush (v := 16) hx hb dX12_findPeriod_108 (by decide) ?_
  refine lv_icmp_ge (tgt := 156) hx hb dX12_findPeriod_110 (by decide) (fun h => absurd h (by decide)) (fun _ => ?_)
  refine lv_iload_n hx hb dX12_findPeriod_113 rfl (lv_at hl 1 rfl) ?_
  refine lv_if_eq (tgt := 156) hx hb dX12_findPeriod_114 (by decide) (fun h => absurd h (by decide)) (fun _ => ?_)
  refine lv_aload_n hx hb dX12_findPeriod_117 rfl (lv_at hl 4 rfl) ?_
  refine r_get C w 6 rfl fr_X12_130 rfl dX12_findPeriod_118 ?_
  refine lv_bipush (v := 16) hx hb dX12_findPeriod_121 (by decide) ?_
  refine lv_iload_n hx hb dX12_findPeriod_123 rfl (lv_at hl 2 rfl) ?_
  refine lv_imul hx hb dX12_findPeriod_124 ?_
  refine z_i (v := 0) (by decide +kernel) ?_
  refine lv_iload hx hb dX12_findPeriod_125 (lv_at hl 0 rfl) ?_
  refine lv_iadd hx hb dX12_findPeriod_127 ?_
  refine z_i (v := 7) (by decide +kernel) ?_
  refine r_iald C w 0 rfl (IX.of (k := 7) (by decide +kernel)) (v := 0) rfl dX12_findPeriod_128 ?_
  refine lv_aload_n hx hb dX12_findPeriod_129 rfl (lv_at hl 4 rfl) ?_
  refine r_get C w 6 rfl fr_X12_130 rfl dX12_findPeriod_130 ?_
  refine lv_bipush (v := 16) hx hb dX12_findPeriod_133 (by decide) ?_
  refine lv_iload_n hx hb dX12_findPeriod_135 rfl (lv_at hl 3 rfl) ?_
  refine lv_imul hx hb dX12_findPeriod_136 ?_
  refine z_i (v := 16) (by decide +kernel) ?_
  refine lv_iload hx hb dX12_findPeriod_137 (lv_at hl 0 rfl) ?_
  refine lv_iadd hx hb dX12_findPeriod_139 ?_
  refine z_i (v := 23) (by decide +kernel) ?_
  refine r_iald C w 0 rfl (IX.of (k := 23) (by decide +kernel)) (v := 0) rfl dX12_findPeriod_140 ?_
  refine lv_icmp_ne (tgt := 148) hx hb dX12_findPeriod_141 (by decide) (fun h => absurd (by decide) h) (fun _ => ?_)
  refine lv_iconst (v := 1) hx hb dX12_findPeriod_144 (by decide) ?_
  refine lv_goto (tgt := 149) hx hb dX12_findPeriod_145 (by decide) ?_
  refine lv_istore_n (lv' := [(3, .int 1), (4, .int 7), (2, .int 0), (1, .int 1), (0, .ref q0)]) hx hb dX12_findPeriod_149 rfl hl (by decide) rfl (fun ls hl => ?_)
  refine lv_iinc (v := 8) (lv' := [(4, .int 8), (3, .int 1), (2, .int 0), (1, .int 1), (0, .ref q0)]) hx hb dX12_findPeriod_150 hl (k := 1) rfl (by decide +kernel) (by decide) rfl (fun ls hl => ?_)
  refine lv_goto (tgt := 106) hx hb dX12_findPeriod_153 (by decide) ?_
  refine lv_iload hx hb dX12_findPeriod_106 (lv_at hl 0 rfl) ?_
  refine lv_bipush (v := 16) hx hb dX12_findPeriod_108 (by decide) ?_
  refine lv_icmp_ge (tgt := 156) hx hb dX12_findPeriod_110 (by decide) (fun h => absurd h (by decide)) (fun _ => ?_)
  refine lv_iload_n hx hb dX12_findPeriod_113 rfl (lv_at hl 1 rfl) ?_
  refine lv_if_eq (tgt := 156) hx hb dX12_findPeriod_114 (by decide) (fun h => absurd h (by decide)) (fun _ => ?_)
  refine lv_aload_n hx hb dX12_findPeriod_117 rfl (lv_at hl 4 rfl) ?_
  refine r_get C w 6 rfl fr_X12_130 rfl dX12_findPeriod_118 ?_
  refine lv_bipush (v := 16) hx hb dX12_findPeriod_121 (by decide) ?_
  refine lv_iload_n hx hb dX12_findPeriod_123 rfl (lv_at hl 2 rfl) ?_
  refine lv_imul hx hb dX12_findPeriod_124 ?_
  refine z_i (v := 0) (by decide +kernel) ?_
  refine lv_iload hx hb dX12_findPeriod_125 (lv_at hl 0 rfl) ?_
  refine lv_iadd hx hb dX12_findPeriod_127 ?_
  refine z_i (v := 8) (by decide +kernel) ?_
  refine r_iald C w 0 rfl (IX.of (k := 8) (by decide +kernel)) (v := 0) rfl dX12_findPeriod_128 ?_
  refine lv_aload_n hx hb dX12_findPeriod_129 rfl (lv_at hl 4 rfl) ?_
  refine r_get C w 6 rfl fr_X12_130 rfl dX12_findPeriod_130 ?_
  refine lv_bipush (v := 16) hx hb dX12_findPeriod_133 (by decide) ?_
  refine lv_iload_n hx hb dX12_findPeriod_135 rfl (lv_at hl 3 rfl) ?_
  refine lv_imul hx hb dX12_findPeriod_136 ?_
  refine z_i (v := 16) (by decide +kernel) ?_
  refine lv_iload hx hb dX12_findPeriod_137 (lv_at hl 0 rfl) ?_
  refine lv_iadd hx hb dX12_findPeriod_139 ?_
  refine z_i (v := 24) (by decide +kernel) ?_
  refine r_iald C w 0 rfl (IX.of (k := 24) (by decide +kernel)) (v := 0) rfl dX12_findPeriod_140 ?_
  refine lv_icmp_ne (tgt := 148) hx hb dX12_findPeriod_141 (by decide) (fun h => absurd (by decide) h) (fun _ => ?_)
  refine lv_iconst (v := 1) hx hb dX12_findPeriod_144 (by decide) ?_
  refine lv_goto (tgt := 149) hx hb dX12_findPeriod_145 (by decide) ?_
  refine lv_istore_n (lv' := [(3, .int 1), (4, .int 8), (2, .int 0), (1, .int 1), (0, .ref q0)]) hx hb dX12_findPeriod_149 rfl hl (by decide) rfl (fun ls hl => ?_)
  refine lv_iinc (v := 9) (lv' := [(4, .int 9), (3, .int 1), (2, .int 0), (1, .int 1), (0, .ref q0)]) hx hb dX12_findPeriod_150 hl (k := 1) rfl (by decide +kernel) (by decide) rfl (fun ls hl => ?_)
  refine lv_goto (tgt := 106) hx hb dX12_findPeriod_153 (by decide) ?_
  refine lv_iload hx hb dX12_findPeriod_106 (lv_at hl 0 rfl) ?_
  refine lv_bipush (v := 16) hx hb dX12_findPeriod_108 (by decide) ?_
  refine lv_icmp_ge (tgt := 156) hx hb dX12_findPeriod_110 (by decide) (fun h => absurd h (by decide)) (fun _ => ?_)
  refine lv_iload_n hx hb dX12_findPeriod_113 rfl (lv_at hl 1 rfl) ?_
  refine lv_if_eq (tgt := 156) hx hb dX12_findPeriod_114 (by decide) (fun h => absurd h (by decide)) (fun _ => ?_)
  refine lv_aload_n hx hb dX12_findPeriod_117 rfl (lv_at hl 4 rfl) ?_
  refine r_get C w 6 rfl fr_X12_130 rfl dX12_findPeriod_118 ?_
  refine lv_bipush (v := 16) hx hb dX12_findPeriod_121 (by decide) ?_
  refine lv_iload_n hx hb dX12_findPeriod_123 rfl (lv_at hl 2 rfl) ?_
  refine lv_imul hx hb dX12_findPeriod_124 ?_
  refine z_i (v := 0) (by decide +kernel) ?_
  refine lv_iload hx hb dX12_findPeriod_125 (lv_at hl 0 rfl) ?_
  refine lv_iadd hx hb dX12_findPeriod_127 ?_
  refine z_i (v := 9) (by decide +kernel) ?_
  refine r_iald C w 0 rfl (IX.of (k := 9) (by decide +kernel)) (v := 0) rfl dX12_findPeriod_128 ?_
  refine lv_aload_n hx hb dX12_findPeriod_129 rfl (lv_at hl 4 rfl) ?_
  refine r_get C w 6 rfl fr_X12_130 rfl dX12_findPeriod_130 ?_
  refine lv_bipush (v := 16) hx hb dX12_findPeriod_133 (by decide) ?_
  refine lv_iload_n hx hb dX12_findPeriod_135 rfl (lv_at hl 3 rfl) ?_
  refine lv_imul hx hb dX12_findPeriod_136 ?_
  refine z_i (v := 16) (by decide +kernel) ?_
  refine lv_iload hx hb dX12_findPeriod_137 (lv_at hl 0 rfl) ?_
  refine lv_iadd hx hb dX12_findPeriod_139 ?_
  refine z_i (v := 25) (by decide +kernel) ?_
  refine r_iald C w 0 rfl (IX.of (k := 25) (by decide +kernel)) (v := 0) rfl dX12_findPeriod_140 ?_
  refine lv_icmp_ne (tgt := 148) hx hb dX12_findPeriod_141 (by decide) (fun h => absurd (by decide) h) (fun _ => ?_)
  refine lv_iconst (v := 1) hx hb dX12_findPeriod_144 (by decide) ?_
  refine lv_goto (tgt := 149) hx hb dX12_findPeriod_145 (by decide) ?_
  refine lv_istore_n (lv' := [(3, .int 1), (4, .int 9), (2, .int 0), (1, .int 1), (0, .ref q0)]) hx hb dX12_findPeriod_149 rfl hl (by decide) rfl (fun ls hl => ?_)
  refine lv_iinc (v := 10) (lv' := [(4, .int 10), (3, .int 1), (2, .int 0), (1, .int 1), (0, .ref q0)]) hx hb dX12_findPeriod_150 hl (k := 1) rfl (by decide +kernel) (by decide) rfl (fun ls hl => ?_)
  refine lv_goto (tgt := 106) hx hb dX12_findPeriod_153 (by decide) ?_
  refine lv_iload hx hb dX12_findPeriod_106 (lv_at hl 0 rfl) ?_
  refine lv_bipush (v := 16) hx hb dX12_findPeriod_108 (by decide) ?_
  refine lv_icmp_ge (tgt := 156) hx hb dX12_findPeriod_110 (by decide) (fun h => absurd h (by decide)) (fun _ => ?_)
  refine lv_iload_n hx hb dX12_findPeriod_113 rfl (lv_at hl 1 rfl) ?_
  refine lv_if_eq (tgt := 156) hx hb dX12_findPeriod_114 (by decide) (fun h => absurd h (by decide)) (fun _ => ?_)
  refine lv_aload_n hx hb dX12_findPeriod_117 rfl (lv_at hl 4 rfl) ?_
  refine r_get C w 6 rfl fr_X12_130 rfl dX12_findPeriod_118 ?_
  refine lv_bipush (v := 16) hx hb dX12_findPeriod_121 (by decide) ?_
  refine lv_iload_n hx hb dX12_findPeriod_123 rfl (lv_at hl 2 rfl) ?_
  refine lv_imul hx hb dX12_findPeriod_124 ?_
  refine z_i (v := 0) (by decide +kernel) ?_
  refine lv_iload hx hb dX12_findPeriod_125 (lv_at hl 0 rfl) ?_
  refine lv_iadd hx hb dX12_findPeriod_127 ?_
  refine z_i (v := 10) (by decide +kernel) ?_
  refine r_iald C w 0 rfl (IX.of (k := 10) (by decide +kernel)) (v := 0) rfl dX12_findPeriod_128 ?_
  refine lv_aload_n hx hb dX12_findPeriod_129 rfl (lv_at hl 4 rfl) ?_
  refine r_get C w 6 rfl fr_X12_130 rfl dX12_findPeriod_130 ?_
  refine lv_bipush (v := 16) hx hb dX12_findPeriod_133 (by decide) ?_
  refine lv_iload_n hx hb dX12_findPeriod_135 rfl (lv_at hl 3 rfl) ?_
  refine lv_imul hx hb dX12_findPeriod_136 ?_
  refine z_i (v := 16) (by decide +kernel) ?_
  refine lv_iload hx hb dX12_findPeriod_137 (lv_at hl 0 rfl) ?_
  refine lv_iadd hx hb dX12_findPeriod_139 ?_
  refine z_i (v := 26) (by decide +kernel) ?_
  refine r_iald C w 0 rfl (IX.of (k := 26) (by decide +kernel)) (v := 0) rfl dX12_findPeriod_140 ?_
  refine lv_icmp_ne (tgt := 148) hx hb dX12_findPeriod_141 (by decide) (fun h => absurd (by decide) h) (fun _ => ?_)
  refine lv_iconst (v := 1) hx hb dX12_findPeriod_144 (by decide) ?_
  refine lv_goto (tgt := 149) hx hb dX12_findPeriod_145 (by decide) ?_
  refine lv_istore_n (lv' := [(3, .int 1), (4, .int 10), (2, .int 0), (1, .int 1), (0, .ref q0)]) hx hb dX12_findPeriod_149 rfl hl (by decide) rfl (fun ls hl => ?_)
  refine lv_iinc (v := 11) (lv' := [(4, .int 11), (3, .int 1), (2, .int 0), (1, .int 1), (0, .ref q0)]) hx hb dX12_findPeriod_150 hl (k := 1) rfl (by decide +kernel) (by decide) rfl (fun ls hl => ?_)
  refine lv_goto (tgt := 106) hx hb dX12_findPeriod_153 (by decide) ?_
  refine lv_iload hx hb dX12_findPeriod_106 (lv_at hl 0 rfl) ?_
  refine lv_bipush (v := 16) hx hb dX12_findPeriod_108 (by decide) ?_
  refine lv_icmp_ge (tgt := 156) hx hb dX12_findPeriod_110 (by decide) (fun h => absurd h (by decide)) (fun _ => ?_)
  refine lv_iload_n hx hb dX12_findPeriod_113 rfl (lv_at hl 1 rfl) ?_
  refine lv_if_eq (tgt := 156) hx hb dX12_findPeriod_114 (by decide) (fun h => absurd h (by decide)) (fun _ => ?_)
  refine lv_aload_n hx hb dX12_findPeriod_117 rfl (lv_at hl 4 rfl) ?_
  refine r_get C w 6 rfl fr_X12_130 rfl dX12_findPeriod_118 ?_
  refine lv_bipush (v := 16) hx hb dX12_findPeriod_121 (by decide) ?_
  refine lv_iload_n hx hb dX12_findPeriod_123 rfl (lv_at hl 2 rfl) ?_
  refine lv_imul hx hb dX12_findPeriod_124 ?_
  refine z_i (v := 0) (by decide +kernel) ?_
  refine lv_iload hx hb dX12_findPeriod_125 (lv_at hl 0 rfl) ?_
  refine lv_iadd hx hb dX12_findPeriod_127 ?_
  refine z_i (v := 11) (by decide +kernel) ?_
  refine r_iald C w 0 rfl (IX.of (k := 11) (by decide +kernel)) (v := 0) rfl dX12_findPeriod_128 ?_
  refine lv_aload_n hx hb dX12_findPeriod_129 rfl (lv_at hl 4 rfl) ?_
  refine r_get C w 6 rfl fr_X12_130 rfl dX12_findPeriod_130 ?_
  refine lv_bipush (v := 16) hx hb dX12_findPeriod_133 (by decide) ?_
  refine lv_iload_n hx hb dX12_findPeriod_135 rfl (lv_at hl 3 rfl) ?_
  refine lv_imul hx hb dX12_findPeriod_136 ?_
  refine z_i (v := 16) (by decide +kernel) ?_
  refine lv_iload hx hb dX12_findPeriod_137 (lv_at hl 0 rfl) ?_
  refine lv_iadd hx hb dX12_findPeriod_139 ?_
  refine z_i (v := 27) (by decide +kernel) ?_
  refine r_iald C w 0 rfl (IX.of (k := 27) (by decide +kernel)) (v := 0) rfl dX12_findPeriod_140 ?_
  refine lv_icmp_ne (tgt := 148) hx hb dX12_findPeriod_141 (by decide) (fun h => absurd (by decide) h) (fun _ => ?_)
  refine lv_iconst (v := 1) hx hb dX12_findPeriod_144 (by decide) ?_
  refine lv_goto (tgt := 149) hx hb dX12_findPeriod_145 (by decide) ?_
  refine lv_istore_n (lv' := [(3, .int 1), (4, .int 11), (2, .int 0), (1, .int 1), (0, .ref q0)]) hx hb dX12_findPeriod_149 rfl hl (by decide) rfl (fun ls hl => ?_)
  refine lv_iinc (v := 12) (lv' := [(4, .int 12), (3, .int 1), (2, .int 0), (1, .int 1), (0, .ref q0)]) hx hb dX12_findPeriod_150 hl (k := 1) rfl (by decide +kernel) (by decide) rfl (fun ls hl => ?_)
  refine lv_goto (tgt := 106) hx hb dX12_findPeriod_153 (by decide) ?_
  refine lv_iload hx hb dX12_findPeriod_106 (lv_at hl 0 rfl) ?_
  refine lv_bipush (v := 16) hx hb dX12_findPeriod_108 (by decide) ?_
  refine lv_icmp_ge (tgt := 156) hx hb dX12_findPeriod_110 (by decide) (fun h => absurd h (by decide)) (fun _ => ?_)
  refine lv_iload_n hx hb dX12_findPeriod_113 rfl (lv_at hl 1 rfl) ?_
  refine lv_if_eq (tgt := 156) hx hb dX12_findPeriod_114 (by decide) (fun h => absurd h (by decide)) (fun _ => ?_)
  refine lv_aload_n hx hb dX12_findPeriod_117 rfl (lv_at hl 4 rfl) ?_
  refine r_get C w 6 rfl fr_X12_130 rfl dX12_findPeriod_118 ?_
  refine lv_bipush (v := 16) hx hb dX12_findPeriod_121 (by decide) ?_
  refine lv_iload_n hx hb dX12_findPeriod_123 rfl (lv_at hl 2 rfl) ?_
  refine lv_imul hx hb dX12_findPeriod_124 ?_
  refine z_i (v := 0) (by decide +kernel) ?_
  refine lv_iload hx hb dX12_findPeriod_125 (lv_at hl 0 rfl) ?_
  refine lv_iadd hx hb dX12_findPeriod_127 ?_
  refine z_i (v := 12) (by decide +kernel) ?_
  refine r_iald C w 0 rfl (IX.of (k := 12) (by decide +kernel)) (v := 0) rfl dX12_findPeriod_128 ?_
  refine lv_aload_n hx hb dX12_findPeriod_129 rfl (lv_at hl 4 rfl) ?_
  refine r_get C w 6 rfl fr_X12_130 rfl dX12_findPeriod_130 ?_
  refine lv_bipush (v := 16) hx hb dX12_findPeriod_133 (by decide) ?_
  refine lv_iload_n hx hb dX12_findPeriod_135 rfl (lv_at hl 3 rfl) ?_
  refine lv_imul hx hb dX12_findPeriod_136 ?_
  refine z_i (v := 16) (by decide +kernel) ?_
  refine lv_iload hx hb dX12_findPeriod_137 (lv_at hl 0 rfl) ?_
  refine lv_iadd hx hb dX12_findPeriod_139 ?_
  refine z_i (v := 28) (by decide +kernel) ?_
  refine r_iald C w 0 rfl (IX.of (k := 28) (by decide +kernel)) (v := 0) rfl dX12_findPeriod_140 ?_
  refine lv_icmp_ne (tgt := 148) hx hb dX12_findPeriod_141 (by decide) (fun h => absurd (by decide) h) (fun _ => ?_)
  refine lv_iconst (v := 1) hx hb dX12_findPeriod_144 (by decide) ?_
  refine lv_goto (tgt := 149) hx hb dX12_findPeriod_145 (by decide) ?_
  refine lv_istore_n (lv' := [(3, .int 1), (4, .int 12), (2, .int 0), (1, .int 1), (0, .ref q0)]) hx hb dX12_findPeriod_149 rfl hl (by decide) rfl (fun ls hl => ?_)
  refine lv_iinc (v := 13) (lv' := [(4, .int 13), (3, .int 1), (2, .int 0), (1, .int 1), (0, .ref q0)]) hx hb dX12_findPeriod_150 hl (k := 1) rfl (by decide +kernel) (by decide) rfl (fun ls hl => ?_)
  refine lv_goto (tgt := 106) hx hb dX12_findPeriod_153 (by decide) ?_
  refine lv_iload hx hb dX12_findPeriod_106 (lv_at hl 0 rfl) ?_
  refine lv_bipush (v := 16) hx hb dX12_findPeriod_108 (by decide) ?_
  refine lv_icmp_ge (tgt := 156) hx hb dX12_findPeriod_110 (by decide) (fun h => absurd h (by decide)) (fun _ => ?_)
  refine lv_iload_n hx hb dX12_findPeriod_113 rfl (lv_at hl 1 rfl) ?_
  refine lv_if_eq (tgt := 156) hx hb dX12_findPeriod_114 (by decide) (fun h => absurd h (by decide)) (fun _ => ?_)
  refine lv_aload_n hx hb dX12_findPeriod_117 rfl (lv_at hl 4 rfl) ?_
  refine r_get C w 6 rfl fr_X12_130 rfl dX12_findPeriod_118 ?_
  refine lv_bipush (v := 16) hx hb dX12_findPeriod_121 (by decide) ?_
  refine lv_iload_n hx hb dX12_findPeriod_123 rfl (lv_at hl 2 rfl) ?_
  refine lv_imul hx hb dX12_findPeriod_124 ?_
  refine z_i (v := 0) (by decide +kernel) ?_
  refine lv_iload hx hb dX12_findPeriod_125 (lv_at hl 0 rfl) ?_
  refine lv_iadd hx hb dX12_findPeriod_127 ?_
  refine z_i (v := 13) (by decide +kernel) ?_
  refine r_iald C w 0 rfl (IX.of (k := 13) (by decide +kernel)) (v := 0) rfl dX12_findPeriod_128 ?_
  refine lv_aload_n hx hb dX12_findPeriod_129 rfl (lv_at hl 4 rfl) ?_
  refine r_get C w 6 rfl fr_X12_130 rfl dX12_findPeriod_130 ?_
  refine lv_bipush (v := 16) hx hb dX12_findPeriod_133 (by decide) ?_
  refine lv_iload_n hx hb dX12_findPeriod_135 rfl (lv_at hl 3 rfl) ?_
  refine lv_imul hx hb dX12_findPeriod_136 ?_
  refine z_i (v := 16) (by decide +kernel) ?_
  refine lv_iload hx hb dX12_findPeriod_137 (lv_at hl 0 rfl) ?_
  refine lv_iadd hx hb dX12_findPeriod_139 ?_
  refine z_i (v := 29) (by decide +kernel) ?_
  refine r_iald C w 0 rfl (IX.of (k := 29) (by decide +kernel)) (v := 0) rfl dX12_findPeriod_140 ?_
  refine lv_icmp_ne (tgt := 148) hx hb dX12_findPeriod_141 (by decide) (fun h => absurd (by decide) h) (fun _ => ?_)
  refine lv_iconst (v := 1) hx hb dX12_findPeriod_144 (by decide) ?_
  refine lv_goto (tgt := 149) hx hb dX12_findPeriod_145 (by decide) ?_
  refine lv_istore_n (lv' := [(3, .int 1), (4, .int 13), (2, .int 0), (1, .int 1), (0, .ref q0)]) hx hb dX12_findPeriod_149 rfl hl (by decide) rfl (fun ls hl => ?_)
  refine lv_iinc (v := 14) (lv' := [(4, .int 14), (3, .int 1), (2, .int 0), (1, .int 1), (0, .ref q0)]) hx hb dX12_findPeriod_150 hl (k := 1) rfl (by decide +kernel) (by decide) rfl (fun ls hl => ?_)
  refine lv_goto (tgt := 106) hx hb dX12_findPeriod_153 (by decide) ?_
  refine lv_iload hx hb dX12_findPeriod_106 (lv_at hl 0 rfl) ?_
  refine lv_bipush (v := 16) hx hb dX12_findPeriod_108 (by decide) ?_
  refine lv_icmp_ge (tgt := 156) hx hb dX12_findPeriod_110 (by decide) (fun h => absurd h (by decide)) (fun _ => ?_)
  refine lv_iload_n hx hb dX12_findPeriod_113 rfl (lv_at hl 1 rfl) ?_
  refine lv_if_eq (tgt := 156) hx hb dX12_findPeriod_114 (by decide) (fun h => absurd h (by decide)) (fun _ => ?_)
  refine lv_aload_n hx hb dX12_findPeriod_117 rfl (lv_at hl 4 rfl) ?_
  refine r_get C w 6 rfl fr_X12_130 rfl dX12_findPeriod_118 ?_
  refine lv_bipush (v := 16) hx hb dX12_findPeriod_121 (by decide) ?_
  refine lv_iload_n hx hb dX12_findPeriod_123 rfl (lv_at hl 2 rfl) ?_
  refine lv_imul hx hb dX12_findPeriod_124 ?_
  refine z_i (v := 0) (by decide +kernel) ?_
  refine lv_iload hx hb dX12_findPeriod_125 (lv_at hl 0 rfl) ?_
  refine lv_iadd hx hb dX12_findPeriod_127 ?_
  refine z_i (v := 14) (by decide +kernel) ?_
  refine r_iald C w 0 rfl (IX.of (k := 14) (by decide +kernel)) (v := 0) rfl dX12_findPeriod_128 ?_
  refine lv_aload_n hx hb dX12_findPeriod_129 rfl (lv_at hl 4 rfl) ?_
  refine r_get C w 6 rfl fr_X12_130 rfl dX12_findPeriod_130 ?_
  refine lv_bipush (v := 16) hx hb dX12_findPeriod_133 (by decide) ?_
  refine lv_iload_n hx hb dX12_findPeriod_135 rfl (lv_at hl 3 rfl) ?_
  refine lv_imul hx hb dX12_findPeriod_136 ?_
  refine z_i (v := 16) (by decide +kernel) ?_
  refine lv_iload hx hb dX12_findPeriod_137 (lv_at hl 0 rfl) ?_
  refine lv_iadd hx hb dX12_findPeriod_139 ?_
  refine z_i (v := 30) (by decide +kernel) ?_
  refine r_iald C w 0 rfl (IX.of (k := 30) (by decide +kernel)) (v := 0) rfl dX12_findPeriod_140 ?_
  refine lv_icmp_ne (tgt := 148) hx hb dX12_findPeriod_141 (by decide) (fun h => absurd (by decide) h) (fun _ => ?_)
  refine lv_iconst (v := 1) hx hb dX12_findPeriod_144 (by decide) ?_
  refine lv_goto (tgt := 149) hx hb dX12_findPeriod_145 (by decide) ?_
  refine lv_istore_n (lv' := [(3, .int 1), (4, .int 14), (2, .int 0), (1, .int 1), (0, .ref q0)]) hx hb dX12_findPeriod_149 rfl hl (by decide) rfl (fun ls hl => ?_)
  refine lv_iinc (v := 15) (lv' := [(4, .int 15), (3, .int 1), (2, .int 0), (1, .int 1), (0, .ref q0)]) hx hb dX12_findPeriod_150 hl (k := 1) rfl (by decide +kernel) (by decide) rfl (fun ls hl => ?_)
  refine lv_goto (tgt := 106) hx hb dX12_findPeriod_153 (by decide) ?_
  refine lv_iload hx hb dX12_findPeriod_106 (lv_at hl 0 rfl) ?_
  refine lv_bipush (v := 16) hx hb dX12_findPeriod_108 (by decide) ?_
  refine lv_icmp_ge (tgt := 156) hx hb dX12_findPeriod_110 (by decide) (fun h => absurd h (by decide)) (fun _ => ?_)
  refine lv_iload_n hx hb dX12_findPeriod_113 rfl (lv_at hl 1 rfl) ?_
  refine lv_if_eq (tgt := 156) hx hb dX12_findPeriod_114 (by decide) (fun h => absurd h (by decide)) (fun _ => ?_)
  refine lv_aload_n hx hb dX12_findPeriod_117 rfl (lv_at hl 4 rfl) ?_
  refine r_get C w 6 rfl fr_X12_130 rfl dX12_findPeriod_118 ?_
  refine lv_bipush (v := 16) hx hb dX12_findPeriod_121 (by decide) ?_
  refine lv_iload_n hx hb dX12_findPeriod_123 rfl (lv_at hl 2 rfl) ?_
  refine lv_imul hx hb dX12_findPeriod_124 ?_
  refine z_i (v := 0) (by decide +kernel) ?_
  refine lv_iload hx hb dX12_findPeriod_125 (lv_at hl 0 rfl) ?_
  refine lv_iadd hx hb dX12_findPeriod_127 ?_
  refine z_i (v := 15) (by decide +kernel) ?_
  refine r_iald C w 0 rfl (IX.of (k := 15) (by decide +kernel)) (v := 0) rfl dX12_findPeriod_128 ?_
  refine lv_aload_n hx hb dX12_findPeriod_129 rfl (lv_at hl 4 rfl) ?_
  refine r_get C w 6 rfl fr_X12_130 rfl dX12_findPeriod_130 ?_
  refine lv_bipush (v := 16) hx hb dX12_findPeriod_133 (by decide) ?_
  refine lv_iload_n hx hb dX12_findPeriod_135 rfl (lv_at hl 3 rfl) ?_
  refine lv_imul hx hb dX12_findPeriod_136 ?_
  refine z_i (v := 16) (by decide +kernel) ?_
  refine lv_iload hx hb dX12_findPeriod_137 (lv_at hl 0 rfl) ?_
  refine lv_iadd hx hb dX12_findPeriod_139 ?_
  refine z_i (v := 31) (by decide +kernel) ?_
  refine r_iald C w 0 rfl (IX.of (k := 31) (by decide +kernel)) (v := 0) rfl dX12_findPeriod_140 ?_
  refine lv_icmp_ne (tgt := 148) hx hb dX12_findPeriod_141 (by decide) (fun h => absurd (by decide) h) (fun _ => ?_)
  refine lv_iconst (v := 1) hx hb dX12_findPeriod_144 (by decide) ?_
  refine lv_goto (tgt := 149) hx hb dX12_findPeriod_145 (by decide) ?_
  refine lv_istore_n (lv' := [(3, .int 1), (4, .int 15), (2, .int 0), (1, .int 1), (0, .ref q0)]) hx hb dX12_findPeriod_149 rfl hl (by decide) rfl (fun ls hl => ?_)
  refine lv_iinc (v := 16) (lv' := [(4, .int 16), (3, .int 1), (2, .int 0), (1, .int 1), (0, .ref q0)]) hx hb dX12_findPeriod_150 hl (k := 1) rfl (by decide +kernel) (by decide) rfl (fun ls hl => ?_)
  refine lv_goto (tgt := 106) hx hb dX12_findPeriod_153 (by decide) ?_
  refine lv_iload hx hb dX12_findPeriod_106 (lv_at hl 0 rfl) ?_
  refine lv_bipush (v := 16) hx hb dX12_findPeriod_108 (by decide) ?_
  refine lv_icmp_ge (tgt := 156) hx hb dX12_findPeriod_110 (by decide) (fun _ => ?_) (fun h => absurd (by decide) h)
  refine lv_iload_n hx hb dX12_findPeriod_156 rfl (lv_at hl 1 rfl) ?_
  refine lv_if_eq (tgt := 165) hx hb dX12_findPeriod_157 (by decide) (fun h => absurd h (by decide)) (fun _ => ?_)
  refine lv_aload_n hx hb dX12_findPeriod_160 rfl (lv_at hl 4 rfl) ?_
  refine lv_iload_n hx hb dX12_findPeriod_161 rfl (lv_at hl 2 rfl) ?_
  refine r_put C w 6 rfl fl_X12_444 (Nat.le_of_ble_eq_true rfl) rfl rfl dX12_findPeriod_162 (ws2 := [(q5, .inl (G.2.1, 32016, .inl (fun _ => 0))), (q6, .inl (G.2.1, 16008, .inl (fun _ => 0))), (q1, .inl (G.2.1, 57, .inl (fun _ => 0))), (q2, .inl (G.2.1, 8, .inl (fun _ => 0))), (q3, .inl (G.2.1, 8, .inl (fun _ => 0))), (q4, .inl (G.2.1, 8, .inl (fun _ => 0))), (q0, .inr (12, [.int 0, .int 0, .int 0, .int 0, .int 0, .int 0, .int 0, .int (-1), .ref q8, .ref q7, .ref q9, .int 0, .ref q10, .ref q11, .ref q12, .ref q13, .ref q14, .ref q1, .ref q15, .int 0, .ref q2, .ref q16, .ref q17, .ref q18, .ref q19, .ref q20, .ref q21, .int 0, .int (-1), .int 0, .ref q22, .ref q23, .ref q24, .ref q25, .ref q26, .ref q27, .ref q28, .ref q29, .int 0, .ref q30, .ref q31, .ref q32, .ref q33, .ref q34, .int 0, .ref q35, .ref q36, .ref q37, .ref q38, .int 0, .ref q3, .ref q4, .ref q5, .ref q6, .int 0, .int 0, .ref q39, .ref q40, .ref q41, .ref q42])), (q7, .inl (G.2.1, 242, .inl (fun _ => 0)))]) rfl (fun H locs w => ?_)
  refine lv_iinc (v := 1) (lv' := [(2, .int 1), (4, .int 16), (3, .int 1), (1, .int 1), (0, .ref q0)]) hx hb dX12_findPeriod_165 hl (k := 2) rfl (by decide +kernel) (by decide) rfl (fun ls hl => ?_)
  refine lv_goto (tgt := 88) hx hb dX12_findPeriod_168 (by decide) ?_
  refine lv_iload_n hx hb dX12_findPeriod_88 rfl (lv_at hl 0 rfl) ?_
  refine lv_iload_n hx hb dX12_findPeriod_89 rfl (lv_at hl 3 rfl) ?_
  refine lv_icmp_ge (tgt := 171) hx hb dX12_findPeriod_90 (by decide) (fun _ => ?_) (fun h => absurd (by decide) h)
  refine lv_aload_n hx hb dX12_findPeriod_171 rfl (lv_at hl 4 rfl) ?_
  refine r_get C w 6 rfl fr_X12_444 rfl dX12_findPeriod_172 ?_
  refine lv_iconst (v := (-1)) hx hb dX12_findPeriod_175 (by decide) ?_
  refine lv_icmp_eq (tgt := 185) hx hb dX12_findPeriod_176 (by decide) (fun h => absurd h (by decide)) (fun _ => ?_)
  refine lv_aload_n hx hb dX12_findPeriod_179 rfl (lv_at hl 4 rfl) ?_
  refine lv_iload_n hx hb dX12_findPeriod_180 rfl (lv_at hl 3 rfl) ?_
  refine r_put C w 6 rfl fl_X12_447 (Nat.le_of_ble_eq_true rfl) rfl rfl dX12_findPeriod_181 (ws2 := [(q5, .inl (G.2.1, 32016, .inl (fun _ => 0))), (q6, .inl (G.2.1, 16008, .inl (fun _ => 0))), (q1, .inl (G.2.1, 57, .inl (fun _ => 0))), (q2, .inl (G.2.1, 8, .inl (fun _ => 0))), (q3, .inl (G.2.1, 8, .inl (fun _ => 0))), (q4, .inl (G.2.1, 8, .inl (fun _ => 0))), (q0, .inr (12, [.int 0, .int 0, .int 0, .int 0, .int 0, .int 0, .int 0, .int (-1), .ref q8, .ref q7, .ref q9, .int 0, .ref q10, .ref q11, .ref q12, .ref q13, .ref q14, .ref q1, .ref q15, .int 0, .ref q2, .ref q16, .ref q17, .ref q18, .ref q19, .ref q20, .ref q21, .int 0, .int (-1), .int 0, .ref q22, .ref q23, .ref q24, .ref q25, .ref q26, .ref q27, .ref q28, .ref q29, .int 0, .ref q30, .ref q31, .ref q32, .ref q33, .ref q34, .int 0, .ref q35, .ref q36, .ref q37, .ref q38, .int 0, .ref q3, .ref q4, .ref q5, .ref q6, .int 0, .int 1, .ref q39, .ref q40, .ref q41, .ref q42])), (q7, .inl (G.2.1, 242, .inl (fun _ => 0)))]) rfl (fun H locs w => ?_)
  exact e_v C hr w (fun _ => 0) [6, 2, 3, 4, 5, 0, 1, 7] rfl rfl dX12_findPeriod_184 (by decide) (by decide)
set_option maxRecDepth 100000 in
set_option maxHeartbeats 4000000 in
theorem k476_period {l : Launch} {s0 : State} {a0 : Array Value} {G : GT} (b0 : B0 l s0 a0 G) (q0 q1 q2 q3 q4 q5 q6 q7 q8 q9 q10 q11 q12 q13 q14 q15 q16 q17 q18 q19 q20 q21 q22 q23 q24 q25 q26 q27 q28 q29 q30 q31 q32 q33 q34 q35 q36 q37 q38 q39 q40 q41 q42 : Nat) (x0 : Int32) (h0 : x0 = 0) (h1 : ¬ 1 < x0) (h2 : ¬ x0 < 0) (sz : Nat) : Ki l s0 G yX12_period cX12_period 2 (some .int) { frames := 3, cells := 0, slots := 0, locals := 66 } [.ref q0, .int x0] [(q0, .inr (12, [.int 0, .int 0, .int 0, .int 0, .int 0, .int 0, .int 0, .int (-1), .ref q8, .ref q7, .ref q9, .int 0, .ref q10, .ref q11, .ref q12, .ref q13, .ref q14, .ref q1, .ref q15, .int 0, .ref q2, .ref q16, .ref q17, .ref q18, .ref q19, .ref q20, .ref q21, .int 0, .int (-1), .int 0, .ref q22, .ref q23, .ref q24, .ref q25, .ref q26, .ref q27, .ref q28, .ref q29, .int 0, .ref q30, .ref q31, .ref q32, .ref q33, .ref q34, .int 0, .ref q35, .ref q36, .ref q37, .ref q38, .int 0, .ref q3, .ref q4, .ref q5, .ref q6, .int 0, .int 0, .ref q39, .ref q40, .ref q41, .ref q42])), (q1, .inl (G.2.1, 57, .inl (fun _ => 0))), (q2, .inl (G.2.1, 8, .inl (fun _ => 0))), (q3, .inl (G.2.1, 8, .inl (fun _ => 0))), (q4, .inl (G.2.1, 8, .inl (fun _ => 0))), (q5, .inl (G.2.1, 32016, .inl (fun _ => 0))), (q6, .inl (G.2.1, 16008, .inl (fun _ => 0))), (q7, .inl (G.2.1, 242, .inl (fun _ => 0)))] sz 0 (fun u => [(q0, .inr (12, [.int 0, .int 0, .int 0, .int 0, .int 0, .int 0, .int 0, .int (-1), .ref q8, .ref q7, .ref q9, .int 0, .ref q10, .ref q11, .ref q12, .ref q13, .ref q14, .ref q1, .ref q15, .int 0, .ref q2, .ref q16, .ref q17, .ref q18, .ref q19, .ref q20, .ref q21, .int 0, .int (-1), .int 0, .ref q22, .ref q23, .ref q24, .ref q25, .ref q26, .ref q27, .ref q28, .ref q29, .int 0, .ref q30, .ref q31, .ref q32, .ref q33, .ref q34, .int 0, .ref q35, .ref q36, .ref q37, .ref q38, .int 0, .ref q3, .ref q4, .ref q5, .ref q6, .int 0, .int 1, .ref q39, .ref q40, .ref q41, .ref q42])), (q1, .inl (G.2.1, 57, .inl (fun _ => 0))), (q2, .inl (G.2.1, 8, .inl (fun _ => 0))), (q3, .inl (G.2.1, 8, .inl (fun _ => 0))), (q4, .inl (G.2.1, 8, .inl (fun _ => 0))), (q5, .inl (G.2.1, 32016, .inl (fun _ => 0))), (q6, .inl (G.2.1, 16008, .inl (fun _ => 0))), (q7, .inl (G.2.1, 242, .inl (fun _ => 0)))]) := by
  refine Ki.of b0 (own := RX12) (nm := "period") [(0, .ref q0), (1, .int x0)] rfl rfl (by decide +kernel) (Nat.le_of_ble_eq_true rfl) rfl ?_
  intro p e s m below meth c A C hr H locs w ls hl
  have hx := C.hx
  have hb := C.hb
  refine lv_aload_n hx hb dX12_period_0 rfl (lv_at hl 0 rfl) ?_
  refine lv_iconst (v := 0) hx hb dX12_period_1 (by decide) ?_
  refine r_put C w 0 rfl fl_X12_1 (Nat.le_of_ble_eq_true rfl) rfl rfl dX12_period_2 (ws2 := [(q0, .inr (12, [.int 0, .int 0, .int 0, .int 0, .int 0, .int 0, .int 0, .int (-1), .ref q8, .ref q7, .ref q9, .int 0, .ref q10, .ref q11, .ref q12, .ref q13, .ref q14, .ref q1, .ref q15, .int 0, .ref q2, .ref q16, .ref q17, .ref q18, .ref q19, .ref q20, .ref q21, .int 0, .int (-1), .int 0, .ref q22, .ref q23, .ref q24, .ref q25, .ref q26, .ref q27, .ref q28, .ref q29, .int 0, .ref q30, .ref q31, .ref q32, .ref q33, .ref q34, .int 0, .ref q35, .ref q36, .ref q37, .ref q38, .int 0, .ref q3, .ref q4, .ref q5, .ref q6, .int 0, .int 0, .ref q39, .ref q40, .ref q41, .ref q42])), (q1, .inl (G.2.1, 57, .inl (fun _ => 0))), (q2, .inl (G.2.1, 8, .inl (fun _ => 0))), (q3, .inl (G.2.1, 8, .inl (fun _ => 0))), (q4, .inl (G.2.1, 8, .inl (fun _ => 0))), (q5, .inl (G.2.1, 32016, .inl (fun _ => 0))), (q6, .inl (G.2.1, 16008, .inl (fun _ => 0))), (q7, .inl (G.2.1, 242, .inl (fun _ => 0)))]) rfl (fun H locs w => ?_)
  refine lv_aload_n hx hb dX12_period_5 rfl (lv_at hl 0 rfl) ?_
  refine lv_iload_n hx hb dX12_period_6 rfl (lv_at hl 1 rfl) ?_
  refine lv_iconst (v := 0) hx hb dX12_period_7 (by decide) ?_
  refine lv_iconst (v := 1) hx hb dX12_period_8 (by decide) ?_
  refine fin_i C w (run_S C w ms_X12_289 (k55_within C.b0 x0 h1 h2 H.size) [] rfl rfl (by decide) rfl hl.1 rfl (Nat.le_of_ble_eq_true rfl) dX12_period_9 (cells2 := 0) (slots2 := 0) (by decide)) [] [0, 1, 2, 3, 4, 5, 6, 7] rfl rfl (by decide) (cells2 := 0) (slots2 := 0) (by decide) (fun u1 H locs w => ?_)
  have w : Wd s G A [(q0, .inr (12, [.int 0, .int 0, .int 0, .int 0, .int 0, .int 0, .int 0, .int (-1), .ref q8, .ref q7, .ref q9, .int 0, .ref q10, .ref q11, .ref q12, .ref q13, .ref q14, .ref q1, .ref q15, .int 0, .ref q2, .ref q16, .ref q17, .ref q18, .ref q19, .ref q20, .ref q21, .int 0, .int (-1), .int 0, .ref q22, .ref q23, .ref q24, .ref q25, .ref q26, .ref q27, .ref q28, .ref q29, .int 0, .ref q30, .ref q31, .ref q32, .ref q33, .ref q34, .int 0, .ref q35, .ref q36, .ref q37, .ref q38, .int 0, .ref q3, .ref q4, .ref q5, .ref q6, .int 0, .int 0, .ref q39, .ref q40, .ref q41, .ref q42])), (q1, .inl (G.2.1, 57, .inl (fun _ => 0))), (q2, .inl (G.2.1, 8, .inl (fun _ => 0))), (q3, .inl (G.2.1, 8, .inl (fun _ => 0))), (q4, .inl (G.2.1, 8, .inl (fun _ => 0))), (q5, .inl (G.2.1, 32016, .inl (fun _ => 0))), (q6, .inl (G.2.1, 16008, .inl (fun _ => 0))), (q7, .inl (G.2.1, 242, .inl (fun _ => 0)))] H locs := w
  refine lv_iconst (v := 1) hx hb dX12_period_12 (by decide) ?_
  refine fin_i C w (run_V C w mv_X12_267 (k32_may C.b0 q0 q8 q7 q9 q10 q11 q12 q13 q14 q1 q15 q2 q16 q17 q18 q19 q20 q21 q22 q23 q24 q25 q26 q27 q28 q29 q30 q31 q32 q33 q34 q35 q36 q37 q38 q3 q4 q5 q6 q39 q40 q41 q42 H.size) [0] rfl rfl 0 rfl rfl (by decide) rfl hl.1 rfl (Nat.le_of_ble_eq_true rfl) dX12_period_13 (cells2 := 0) (slots2 := 0) (by decide)) [0] [1, 2, 3, 4, 5, 6, 7] rfl rfl (by decide) (cells2 := 0) (slots2 := 0) (by decide) (fun u2 H locs w => ?_)
  have w : Wd s G A [(q1, .inl (G.2.1, 57, .inl (fun _ => 0))), (q2, .inl (G.2.1, 8, .inl (fun _ => 0))), (q3, .inl (G.2.1, 8, .inl (fun _ => 0))), (q4, .inl (G.2.1, 8, .inl (fun _ => 0))), (q5, .inl (G.2.1, 32016, .inl (fun _ => 0))), (q6, .inl (G.2.1, 16008, .inl (fun _ => 0))), (q7, .inl (G.2.1, 242, .inl (fun _ => 0))), (q0, .inr (12, [.int 0, .int 0, .int 0, .int 0, .int 0, .int 0, .int 0, .int (-1), .ref q8, .ref q7, .ref q9, .int 0, .ref q10, .ref q11, .ref q12, .ref q13, .ref q14, .ref q1, .ref q15, .int 0, .ref q2, .ref q16, .ref q17, .ref q18, .ref q19, .ref q20, .ref q21, .int 0, .int (-1), .int 0, .ref q22, .ref q23, .ref q24, .ref q25, .ref q26, .ref q27, .ref q28, .ref q29, .int 0, .ref q30, .ref q31, .ref q32, .ref q33, .ref q34, .int 0, .ref q35, .ref q36, .ref q37, .ref q38, .int 0, .ref q3, .ref q4, .ref q5, .ref q6, .int 0, .int 0, .ref q39, .ref q40, .ref q41, .ref q42]))] H locs := w
  refine lv_if_ne (tgt := 21) hx hb dX12_period_16 (by decide) (fun _ => ?_) (fun h => h.elim (by decide))
  refine lv_aload_n hx hb dX12_period_21 rfl (lv_at hl 0 rfl) ?_
  refine fin_v C w (run_V C w mv_X12_450 (k475_findPeriod C.b0 q0 q1 q2 q3 q4 q5 q6 q7 q8 q9 q10 q11 q12 q13 q14 q15 q16 q17 q18 q19 q20 q21 q22 q23 q24 q25 q26 q27 q28 q29 q30 q31 q32 q33 q34 q35 q36 q37 q38 q39 q40 q41 q42 H.size) [7, 0, 1, 2, 3, 4, 5, 6] rfl rfl 7 rfl rfl (by decide) rfl hl.1 rfl (Nat.le_of_ble_eq_true rfl) dX12_period_22 (cells2 := 0) (slots2 := 0) (by decide)) [7, 0, 1, 2, 3, 4, 5, 6] [] rfl rfl (by decide) (cells2 := 0) (slots2 := 0) (by decide) (fun u3 H locs w => ?_)
  have w : Wd s G A [(q0, .inr (12, [.int 0, .int 0, .int 0, .int 0, .int 0, .int 0, .int 0, .int (-1), .ref q8, .ref q7, .ref q9, .int 0, .ref q10, .ref q11, .ref q12, .ref q13, .ref q14, .ref q1, .ref q15, .int 0, .ref q2, .ref q16, .ref q17, .ref q18, .ref q19, .ref q20, .ref q21, .int 0, .int (-1), .int 0, .ref q22, .ref q23, .ref q24, .ref q25, .ref q26, .ref q27, .ref q28, .ref q29, .int 0, .ref q30, .ref q31, .ref q32, .ref q33, .ref q34, .int 0, .ref q35, .ref q36, .ref q37, .ref q38, .int 0, .ref q3, .ref q4, .ref q5, .ref q6, .int 0, .int 1, .ref q39, .ref q40, .ref q41, .ref q42])), (q1, .inl (G.2.1, 57, .inl (fun _ => 0))), (q2, .inl (G.2.1, 8, .inl (fun _ => 0))), (q3, .inl (G.2.1, 8, .inl (fun _ => 0))), (q4, .inl (G.2.1, 8, .inl (fun _ => 0))), (q5, .inl (G.2.1, 32016, .inl (fun _ => 0))), (q6, .inl (G.2.1, 16008, .inl (fun _ => 0))), (q7, .inl (G.2.1, 242, .inl (fun _ => 0)))] H locs := w
  refine lv_aload_n hx hb dX12_period_25 rfl (lv_at hl 0 rfl) ?_
  refine r_get C w 0 rfl fr_X12_444 rfl dX12_period_26 ?_
  refine lv_iconst (v := (-1)) hx hb dX12_period_29 (by decide) ?_
  refine lv_icmp_ne (tgt := 37) hx hb dX12_period_30 (by decide) (fun _ => ?_) (fun h => h.elim (by decide))
  refine lv_iload_n hx hb dX12_period_37 rfl (lv_at hl 1 rfl) ?_
  refine lv_if_ne (tgt := 48) hx hb dX12_period_38 (by decide) (fun h => absurd h0 h) (fun _ => ?_)
  refine lv_aload_n hx hb dX12_period_41 rfl (lv_at hl 0 rfl) ?_
  refine r_get C w 0 rfl fr_X12_444 rfl dX12_period_42 ?_
  refine lv_goto (tgt := 57) hx hb dX12_period_45 (by decide) ?_
  exact e_i C hr w (fun _ => 0) [0, 1, 2, 3, 4, 5, 6, 7] rfl rfl rfl dX12_period_57 (by decide) (by decide)
set_option maxRecDepth 100000 in
set_option maxHeartbeats 4000000 in
theorem k477_thrown {l : Launch} {s0 : State} {a0 : Array Value} {G : GT} (b0 : B0 l s0 a0 G) (q0 q1 q2 q3 q4 q5 q6 q7 q8 q9 q10 q11 q12 q13 q14 q15 q16 q17 q18 q19 q20 q21 q22 q23 q24 q25 q26 q27 q28 q29 q30 q31 q32 q33 q34 q35 q36 q37 q38 q39 q40 q41 q42 : Nat) (sz : Nat) : Ki l s0 G yX12_thrown cX12_thrown 1 (some .int) { frames := 0, cells := 0, slots := 0, locals := 0 } [.ref q0] [(q0, .inr (12, [.int 0, .int 0, .int 0, .int 0, .int 0, .int 0, .int 0, .int (-1), .ref q1, .ref q2, .ref q3, .int 0, .ref q4, .ref q5, .ref q6, .ref q7, .ref q8, .ref q9, .ref q10, .int 0, .ref q11, .ref q12, .ref q13, .ref q14, .ref q15, .ref q16, .ref q17, .int 0, .int (-1), .int 0, .ref q18, .ref q19, .ref q20, .ref q21, .ref q22, .ref q23, .ref q24, .ref q25, .int 0, .ref q26, .ref q27, .ref q28, .ref q29, .ref q30, .int 0, .ref q31, .ref q32, .ref q33, .ref q34, .int 0, .ref q35, .ref q36, .ref q37, .ref q38, .int 0, .int 1, .ref q39, .ref q40, .ref q41, .ref q42]))] sz 0 (fun u => [(q0, .inr (12, [.int 0, .int 0, .int 0, .int 0, .int 0, .int 0, .int 0, .int (-1), .ref q1, .ref q2, .ref q3, .int 0, .ref q4, .ref q5, .ref q6, .ref q7, .ref q8, .ref q9, .ref q10, .int 0, .ref q11, .ref q12, .ref q13, .ref q14, .ref q15, .ref q16, .ref q17, .int 0, .int (-1), .int 0, .ref q18, .ref q19, .ref q20, .ref q21, .ref q22, .ref q23, .ref q24, .ref q25, .int 0, .ref q26, .ref q27, .ref q28, .ref q29, .ref q30, .int 0, .ref q31, .ref q32, .ref q33, .ref q34, .int 0, .ref q35, .ref q36, .ref q37, .ref q38, .int 0, .int 1, .ref q39, .ref q40, .ref q41, .ref q42]))]) := by
  refine Ki.of b0 (own := RX12) (nm := "thrown") [(0, .ref q0)] rfl rfl (by decide +kernel) (Nat.le_of_ble_eq_true rfl) rfl ?_
  intro p e s m below meth c A C hr H locs w ls hl
  have hx := C.hx
  have hb := C.hb
  refine lv_aload_n hx hb dX12_thrown_0 rfl (lv_at hl 0 rfl) ?_
  refine r_get C w 0 rfl fr_X12_1 rfl dX12_thrown_1 ?_
  exact e_i C hr w (fun _ => 0) [0] rfl rfl rfl dX12_thrown_4 (by decide) (by decide)
set_option maxRecDepth 100000 in
set_option maxHeartbeats 4000000 in
theorem k478_period {l : Launch} {s0 : State} {a0 : Array Value} {G : GT} (b0 : B0 l s0 a0 G) (q0 q1 q2 q3 q4 q5 q6 q7 q8 q9 q10 q11 q12 q13 q14 q15 q16 q17 q18 q19 q20 q21 q22 q23 q24 q25 q26 q27 : Nat) (x0 : Int32) (h0 : ¬ x0 = 0) (h1 : ¬ 1 < x0) (h2 : ¬ x0 < 0) (sz : Nat) : Ki l s0 G yX11_period cX11_period 3 (some .int) { frames := 4, cells := 6, slots := 52156, locals := 169 } [.ref q0, .int x0] [(q0, .inr (11, [.ref q4, .ref q5, .ref q1, .ref q6, .ref q7, .ref q8, .ref q9, .ref q10, .ref q2, .ref q11, .int 0, .int (-1), .int 0, .int 0, .null, .null, .null, .null, .null])), (q1, .inr (5, [.ref q3, .ref q12, .ref q13, .int 0])), (q2, .inr (2, [.int 0, .int 0, .ref q14, .ref q15, .ref q16, .ref q17, .ref q18, .ref q19, .ref q20, .ref q21, .ref q22, .ref q23, .ref q24, .ref q25, .ref q26, .ref q27, .int 0])), (q3, .inl (G.2.1, 8, .inl (fun _ => 0)))] sz 1 (fun u => [(q0, .inr (11, [.ref q4, .ref q5, .ref q1, .ref q6, .ref q7, .ref q8, .ref q9, .ref q10, .ref q2, .ref q11, .int 0, .int (-1), .int 0, .int 0, .null, .null, .null, .ref (u 0), .null])), (q1, .inr (5, [.ref q3, .ref q12, .ref q13, .int 0])), (q2, .inr (2, [.int 0, .int 0, .ref q14, .ref q15, .ref q16, .ref q17, .ref q18, .ref q19, .ref q20, .ref q21, .ref q22, .ref q23, .ref q24, .ref q25, .ref q26, .ref q27, .int 0])), (q3, .inl (G.2.1, 8, .inl (fun _ => 0))), ((u 0), .inr (10, [.int 0, .int 0, .int 1, .ref (u 1), .ref (u 4), .ref (u 5), .ref q2])), ((u 1), .inr (7, [.ref (u 2), .int 0, .int 1, .int 2001, .ref (u 3)])), ((u 2), .inl (G.2.1, 32016, .inl (fun _ => 0))), ((u 3), .inl (G.2.1, 4096, .inl (upd (fun _ => (-1)) 7 0))), ((u 4), .inl (G.2.1, 16016, .inl (fun _ => 0))), ((u 5), .inl (G.2.1, 16, .inl (fun _ => 0)))]) := by
  refine Ki.of b0 (own := RX11) (nm := "period") [(0, .ref q0), (1, .int x0)] rfl rfl (by decide +kernel) (Nat.le_of_ble_eq_true rfl) rfl ?_
  intro p e s m below meth c A C hr H locs w ls hl
  have hx := C.hx
  have hb := C.hb
  refine lv_iload_n hx hb dX11_period_0 rfl (lv_at hl 1 rfl) ?_
  refine lv_iconst (v := 0) hx hb dX11_period_1 (by decide) ?_
  refine lv_iconst (v := 1) hx hb dX11_period_2 (by decide) ?_
  refine fin_v C w (run_S C w ms_X11_72 (k52_needWithin C.b0 x0 h1 h2 H.size) [] rfl rfl (by decide) rfl hl.1 rfl (Nat.le_of_ble_eq_true rfl) dX11_period_3 (cells2 := 0) (slots2 := 0) (by decide)) [] [0, 1, 2, 3] rfl rfl (by decide) (cells2 := 0) (slots2 := 0) (by decide) (fun u1 H locs w => ?_)
  have w : Wd s G A [(q0, .inr (11, [.ref q4, .ref q5, .ref q1, .ref q6, .ref q7, .ref q8, .ref q9, .ref q10, .ref q2, .ref q11, .int 0, .int (-1), .int 0, .int 0, .null, .null, .null, .null, .null])), (q1, .inr (5, [.ref q3, .ref q12, .ref q13, .int 0])), (q2, .inr (2, [.int 0, .int 0, .ref q14, .ref q15, .ref q16, .ref q17, .ref q18, .ref q19, .ref q20, .ref q21, .ref q22, .ref q23, .ref q24, .ref q25, .ref q26, .ref q27, .int 0])), (q3, .inl (G.2.1, 8, .inl (fun _ => 0)))] H locs := w
  refine lv_aload_n hx hb dX11_period_6 rfl (lv_at hl 0 rfl) ?_
  refine lv_sipush (v := 2000) hx hb dX11_period_7 (by decide) ?_
  refine fin_r C w (run_V C w mv_X11_293 (k468_working C.b0 q0 q1 q2 q3 q4 q5 q6 q7 q8 q9 q10 q11 q12 q13 q14 q15 q16 q17 q18 q19 q20 q21 q22 q23 q24 q25 q26 q27 H.size) [0, 1, 2, 3] rfl rfl 0 rfl rfl (by decide) rfl hl.1 rfl (Nat.le_of_ble_eq_true rfl) dX11_period_10 (cells2 := 6) (slots2 := 52156) (by decide)) [0, 1, 2, 3] [] rfl rfl (by decide) (cells2 := 6) (slots2 := 52156) (by decide) (fun u2 H locs w => ?_)
  have w : Wd s G A [(q0, .inr (11, [.ref q4, .ref q5, .ref q1, .ref q6, .ref q7, .ref q8, .ref q9, .ref q10, .ref q2, .ref q11, .int 0, .int (-1), .int 0, .int 0, .null, .null, .null, .ref (u2 0), .null])), (q1, .inr (5, [.ref q3, .ref q12, .ref q13, .int 0])), (q2, .inr (2, [.int 0, .int 0, .ref q14, .ref q15, .ref q16, .ref q17, .ref q18, .ref q19, .ref q20, .ref q21, .ref q22, .ref q23, .ref q24, .ref q25, .ref q26, .ref q27, .int 0])), (q3, .inl (G.2.1, 8, .inl (fun _ => 0))), ((u2 0), .inr (10, [.int 0, .int 0, .int 1, .ref (u2 1), .ref (u2 4), .ref (u2 5), .ref q2])), ((u2 1), .inr (7, [.ref (u2 2), .int 0, .int 1, .int 2001, .ref (u2 3)])), ((u2 2), .inl (G.2.1, 32016, .inl (fun _ => 0))), ((u2 3), .inl (G.2.1, 4096, .inl (upd (fun _ => (-1)) 7 0))), ((u2 4), .inl (G.2.1, 16016, .inl (fun _ => 0))), ((u2 5), .inl (G.2.1, 16, .inl (fun _ => 0)))] H locs := w
  refine lv_astore_n (lv' := [(2, .ref (u2 0)), (0, .ref q0), (1, .int x0)]) hx hb dX11_period_13 rfl hl (by decide) rfl (fun ls hl => ?_)
  refine lv_iload_n hx hb dX11_period_14 rfl (lv_at hl 2 rfl) ?_
  refine lv_if_ne (tgt := 25) hx hb dX11_period_15 (by decide) (fun _ => ?_) (fun h => h.elim h0)
  refine lv_aload_n hx hb dX11_period_25 rfl (lv_at hl 0 rfl) ?_
  refine r_get C w 4 rfl fr_X11_308 rfl dX11_period_26 ?_
  exact e_i C hr w (fun k => [(u2 0), (u2 1), (u2 2), (u2 3), (u2 4), (u2 5)].getD k 0) [0, 1, 2, 3, 4, 5, 6, 7, 8, 9] rfl rfl rfl dX11_period_29 (by decide) (by decide)
set_option maxRecDepth 100000 in
set_option maxHeartbeats 4000000 in
theorem k479_period {l : Launch} {s0 : State} {a0 : Array Value} {G : GT} (b0 : B0 l s0 a0 G) (q0 q1 q2 q3 q4 q5 q6 q7 q8 q9 q10 q11 q12 q13 q14 q15 q16 q17 q18 q19 q20 q21 q22 q23 q24 q25 q26 q27 q28 : Nat) (x0 : Int32) (h0 : ¬ x0 = 0) (h1 : ¬ 1 < x0) (h2 : ¬ x0 < 0) (sz : Nat) : Kh l s0 G yL_period cL_period 4 (some .int) [(0, 9, 12, 13)] { frames := 5, cells := 6, slots := 52156, locals := 191 } [.ref q0, .int x0, .ref q4] [(q0, .inr (11, [.ref q5, .ref q6, .ref q1, .ref q7, .ref q8, .ref q9, .ref q10, .ref q11, .ref q2, .ref q12, .int 0, .int (-1), .int 0, .int 0, .null, .null, .null, .null, .null])), (q1, .inr (5, [.ref q3, .ref q13, .ref q14, .int 0])), (q2, .inr (2, [.int 0, .int 0, .ref q15, .ref q16, .ref q17, .ref q18, .ref q19, .ref q20, .ref q21, .ref q22, .ref q23, .ref q24, .ref q25, .ref q26, .ref q27, .ref q28, .int 0])), (q3, .inl (G.2.1, 8, .inl (fun _ => 0))), (q4, .inl (G.2.2.1, 1, .inr (.inl (fun _ => 0))))] sz 0 (fun u => [(q0, .inr (11, [.ref q5, .ref q6, .ref q1, .ref q7, .ref q8, .ref q9, .ref q10, .ref q11, .ref q2, .ref q12, .int 0, .int (-1), .int 0, .int 0, .null, .null, .null, .ref (u 0), .null])), (q1, .inr (5, [.ref q3, .ref q13, .ref q14, .int 0])), (q2, .inr (2, [.int 0, .int 0, .ref q15, .ref q16, .ref q17, .ref q18, .ref q19, .ref q20, .ref q21, .ref q22, .ref q23, .ref q24, .ref q25, .ref q26, .ref q27, .ref q28, .int 0])), (q3, .inl (G.2.1, 8, .inl (fun _ => 0))), (q4, .inl (G.2.2.1, 1, .inr (.inl (vp_updL (fun _ => 0) 0 1)))), ((u 0), .inr (10, [.int 0, .int 0, .int 1, .ref (u 1), .ref (u 4), .ref (u 5), .ref q2])), ((u 1), .inr (7, [.ref (u 2), .int 0, .int 1, .int 2001, .ref (u 3)])), ((u 2), .inl (G.2.1, 32016, .inl (fun _ => 0))), ((u 3), .inl (G.2.1, 4096, .inl (upd (fun _ => (-1)) 7 0))), ((u 4), .inl (G.2.1, 16016, .inl (fun _ => 0))), ((u 5), .inl (G.2.1, 16, .inl (fun _ => 0)))]) := by
  refine Kh.of b0 (own := RL) (nm := "period") [(0, .ref q0), (1, .int x0), (2, .ref q4)] rfl rfl (by decide +kernel) (Nat.le_of_ble_eq_true rfl) rfl ?_
  intro p e s m below meth c A C hr ht H locs w ls hl
  have hx := C.hx
  have hb := C.hb
  refine lv_aload_n hx hb dL_period_0 rfl (lv_at hl 2 rfl) ?_
  refine lv_iconst (v := 0) hx hb dL_period_1 (by decide) ?_
  refine lv_aload_n hx hb dL_period_2 rfl (lv_at hl 0 rfl) ?_
  refine lv_iload_n hx hb dL_period_3 rfl (lv_at hl 1 rfl) ?_
  refine fin_i C w (run_V C w mv_L_111 (k478_period C.b0 q0 q1 q2 q3 q5 q6 q7 q8 q9 q10 q11 q12 q13 q14 q15 q16 q17 q18 q19 q20 q21 q22 q23 q24 q25 q26 q27 q28 x0 h0 h1 h2 H.size) [0, 1, 2, 3] rfl rfl 0 rfl rfl (by decide) rfl hl.1 rfl (Nat.le_of_ble_eq_true rfl) dL_period_4 (cells2 := 6) (slots2 := 52156) (by decide)) [0, 1, 2, 3] [4] rfl rfl (by decide) (cells2 := 6) (slots2 := 52156) (by decide) (fun u1 H locs w => ?_)
  have w : Wd s G A [(q4, .inl (G.2.2.1, 1, .inr (.inl (fun _ => 0)))), (q0, .inr (11, [.ref q5, .ref q6, .ref q1, .ref q7, .ref q8, .ref q9, .ref q10, .ref q11, .ref q2, .ref q12, .int 0, .int (-1), .int 0, .int 0, .null, .null, .null, .ref (u1 0), .null])), (q1, .inr (5, [.ref q3, .ref q13, .ref q14, .int 0])), (q2, .inr (2, [.int 0, .int 0, .ref q15, .ref q16, .ref q17, .ref q18, .ref q19, .ref q20, .ref q21, .ref q22, .ref q23, .ref q24, .ref q25, .ref q26, .ref q27, .ref q28, .int 0])), (q3, .inl (G.2.1, 8, .inl (fun _ => 0))), ((u1 0), .inr (10, [.int 0, .int 0, .int 1, .ref (u1 1), .ref (u1 4), .ref (u1 5), .ref q2])), ((u1 1), .inr (7, [.ref (u1 2), .int 0, .int 1, .int 2001, .ref (u1 3)])), ((u1 2), .inl (G.2.1, 32016, .inl (fun _ => 0))), ((u1 3), .inl (G.2.1, 4096, .inl (upd (fun _ => (-1)) 7 0))), ((u1 4), .inl (G.2.1, 16016, .inl (fun _ => 0))), ((u1 5), .inl (G.2.1, 16, .inl (fun _ => 0)))] H locs := w
  refine lv_i2l (v := 1) hx hb dL_period_7 (by decide +kernel) ?_
  refine r_last C w 0 rfl (IX.of (k := 0) (by decide +kernel)) (g := (vp_updL (fun _ => 0) 0 1)) rfl dL_period_8 (ws2 := [(q4, .inl (G.2.2.1, 1, .inr (.inl (vp_updL (fun _ => 0) 0 1)))), (q0, .inr (11, [.ref q5, .ref q6, .ref q1, .ref q7, .ref q8, .ref q9, .ref q10, .ref q11, .ref q2, .ref q12, .int 0, .int (-1), .int 0, .int 0, .null, .null, .null, .ref (u1 0), .null])), (q1, .inr (5, [.ref q3, .ref q13, .ref q14, .int 0])), (q2, .inr (2, [.int 0, .int 0, .ref q15, .ref q16, .ref q17, .ref q18, .ref q19, .ref q20, .ref q21, .ref q22, .ref q23, .ref q24, .ref q25, .ref q26, .ref q27, .ref q28, .int 0])), (q3, .inl (G.2.1, 8, .inl (fun _ => 0))), ((u1 0), .inr (10, [.int 0, .int 0, .int 1, .ref (u1 1), .ref (u1 4), .ref (u1 5), .ref q2])), ((u1 1), .inr (7, [.ref (u1 2), .int 0, .int 1, .int 2001, .ref (u1 3)])), ((u1 2), .inl (G.2.1, 32016, .inl (fun _ => 0))), ((u1 3), .inl (G.2.1, 4096, .inl (upd (fun _ => (-1)) 7 0))), ((u1 4), .inl (G.2.1, 16016, .inl (fun _ => 0))), ((u1 5), .inl (G.2.1, 16, .inl (fun _ => 0)))]) rfl (fun H locs w => ?_)
  refine lv_goto (tgt := 15) hx hb dL_period_9 (by decide) ?_
  refine lv_iconst (v := 0) hx hb dL_period_15 (by decide) ?_
  exact e_i C hr w (fun k => [(u1 0), (u1 1), (u1 2), (u1 3), (u1 4), (u1 5)].getD k 0) [1, 2, 3, 4, 0, 5, 6, 7, 8, 9, 10] rfl rfl rfl dL_period_16 (by decide) (by decide)
set_option maxRecDepth 100000 in
set_option maxHeartbeats 4000000 in
theorem k480_period {l : Launch} {s0 : State} {a0 : Array Value} {G : GT} (b0 : B0 l s0 a0 G) (q0 q1 q2 q3 q4 q5 q6 q7 q8 q9 q10 q11 q12 q13 q14 q15 q16 q17 q18 q19 q20 q21 q22 q23 q24 q25 q26 q27 q28 q29 q30 q31 q32 q33 q34 q35 q36 q37 q38 q39 q40 q41 q42 : Nat) (x0 : Int32) (h0 : ¬ x0 = 0) (h1 : ¬ 1 < x0) (h2 : ¬ x0 < 0) (sz : Nat) : Ki l s0 G yX12_period cX12_period 2 (some .int) { frames := 3, cells := 0, slots := 0, locals := 66 } [.ref q0, .int x0] [(q0, .inr (12, [.int 0, .int 0, .int 0, .int 0, .int 0, .int 0, .int 0, .int (-1), .ref q8, .ref q7, .ref q9, .int 0, .ref q10, .ref q11, .ref q12, .ref q13, .ref q14, .ref q1, .ref q15, .int 0, .ref q2, .ref q16, .ref q17, .ref q18, .ref q19, .ref q20, .ref q21, .int 0, .int (-1), .int 0, .ref q22, .ref q23, .ref q24, .ref q25, .ref q26, .ref q27, .ref q28, .ref q29, .int 0, .ref q30, .ref q31, .ref q32, .ref q33, .ref q34, .int 0, .ref q35, .ref q36, .ref q37, .ref q38, .int 0, .ref q3, .ref q4, .ref q5, .ref q6, .int 0, .int 0, .ref q39, .ref q40, .ref q41, .ref q42])), (q1, .inl (G.2.1, 57, .inl (fun _ => 0))), (q2, .inl (G.2.1, 8, .inl (fun _ => 0))), (q3, .inl (G.2.1, 8, .inl (fun _ => 0))), (q4, .inl (G.2.1, 8, .inl (fun _ => 0))), (q5, .inl (G.2.1, 32016, .inl (fun _ => 0))), (q6, .inl (G.2.1, 16008, .inl (fun _ => 0))), (q7, .inl (G.2.1, 242, .inl (fun _ => 0)))] sz 1 (fun u => [(q0, .inr (12, [.int 0, .int 0, .int 0, .int 0, .int 0, .int 0, .int 0, .int (-1), .ref q8, .ref q7, .ref q9, .int 0, .ref q10, .ref q11, .ref q12, .ref q13, .ref q14, .ref q1, .ref q15, .int 0, .ref q2, .ref q16, .ref q17, .ref q18, .ref q19, .ref q20, .ref q21, .int 0, .int (-1), .int 0, .ref q22, .ref q23, .ref q24, .ref q25, .ref q26, .ref q27, .ref q28, .ref q29, .int 0, .ref q30, .ref q31, .ref q32, .ref q33, .ref q34, .int 0, .ref q35, .ref q36, .ref q37, .ref q38, .int 0, .ref q3, .ref q4, .ref q5, .ref q6, .int 0, .int 1, .ref q39, .ref q40, .ref q41, .ref q42])), (q1, .inl (G.2.1, 57, .inl (fun _ => 0))), (q2, .inl (G.2.1, 8, .inl (fun _ => 0))), (q3, .inl (G.2.1, 8, .inl (fun _ => 0))), (q4, .inl (G.2.1, 8, .inl (fun _ => 0))), (q5, .inl (G.2.1, 32016, .inl (fun _ => 0))), (q6, .inl (G.2.1, 16008, .inl (fun _ => 0))), (q7, .inl (G.2.1, 242, .inl (fun _ => 0)))]) := by
  refine Ki.of b0 (own := RX12) (nm := "period") [(0, .ref q0), (1, .int x0)] rfl rfl (by decide +kernel) (Nat.le_of_ble_eq_true rfl) rfl ?_
  intro p e s m below meth c A C hr H locs w ls hl
  have hx := C.hx
  have hb := C.hb
  refine lv_aload_n hx hb dX12_period_0 rfl (lv_at hl 0 rfl) ?_
  refine lv_iconst (v := 0) hx hb dX12_period_1 (by decide) ?_
  refine r_put C w 0 rfl fl_X12_1 (Nat.le_of_ble_eq_true rfl) rfl rfl dX12_period_2 (ws2 := [(q0, .inr (12, [.int 0, .int 0, .int 0, .int 0, .int 0, .int 0, .int 0, .int (-1), .ref q8, .ref q7, .ref q9, .int 0, .ref q10, .ref q11, .ref q12, .ref q13, .ref q14, .ref q1, .ref q15, .int 0, .ref q2, .ref q16, .ref q17, .ref q18, .ref q19, .ref q20, .ref q21, .int 0, .int (-1), .int 0, .ref q22, .ref q23, .ref q24, .ref q25, .ref q26, .ref q27, .ref q28, .ref q29, .int 0, .ref q30, .ref q31, .ref q32, .ref q33, .ref q34, .int 0, .ref q35, .ref q36, .ref q37, .ref q38, .int 0, .ref q3, .ref q4, .ref q5, .ref q6, .int 0, .int 0, .ref q39, .ref q40, .ref q41, .ref q42])), (q1, .inl (G.2.1, 57, .inl (fun _ => 0))), (q2, .inl (G.2.1, 8, .inl (fun _ => 0))), (q3, .inl (G.2.1, 8, .inl (fun _ => 0))), (q4, .inl (G.2.1, 8, .inl (fun _ => 0))), (q5, .inl (G.2.1, 32016, .inl (fun _ => 0))), (q6, .inl (G.2.1, 16008, .inl (fun _ => 0))), (q7, .inl (G.2.1, 242, .inl (fun _ => 0)))]) rfl (fun H locs w => ?_)
  refine lv_aload_n hx hb dX12_period_5 rfl (lv_at hl 0 rfl) ?_
  refine lv_iload_n hx hb dX12_period_6 rfl (lv_at hl 1 rfl) ?_
  refine lv_iconst (v := 0) hx hb dX12_period_7 (by decide) ?_
  refine lv_iconst (v := 1) hx hb dX12_period_8 (by decide) ?_
  refine fin_i C w (run_S C w ms_X12_289 (k55_within C.b0 x0 h1 h2 H.size) [] rfl rfl (by decide) rfl hl.1 rfl (Nat.le_of_ble_eq_true rfl) dX12_period_9 (cells2 := 0) (slots2 := 0) (by decide)) [] [0, 1, 2, 3, 4, 5, 6, 7] rfl rfl (by decide) (cells2 := 0) (slots2 := 0) (by decide) (fun u1 H locs w => ?_)
  have w : Wd s G A [(q0, .inr (12, [.int 0, .int 0, .int 0, .int 0, .int 0, .int 0, .int 0, .int (-1), .ref q8, .ref q7, .ref q9, .int 0, .ref q10, .ref q11, .ref q12, .ref q13, .ref q14, .ref q1, .ref q15, .int 0, .ref q2, .ref q16, .ref q17, .ref q18, .ref q19, .ref q20, .ref q21, .int 0, .int (-1), .int 0, .ref q22, .ref q23, .ref q24, .ref q25, .ref q26, .ref q27, .ref q28, .ref q29, .int 0, .ref q30, .ref q31, .ref q32, .ref q33, .ref q34, .int 0, .ref q35, .ref q36, .ref q37, .ref q38, .int 0, .ref q3, .ref q4, .ref q5, .ref q6, .int 0, .int 0, .ref q39, .ref q40, .ref q41, .ref q42])), (q1, .inl (G.2.1, 57, .inl (fun _ => 0))), (q2, .inl (G.2.1, 8, .inl (fun _ => 0))), (q3, .inl (G.2.1, 8, .inl (fun _ => 0))), (q4, .inl (G.2.1, 8, .inl (fun _ => 0))), (q5, .inl (G.2.1, 32016, .inl (fun _ => 0))), (q6, .inl (G.2.1, 16008, .inl (fun _ => 0))), (q7, .inl (G.2.1, 242, .inl (fun _ => 0)))] H locs := w
  refine lv_iconst (v := 1) hx hb dX12_period_12 (by decide) ?_
  refine fin_i C w (run_V C w mv_X12_267 (k32_may C.b0 q0 q8 q7 q9 q10 q11 q12 q13 q14 q1 q15 q2 q16 q17 q18 q19 q20 q21 q22 q23 q24 q25 q26 q27 q28 q29 q30 q31 q32 q33 q34 q35 q36 q37 q38 q3 q4 q5 q6 q39 q40 q41 q42 H.size) [0] rfl rfl 0 rfl rfl (by decide) rfl hl.1 rfl (Nat.le_of_ble_eq_true rfl) dX12_period_13 (cells2 := 0) (slots2 := 0) (by decide)) [0] [1, 2, 3, 4, 5, 6, 7] rfl rfl (by decide) (cells2 := 0) (slots2 := 0) (by decide) (fun u2 H locs w => ?_)
  have w : Wd s G A [(q1, .inl (G.2.1, 57, .inl (fun _ => 0))), (q2, .inl (G.2.1, 8, .inl (fun _ => 0))), (q3, .inl (G.2.1, 8, .inl (fun _ => 0))), (q4, .inl (G.2.1, 8, .inl (fun _ => 0))), (q5, .inl (G.2.1, 32016, .inl (fun _ => 0))), (q6, .inl (G.2.1, 16008, .inl (fun _ => 0))), (q7, .inl (G.2.1, 242, .inl (fun _ => 0))), (q0, .inr (12, [.int 0, .int 0, .int 0, .int 0, .int 0, .int 0, .int 0, .int (-1), .ref q8, .ref q7, .ref q9, .int 0, .ref q10, .ref q11, .ref q12, .ref q13, .ref q14, .ref q1, .ref q15, .int 0, .ref q2, .ref q16, .ref q17, .ref q18, .ref q19, .ref q20, .ref q21, .int 0, .int (-1), .int 0, .ref q22, .ref q23, .ref q24, .ref q25, .ref q26, .ref q27, .ref q28, .ref q29, .int 0, .ref q30, .ref q31, .ref q32, .ref q33, .ref q34, .int 0, .ref q35, .ref q36, .ref q37, .ref q38, .int 0, .ref q3, .ref q4, .ref q5, .ref q6, .int 0, .int 0, .ref q39, .ref q40, .ref q41, .ref q42]))] H locs := w
  refine lv_if_ne (tgt := 21) hx hb dX12_period_16 (by decide) (fun _ => ?_) (fun h => h.elim (by decide))
  refine lv_aload_n hx hb dX12_period_21 rfl (lv_at hl 0 rfl) ?_
  refine fin_v C w (run_V C w mv_X12_450 (k475_findPeriod C.b0 q0 q1 q2 q3 q4 q5 q6 q7 q8 q9 q10 q11 q12 q13 q14 q15 q16 q17 q18 q19 q20 q21 q22 q23 q24 q25 q26 q27 q28 q29 q30 q31 q32 q33 q34 q35 q36 q37 q38 q39 q40 q41 q42 H.size) [7, 0, 1, 2, 3, 4, 5, 6] rfl rfl 7 rfl rfl (by decide) rfl hl.1 rfl (Nat.le_of_ble_eq_true rfl) dX12_period_22 (cells2 := 0) (slots2 := 0) (by decide)) [7, 0, 1, 2, 3, 4, 5, 6] [] rfl rfl (by decide) (cells2 := 0) (slots2 := 0) (by decide) (fun u3 H locs w => ?_)
  have w : Wd s G A [(q0, .inr (12, [.int 0, .int 0, .int 0, .int 0, .int 0, .int 0, .int 0, .int (-1), .ref q8, .ref q7, .ref q9, .int 0, .ref q10, .ref q11, .ref q12, .ref q13, .ref q14, .ref q1, .ref q15, .int 0, .ref q2, .ref q16, .ref q17, .ref q18, .ref q19, .ref q20, .ref q21, .int 0, .int (-1), .int 0, .ref q22, .ref q23, .ref q24, .ref q25, .ref q26, .ref q27, .ref q28, .ref q29, .int 0, .ref q30, .ref q31, .ref q32, .ref q33, .ref q34, .int 0, .ref q35, .ref q36, .ref q37, .ref q38, .int 0, .ref q3, .ref q4, .ref q5, .ref q6, .int 0, .int 1, .ref q39, .ref q40, .ref q41, .ref q42])), (q1, .inl (G.2.1, 57, .inl (fun _ => 0))), (q2, .inl (G.2.1, 8, .inl (fun _ => 0))), (q3, .inl (G.2.1, 8, .inl (fun _ => 0))), (q4, .inl (G.2.1, 8, .inl (fun _ => 0))), (q5, .inl (G.2.1, 32016, .inl (fun _ => 0))), (q6, .inl (G.2.1, 16008, .inl (fun _ => 0))), (q7, .inl (G.2.1, 242, .inl (fun _ => 0)))] H locs := w
  refine lv_aload_n hx hb dX12_period_25 rfl (lv_at hl 0 rfl) ?_
  refine r_get C w 0 rfl fr_X12_444 rfl dX12_period_26 ?_
  refine lv_iconst (v := (-1)) hx hb dX12_period_29 (by decide) ?_
  refine lv_icmp_ne (tgt := 37) hx hb dX12_period_30 (by decide) (fun _ => ?_) (fun h => h.elim (by decide))
  refine lv_iload_n hx hb dX12_period_37 rfl (lv_at hl 1 rfl) ?_
  refine lv_if_ne (tgt := 48) hx hb dX12_period_38 (by decide) (fun _ => ?_) (fun h => h.elim h0)
  refine lv_aload_n hx hb dX12_period_48 rfl (lv_at hl 0 rfl) ?_
  refine r_get C w 0 rfl fr_X12_447 rfl dX12_period_49 ?_
  refine lv_aload_n hx hb dX12_period_52 rfl (lv_at hl 0 rfl) ?_
  refine r_get C w 0 rfl fr_X12_444 rfl dX12_period_53 ?_
  refine lv_isub hx hb dX12_period_56 ?_
  refine z_i (v := 1) (by decide +kernel) ?_
  exact e_i C hr w (fun _ => 0) [0, 1, 2, 3, 4, 5, 6, 7] rfl rfl rfl dX12_period_57 (by decide) (by decide)
set_option maxRecDepth 100000 in
set_option maxHeartbeats 4000000 in
theorem k481_beat {l : Launch} {s0 : State} {a0 : Array Value} {G : GT} (b0 : B0 l s0 a0 G) (q0 q1 q2 q3 q4 q5 q6 q7 q8 q9 q10 q11 q12 q13 q14 q15 q16 q17 q18 q19 q20 q21 q22 q23 q24 : Nat) (x0 : Int32) (sz : Nat) : Kx l s0 G yX11_beat cX11_beat 2 (some .int) { frames := 7, cells := 1, slots := 6, locals := 111 } [.ref q0, .int x0] [(q0, .inr (11, [.ref q2, .ref q3, .ref q4, .ref q5, .ref q6, .ref q7, .ref q8, .ref q9, .ref q1, .ref q10, .int 0, .int (-1), .int 0, .int 0, .null, .null, .null, .null, .null])), (q1, .inr (2, [.int 0, .int 0, .ref q11, .ref q12, .ref q13, .ref q14, .ref q15, .ref q16, .ref q17, .ref q18, .ref q19, .ref q20, .ref q21, .ref q22, .ref q23, .ref q24, .int 0]))] sz "java/util/NoSuchElementException" := by
  refine Kx.of b0 (own := RX11) (nm := "beat") [(0, .ref q0), (1, .int x0)] rfl rfl (by decide +kernel) (Nat.le_of_ble_eq_true rfl) rfl ?_
  intro p e s m below meth c A C ht H locs w ls hl
  have hx := C.hx
  have hb := C.hb
  refine lv_aload_n hx hb dX11_beat_0 rfl (lv_at hl 0 rfl) ?_
  refine lv_iload_n hx hb dX11_beat_1 rfl (lv_at hl 1 rfl) ?_
  refine fin_x C w (run_Vx C w mv_X11_104 (k60_needAct C.b0 q0 q1 q2 q3 q4 q5 q6 q7 q8 q9 q10 q11 q12 q13 q14 q15 q16 q17 q18 q19 q20 q21 q22 q23 q24 x0 H.size) [0, 1] rfl rfl 0 rfl rfl (by decide) rfl hl.1 rfl (Nat.le_of_ble_eq_true rfl) dX11_beat_2 (cells2 := 1) (slots2 := 6) (by decide)) [0, 1] [] rfl rfl (by decide) (cells2 := 1) (slots2 := 6) (by decide) (fun qx2 ce H locs w hce hcv hcl => ?_)
  have w : Wd s G A [(q0, .inr (11, [.ref q2, .ref q3, .ref q4, .ref q5, .ref q6, .ref q7, .ref q8, .ref q9, .ref q1, .ref q10, .int 0, .int (-1), .int 0, .int 0, .null, .null, .null, .null, .null])), (q1, .inr (2, [.int 0, .int 0, .ref q11, .ref q12, .ref q13, .ref q14, .ref q15, .ref q16, .ref q17, .ref q18, .ref q19, .ref q20, .ref q21, .ref q22, .ref q23, .ref q24, .int 0]))] H locs := w
  exact r_out C ht w [0, 1] rfl rfl hce hcv hcl (by decide) (by decide)
set_option maxRecDepth 100000 in
set_option maxHeartbeats 4000000 in
theorem k482_beat {l : Launch} {s0 : State} {a0 : Array Value} {G : GT} (b0 : B0 l s0 a0 G) (q0 q1 q2 q3 q4 q5 q6 q7 q8 q9 q10 q11 q12 q13 q14 q15 q16 q17 q18 q19 q20 q21 q22 q23 q24 q25 : Nat) (x0 : Int32) (sz : Nat) : Kh l s0 G yL_beat cL_beat 4 (some .int) [(0, 9, 12, 22)] { frames := 8, cells := 1, slots := 6, locals := 132 } [.ref q0, .int x0, .ref q2] [(q0, .inr (11, [.ref q3, .ref q4, .ref q5, .ref q6, .ref q7, .ref q8, .ref q9, .ref q10, .ref q1, .ref q11, .int 0, .int (-1), .int 0, .int 0, .null, .null, .null, .null, .null])), (q1, .inr (2, [.int 0, .int 0, .ref q12, .ref q13, .ref q14, .ref q15, .ref q16, .ref q17, .ref q18, .ref q19, .ref q20, .ref q21, .ref q22, .ref q23, .ref q24, .ref q25, .int 0]))] sz 1 (fun u => [(q0, .inr (11, [.ref q3, .ref q4, .ref q5, .ref q6, .ref q7, .ref q8, .ref q9, .ref q10, .ref q1, .ref q11, .int 0, .int (-1), .int 0, .int 0, .null, .null, .null, .null, .null])), (q1, .inr (2, [.int 0, .int 0, .ref q12, .ref q13, .ref q14, .ref q15, .ref q16, .ref q17, .ref q18, .ref q19, .ref q20, .ref q21, .ref q22, .ref q23, .ref q24, .ref q25, .int 0]))]) := by
  refine Kh.of b0 (own := RL) (nm := "beat") [(0, .ref q0), (1, .int x0), (2, .ref q2)] rfl rfl (by decide +kernel) (Nat.le_of_ble_eq_true rfl) rfl ?_
  intro p e s m below meth c A C hr ht H locs w ls hl
  have hx := C.hx
  have hb := C.hb
  refine lv_aload_n hx hb dL_beat_0 rfl (lv_at hl 2 rfl) ?_
  refine lv_iconst (v := 0) hx hb dL_beat_1 (by decide) ?_
  refine lv_aload_n hx hb dL_beat_2 rfl (lv_at hl 0 rfl) ?_
  refine lv_iload_n hx hb dL_beat_3 rfl (lv_at hl 1 rfl) ?_
  refine fin_x C w (run_Vx C w mv_L_114 (k481_beat C.b0 q0 q1 q3 q4 q5 q6 q7 q8 q9 q10 q11 q12 q13 q14 q15 q16 q17 q18 q19 q20 q21 q22 q23 q24 q25 x0 H.size) [0, 1] rfl rfl 0 rfl rfl (by decide) rfl hl.1 rfl (Nat.le_of_ble_eq_true rfl) dL_beat_4 (cells2 := 1) (slots2 := 6) (by decide)) [0, 1] [] rfl rfl (by decide) (cells2 := 1) (slots2 := 6) (by decide) (fun qx2 ce H locs w hce hcv hcl => ?_)
  have w : Wd s G A [(q0, .inr (11, [.ref q3, .ref q4, .ref q5, .ref q6, .ref q7, .ref q8, .ref q9, .ref q10, .ref q1, .ref q11, .int 0, .int (-1), .int 0, .int 0, .null, .null, .null, .null, .null])), (q1, .inr (2, [.int 0, .int 0, .ref q12, .ref q13, .ref q14, .ref q15, .ref q16, .ref q17, .ref q18, .ref q19, .ref q20, .ref q21, .ref q22, .ref q23, .ref q24, .ref q25, .int 0]))] H locs := w
  refine r_catch C ht (by decide) (by decide) tl_L_22 tk_java_util_NoSuchElementException hce hcv hcl ?_
  refine lv_astore_n (lv' := [(3, .ref qx2), (0, .ref q0), (1, .int x0), (2, .ref q2)]) hx hb dL_beat_12 rfl hl (by decide) rfl (fun ls hl => ?_)
  refine lv_iconst (v := 1) hx hb dL_beat_13 (by decide) ?_
  exact e_i C hr w (fun _ => 0) [0, 1] rfl rfl rfl dL_beat_14 (by decide) (by decide)
set_option maxRecDepth 100000 in
set_option maxHeartbeats 4000000 in
theorem k483_beat {l : Launch} {s0 : State} {a0 : Array Value} {G : GT} (b0 : B0 l s0 a0 G) (q0 q1 q2 q3 q4 q5 q6 q7 q8 q9 q10 q11 q12 q13 q14 q15 q16 q17 q18 q19 q20 q21 q22 q23 q24 q25 q26 q27 q28 q29 q30 q31 q32 q33 q34 q35 q36 q37 q38 q39 q40 q41 q42 : Nat) (x0 : Int32) (sz : Nat) : Ki l s0 G yX12_beat cX12_beat 2 (some .int) { frames := 2, cells := 0, slots := 0, locals := 44 } [.ref q0, .int x0] [(q0, .inr (12, [.int 0, .int 0, .int 0, .int 0, .int 0, .int 0, .int 0, .int (-1), .ref q2, .ref q1, .ref q3, .int 0, .ref q4, .ref q5, .ref q6, .ref q7, .ref q8, .ref q9, .ref q10, .int 0, .ref q11, .ref q12, .ref q13, .ref q14, .ref q15, .ref q16, .ref q17, .int 0, .int (-1), .int 0, .ref q18, .ref q19, .ref q20, .ref q21, .ref q22, .ref q23, .ref q24, .ref q25, .int 0, .ref q26, .ref q27, .ref q28, .ref q29, .ref q30, .int 0, .ref q31, .ref q32, .ref q33, .ref q34, .int 0, .ref q35, .ref q36, .ref q37, .ref q38, .int 0, .int 0, .ref q39, .ref q40, .ref q41, .ref q42])), (q1, .inl (G.2.1, 242, .inl (fun _ => 0)))] sz 0 (fun u => [(q0, .inr (12, [.int 1, .int 0, .int 0, .int 0, .int 0, .int 0, .int 0, .int (-1), .ref q2, .ref q1, .ref q3, .int 0, .ref q4, .ref q5, .ref q6, .ref q7, .ref q8, .ref q9, .ref q10, .int 0, .ref q11, .ref q12, .ref q13, .ref q14, .ref q15, .ref q16, .ref q17, .int 0, .int (-1), .int 0, .ref q18, .ref q19, .ref q20, .ref q21, .ref q22, .ref q23, .ref q24, .ref q25, .int 0, .ref q26, .ref q27, .ref q28, .ref q29, .ref q30, .int 0, .ref q31, .ref q32, .ref q33, .ref q34, .int 0, .ref q35, .ref q36, .ref q37, .ref q38, .int 0, .int 0, .ref q39, .ref q40, .ref q41, .ref q42])), (q1, .inl (G.2.1, 242, .inl (fun _ => 0)))]) := by
  refine Ki.of b0 (own := RX12) (nm := "beat") [(0, .ref q0), (1, .int x0)] rfl rfl (by decide +kernel) (Nat.le_of_ble_eq_true rfl) rfl ?_
  intro p e s m below meth c A C hr H locs w ls hl
  have hx := C.hx
  have hb := C.hb
  refine lv_aload_n hx hb dX12_beat_0 rfl (lv_at hl 0 rfl) ?_
  refine lv_iconst (v := 0) hx hb dX12_beat_1 (by decide) ?_
  refine r_put C w 0 rfl fl_X12_1 (Nat.le_of_ble_eq_true rfl) rfl rfl dX12_beat_2 (ws2 := [(q0, .inr (12, [.int 0, .int 0, .int 0, .int 0, .int 0, .int 0, .int 0, .int (-1), .ref q2, .ref q1, .ref q3, .int 0, .ref q4, .ref q5, .ref q6, .ref q7, .ref q8, .ref q9, .ref q10, .int 0, .ref q11, .ref q12, .ref q13, .ref q14, .ref q15, .ref q16, .ref q17, .int 0, .int (-1), .int 0, .ref q18, .ref q19, .ref q20, .ref q21, .ref q22, .ref q23, .ref q24, .ref q25, .int 0, .ref q26, .ref q27, .ref q28, .ref q29, .ref q30, .int 0, .ref q31, .ref q32, .ref q33, .ref q34, .int 0, .ref q35, .ref q36, .ref q37, .ref q38, .int 0, .int 0, .ref q39, .ref q40, .ref q41, .ref q42])), (q1, .inl (G.2.1, 242, .inl (fun _ => 0)))]) rfl (fun H locs w => ?_)
  refine lv_aload_n hx hb dX12_beat_5 rfl (lv_at hl 0 rfl) ?_
  refine lv_iload_n hx hb dX12_beat_6 rfl (lv_at hl 1 rfl) ?_
  refine lv_iconst (v := 1) hx hb dX12_beat_7 (by decide) ?_
  refine fin_i C w (run_V C w mv_X12_293 (k64_isAct C.b0 q0 q1 q2 q3 q4 q5 q6 q7 q8 q9 q10 q11 q12 q13 q14 q15 q16 q17 q18 q19 q20 q21 q22 q23 q24 q25 q26 q27 q28 q29 q30 q31 q32 q33 q34 q35 q36 q37 q38 q39 q40 q41 q42 x0 H.size) [0, 1] rfl rfl 0 rfl rfl (by decide) rfl hl.1 rfl (Nat.le_of_ble_eq_true rfl) dX12_beat_8 (cells2 := 0) (slots2 := 0) (by decide)) [0, 1] [] rfl rfl (by decide) (cells2 := 0) (slots2 := 0) (by decide) (fun u1 H locs w => ?_)
  have w : Wd s G A [(q0, .inr (12, [.int 1, .int 0, .int 0, .int 0, .int 0, .int 0, .int 0, .int (-1), .ref q2, .ref q1, .ref q3, .int 0, .ref q4, .ref q5, .ref q6, .ref q7, .ref q8, .ref q9, .ref q10, .int 0, .ref q11, .ref q12, .ref q13, .ref q14, .ref q15, .ref q16, .ref q17, .int 0, .int (-1), .int 0, .ref q18, .ref q19, .ref q20, .ref q21, .ref q22, .ref q23, .ref q24, .ref q25, .int 0, .ref q26, .ref q27, .ref q28, .ref q29, .ref q30, .int 0, .ref q31, .ref q32, .ref q33, .ref q34, .int 0, .ref q35, .ref q36, .ref q37, .ref q38, .int 0, .int 0, .ref q39, .ref q40, .ref q41, .ref q42])), (q1, .inl (G.2.1, 242, .inl (fun _ => 0)))] H locs := w
  refine lv_if_ne (tgt := 16) hx hb dX12_beat_11 (by decide) (fun h => absurd (by decide) h) (fun _ => ?_)
  refine lv_iconst (v := 0) hx hb dX12_beat_14 (by decide) ?_
  exact e_i C hr w (fun _ => 0) [0, 1] rfl rfl rfl dX12_beat_15 (by decide) (by decide)
set_option maxRecDepth 100000 in
set_option maxHeartbeats 4000000 in
theorem k484_needWithin {l : Launch} {s0 : State} {a0 : Array Value} {G : GT} (b0 : B0 l s0 a0 G) (x0 : Int32) (h0 : x0 < 1) (sz : Nat) : Kx l s0 G yX11_needWithin cX11_needWithin 3 none { frames := 6, cells := 1, slots := 6, locals := 90 } [.int x0, .int 1, .int 1000] [] sz "java/lang/IllegalArgumentException" := by
  refine Kx.of b0 (own := RX11) (nm := "needWithin") [(0, .int x0), (1, .int 1), (2, .int 1000)] rfl rfl (by decide +kernel) (Nat.le_of_ble_eq_true rfl) rfl ?_
  intro p e s m below meth c A C ht H locs w ls hl
  have hx := C.hx
  have hb := C.hb
  refine lv_iload_n hx hb dX11_needWithin_0 rfl (lv_at hl 0 rfl) ?_
  refine lv_iload_n hx hb dX11_needWithin_1 rfl (lv_at hl 1 rfl) ?_
  refine lv_icmp_lt (tgt := 10) hx hb dX11_needWithin_2 (by decide) (fun _ => ?_) (fun h => absurd h0 h)
  exact r_throwS C ht w hl.1 th_X11_247 C.b0.2.2.2.2.2.1 dX11_needWithin_10 dX11_needWithin_13 dX11_needWithin_14 dX11_needWithin_16 dX11_needWithin_19 (by decide) (Nat.le_of_ble_eq_true rfl) (by decide) (by decide) (by decide) (by decide) [] rfl rfl
set_option maxRecDepth 100000 in
set_option maxHeartbeats 4000000 in
theorem k485_lots {l : Launch} {s0 : State} {a0 : Array Value} {G : GT} (b0 : B0 l s0 a0 G) (q0 : Nat) (x0 : Int32) (x1 : Int32) (h0 : x0 < 1) (sz : Nat) : Kx l s0 G yX11_lots cX11_lots 3 (some .int) { frames := 7, cells := 1, slots := 6, locals := 112 } [.ref q0, .int x0, .int x1] [] sz "java/lang/IllegalArgumentException" := by
  refine Kx.of b0 (own := RX11) (nm := "lots") [(0, .ref q0), (1, .int x0), (2, .int x1)] rfl rfl (by decide +kernel) (Nat.le_of_ble_eq_true rfl) rfl ?_
  intro p e s m below meth c A C ht H locs w ls hl
  have hx := C.hx
  have hb := C.hb
  refine lv_iload_n hx hb dX11_lots_0 rfl (lv_at hl 1 rfl) ?_
  refine lv_iconst (v := 1) hx hb dX11_lots_1 (by decide) ?_
  refine lv_sipush (v := 1000) hx hb dX11_lots_2 (by decide) ?_
  refine fin_x C w (run_Sx C w ms_X11_72 (k484_needWithin C.b0 x0 h0 H.size) [] rfl rfl (by decide) rfl hl.1 rfl (Nat.le_of_ble_eq_true rfl) dX11_lots_5 (cells2 := 1) (slots2 := 6) (by decide)) [] [] rfl rfl (by decide) (cells2 := 1) (slots2 := 6) (by decide) (fun qx2 ce H locs w hce hcv hcl => ?_)
  have w : Wd s G A [] H locs := w
  exact r_out C ht w [] rfl rfl hce hcv hcl (by decide) (by decide)
set_option maxRecDepth 100000 in
set_option maxHeartbeats 4000000 in
theorem k486_lots {l : Launch} {s0 : State} {a0 : Array Value} {G : GT} (b0 : B0 l s0 a0 G) (q0 q1 q2 q3 q4 q5 q6 q7 q8 q9 q10 q11 : Nat) (x0 : Int32) (x1 : Int32) (h0 : x0 < 1) (sz : Nat) : Kh l s0 G yL_lots cL_lots 5 (some .int) [(0, 10, 13, 13)] { frames := 8, cells := 1, slots := 6, locals := 134 } [.ref q0, .int x0, .int x1, .ref q1] [(q0, .inr (11, [.ref q2, .ref q3, .ref q4, .ref q5, .ref q6, .ref q7, .ref q8, .ref q9, .ref q10, .ref q11, .int 0, .int (-1), .int 0, .int 0, .null, .null, .null, .null, .null]))] sz 1 (fun u => [(q0, .inr (11, [.ref q2, .ref q3, .ref q4, .ref q5, .ref q6, .ref q7, .ref q8, .ref q9, .ref q10, .ref q11, .int 0, .int (-1), .int 0, .int 0, .null, .null, .null, .null, .null]))]) := by
  refine Kh.of b0 (own := RL) (nm := "lots") [(0, .ref q0), (1, .int x0), (2, .int x1), (3, .ref q1)] rfl rfl (by decide +kernel) (Nat.le_of_ble_eq_true rfl) rfl ?_
  intro p e s m below meth c A C hr ht H locs w ls hl
  have hx := C.hx
  have hb := C.hb
  refine lv_aload_n hx hb dL_lots_0 rfl (lv_at hl 3 rfl) ?_
  refine lv_iconst (v := 0) hx hb dL_lots_1 (by decide) ?_
  refine lv_aload_n hx hb dL_lots_2 rfl (lv_at hl 0 rfl) ?_
  refine lv_iload_n hx hb dL_lots_3 rfl (lv_at hl 1 rfl) ?_
  refine lv_iload_n hx hb dL_lots_4 rfl (lv_at hl 2 rfl) ?_
  refine fin_x C w (run_Vx C w mv_L_117 (k485_lots C.b0 q0 x0 x1 h0 H.size) [] rfl rfl 0 rfl rfl (by decide) rfl hl.1 rfl (Nat.le_of_ble_eq_true rfl) dL_lots_5 (cells2 := 1) (slots2 := 6) (by decide)) [] [0] rfl rfl (by decide) (cells2 := 1) (slots2 := 6) (by decide) (fun qx2 ce H locs w hce hcv hcl => ?_)
  have w : Wd s G A [(q0, .inr (11, [.ref q2, .ref q3, .ref q4, .ref q5, .ref q6, .ref q7, .ref q8, .ref q9, .ref q10, .ref q11, .int 0, .int (-1), .int 0, .int 0, .null, .null, .null, .null, .null]))] H locs := w
  refine r_catch C ht (by decide) (by decide) tl_L_13 tk_java_lang_IllegalArgumentException hce hcv hcl ?_
  refine lv_astore (lv' := [(4, .ref qx2), (0, .ref q0), (1, .int x0), (2, .int x1), (3, .ref q1)]) hx hb dL_lots_13 hl (by decide) rfl (fun ls hl => ?_)
  refine lv_iconst (v := 1) hx hb dL_lots_15 (by decide) ?_
  exact e_i C hr w (fun _ => 0) [0] rfl rfl rfl dL_lots_16 (by decide) (by decide)
