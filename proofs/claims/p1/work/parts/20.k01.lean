set_option maxRecDepth 100000 in
set_option maxHeartbeats 4000000 in
theorem k73_marks {l : Launch} {s0 : State} {a0 : Array Value} {G : GT} (b0 : B0 l s0 a0 G) (q0 q1 q2 q3 q4 q5 q6 q7 q8 q9 q10 q11 q12 q13 q14 q15 q16 q17 q18 q19 q20 q21 q22 q23 q24 q25 q26 q27 q28 q29 q30 q31 q32 q33 q34 q35 q36 q37 q38 q39 q40 q41 q42 : Nat) (x0 : Int32) (x1 : Int32) (sz : Nat) : Ki l s0 G yX12_marks cX12_marks 3 (some .int) { frames := 2, cells := 0, slots := 0, locals := 44 } [.ref q0, .int x0, .int x1] [(q0, .inr (12, [.int 0, .int 0, .int 0, .int 0, .int 0, .int 0, .int 0, .int (-1), .ref q2, .ref q1, .ref q3, .int 0, .ref q4, .ref q5, .ref q6, .ref q7, .ref q8, .ref q9, .ref q10, .int 0, .ref q11, .ref q12, .ref q13, .ref q14, .ref q15, .ref q16, .ref q17, .int 0, .int (-1), .int 0, .ref q18, .ref q19, .ref q20, .ref q21, .ref q22, .ref q23, .ref q24, .ref q25, .int 0, .ref q26, .ref q27, .ref q28, .ref q29, .ref q30, .int 0, .ref q31, .ref q32, .ref q33, .ref q34, .int 0, .ref q35, .ref q36, .ref q37, .ref q38, .int 0, .int 0, .ref q39, .ref q40, .ref q41, .ref q42])), (q1, .inl (G.2.1, 242, .inl (fun _ => 0)))] sz 0 (fun u => [(q0, .inr (12, [.int 1, .int 0, .int 0, .int 0, .int 0, .int 0, .int 0, .int (-1), .ref q2, .ref q1, .ref q3, .int 0, .ref q4, .ref q5, .ref q6, .ref q7, .ref q8, .ref q9, .ref q10, .int 0, .ref q11, .ref q12, .ref q13, .ref q14, .ref q15, .ref q16, .ref q17, .int 0, .int (-1), .int 0, .ref q18, .ref q19, .ref q20, .ref q21, .ref q22, .ref q23, .ref q24, .ref q25, .int 0, .ref q26, .ref q27, .ref q28, .ref q29, .ref q30, .int 0, .ref q31, .ref q32, .ref q33, .ref q34, .int 0, .ref q35, .ref q36, .ref q37, .ref q38, .int 0, .int 0, .ref q39, .ref q40, .ref q41, .ref q42])), (q1, .inl (G.2.1, 242, .inl (fun _ => 0)))]) := by
  refine Ki.of b0 (own := RX12) (nm := "marks") [(0, .ref q0), (1, .int x0), (2, .int x1)] rfl rfl (by decide +kernel) (Nat.le_of_ble_eq_true rfl) rfl ?_
  intro p e s m below meth c A C hr H locs w ls hl
  have hx := C.hx
  have hb := C.hb
  refine lv_aload_n hx hb dX12_marks_0 rfl (lv_at hl 0 rfl) ?_
  refine lv_iconst (v := 0) hx hb dX12_marks_1 (by decide) ?_
  refine r_put C w 0 rfl fl_X12_1 (Nat.le_of_ble_eq_true rfl) rfl rfl dX12_marks_2 (ws2 := [(q0, .inr (12, [.int 0, .int 0, .int 0, .int 0, .int 0, .int 0, .int 0, .int (-1), .ref q2, .ref q1, .ref q3, .int 0, .ref q4, .ref q5, .ref q6, .ref q7, .ref q8, .ref q9, .ref q10, .int 0, .ref q11, .ref q12, .ref q13, .ref q14, .ref q15, .ref q16, .ref q17, .int 0, .int (-1), .int 0, .ref q18, .ref q19, .ref q20, .ref q21, .ref q22, .ref q23, .ref q24, .ref q25, .int 0, .ref q26, .ref q27, .ref q28, .ref q29, .ref q30, .int 0, .ref q31, .ref q32, .ref q33, .ref q34, .int 0, .ref q35, .ref q36, .ref q37, .ref q38, .int 0, .int 0, .ref q39, .ref q40, .ref q41, .ref q42])), (q1, .inl (G.2.1, 242, .inl (fun _ => 0)))]) rfl (fun H locs w => ?_)
  refine lv_aload_n hx hb dX12_marks_5 rfl (lv_at hl 0 rfl) ?_
  refine lv_iload_n hx hb dX12_marks_6 rfl (lv_at hl 1 rfl) ?_
  refine lv_iconst (v := 1) hx hb dX12_marks_7 (by decide) ?_
  refine fin_i C w (run_V C w mv_X12_297 (k72_isPlace C.b0 q0 q1 q2 q3 q4 q5 q6 q7 q8 q9 q10 q11 q12 q13 q14 q15 q16 q17 q18 q19 q20 q21 q22 q23 q24 q25 q26 q27 q28 q29 q30 q31 q32 q33 q34 q35 q36 q37 q38 q39 q40 q41 q42 x0 H.size) [0, 1] rfl rfl 0 rfl rfl (by decide) rfl hl.1 rfl (Nat.le_of_ble_eq_true rfl) dX12_marks_8 (cells2 := 0) (slots2 := 0) (by decide)) [0, 1] [] rfl rfl (by decide) (cells2 := 0) (slots2 := 0) (by decide) (fun u1 H locs w => ?_)
  have w : Wd s G A [(q0, .inr (12, [.int 1, .int 0, .int 0, .int 0, .int 0, .int 0, .int 0, .int (-1), .ref q2, .ref q1, .ref q3, .int 0, .ref q4, .ref q5, .ref q6, .ref q7, .ref q8, .ref q9, .ref q10, .int 0, .ref q11, .ref q12, .ref q13, .ref q14, .ref q15, .ref q16, .ref q17, .int 0, .int (-1), .int 0, .ref q18, .ref q19, .ref q20, .ref q21, .ref q22, .ref q23, .ref q24, .ref q25, .int 0, .ref q26, .ref q27, .ref q28, .ref q29, .ref q30, .int 0, .ref q31, .ref q32, .ref q33, .ref q34, .int 0, .ref q35, .ref q36, .ref q37, .ref q38, .int 0, .int 0, .ref q39, .ref q40, .ref q41, .ref q42])), (q1, .inl (G.2.1, 242, .inl (fun _ => 0)))] H locs := w
  refine lv_if_eq (tgt := 28) hx hb dX12_marks_11 (by decide) (fun _ => ?_) (fun h => absurd (by decide) h)
  refine lv_iconst (v := 0) hx hb dX12_marks_28 (by decide) ?_
  exact e_i C hr w (fun _ => 0) [0, 1] rfl rfl rfl dX12_marks_29 (by decide) (by decide)
set_option maxRecDepth 100000 in
set_option maxHeartbeats 4000000 in
theorem k74_put {l : Launch} {s0 : State} {a0 : Array Value} {G : GT} (b0 : B0 l s0 a0 G) (q0 q1 q2 q3 q4 q5 q6 q7 q8 q9 q10 q11 q12 q13 q14 q15 q16 q17 q18 q19 q20 q21 q22 q23 q24 : Nat) (x0 : Int32) (x1 : Int32) (sz : Nat) : Kx l s0 G yX11_put cX11_put 4 (some .int) { frames := 7, cells := 1, slots := 6, locals := 111 } [.ref q0, .int x0, .int x1] [(q0, .inr (11, [.ref q2, .ref q3, .ref q4, .ref q5, .ref q6, .ref q7, .ref q8, .ref q9, .ref q1, .ref q10, .int 0, .int (-1), .int 0, .int 0, .null, .null, .null, .null, .null])), (q1, .inr (2, [.int 0, .int 0, .ref q11, .ref q12, .ref q13, .ref q14, .ref q15, .ref q16, .ref q17, .ref q18, .ref q19, .ref q20, .ref q21, .ref q22, .ref q23, .ref q24, .int 0]))] sz "java/lang/IndexOutOfBoundsException" := by
  refine Kx.of b0 (own := RX11) (nm := "put") [(0, .ref q0), (1, .int x0), (2, .int x1)] rfl rfl (by decide +kernel) (Nat.le_of_ble_eq_true rfl) rfl ?_
  intro p e s m below meth c A C ht H locs w ls hl
  have hx := C.hx
  have hb := C.hb
  refine lv_aload_n hx hb dX11_put_0 rfl (lv_at hl 0 rfl) ?_
  refine lv_iload_n hx hb dX11_put_1 rfl (lv_at hl 1 rfl) ?_
  refine fin_x C w (run_Vx C w mv_X11_107 (k69_needPlace C.b0 q0 q1 q2 q3 q4 q5 q6 q7 q8 q9 q10 q11 q12 q13 q14 q15 q16 q17 q18 q19 q20 q21 q22 q23 q24 x0 H.size) [0, 1] rfl rfl 0 rfl rfl (by decide) rfl hl.1 rfl (Nat.le_of_ble_eq_true rfl) dX11_put_2 (cells2 := 1) (slots2 := 6) (by decide)) [0, 1] [] rfl rfl (by decide) (cells2 := 1) (slots2 := 6) (by decide) (fun qx2 ce H locs w hce hcv hcl => ?_)
  have w : Wd s G A [(q0, .inr (11, [.ref q2, .ref q3, .ref q4, .ref q5, .ref q6, .ref q7, .ref q8, .ref q9, .ref q1, .ref q10, .int 0, .int (-1), .int 0, .int 0, .null, .null, .null, .null, .null])), (q1, .inr (2, [.int 0, .int 0, .ref q11, .ref q12, .ref q13, .ref q14, .ref q15, .ref q16, .ref q17, .ref q18, .ref q19, .ref q20, .ref q21, .ref q22, .ref q23, .ref q24, .int 0]))] H locs := w
  exact r_out C ht w [0, 1] rfl rfl hce hcv hcl (by decide) (by decide)
set_option maxRecDepth 100000 in
set_option maxHeartbeats 4000000 in
theorem k75_put {l : Launch} {s0 : State} {a0 : Array Value} {G : GT} (b0 : B0 l s0 a0 G) (q0 q1 q2 q3 q4 q5 q6 q7 q8 q9 q10 q11 q12 q13 q14 q15 q16 q17 q18 q19 q20 q21 q22 q23 q24 q25 : Nat) (x0 : Int32) (x1 : Int32) (sz : Nat) : Kh l s0 G yL_put cL_put 5 (some .int) [(0, 10, 13, 24), (0, 10, 17, 13)] { frames := 8, cells := 1, slots := 6, locals := 134 } [.ref q0, .int x0, .int x1, .ref q2] [(q0, .inr (11, [.ref q3, .ref q4, .ref q5, .ref q6, .ref q7, .ref q8, .ref q9, .ref q10, .ref q1, .ref q11, .int 0, .int (-1), .int 0, .int 0, .null, .null, .null, .null, .null])), (q1, .inr (2, [.int 0, .int 0, .ref q12, .ref q13, .ref q14, .ref q15, .ref q16, .ref q17, .ref q18, .ref q19, .ref q20, .ref q21, .ref q22, .ref q23, .ref q24, .ref q25, .int 0]))] sz 1 (fun u => [(q0, .inr (11, [.ref q3, .ref q4, .ref q5, .ref q6, .ref q7, .ref q8, .ref q9, .ref q10, .ref q1, .ref q11, .int 0, .int (-1), .int 0, .int 0, .null, .null, .null, .null, .null])), (q1, .inr (2, [.int 0, .int 0, .ref q12, .ref q13, .ref q14, .ref q15, .ref q16, .ref q17, .ref q18, .ref q19, .ref q20, .ref q21, .ref q22, .ref q23, .ref q24, .ref q25, .int 0]))]) := by
  refine Kh.of b0 (own := RL) (nm := "put") [(0, .ref q0), (1, .int x0), (2, .int x1), (3, .ref q2)] rfl rfl (by decide +kernel) (Nat.le_of_ble_eq_true rfl) rfl ?_
  intro p e s m below meth c A C hr ht H locs w ls hl
  have hx := C.hx
  have hb := C.hb
  refine lv_aload_n hx hb dL_put_0 rfl (lv_at hl 3 rfl) ?_
  refine lv_iconst (v := 0) hx hb dL_put_1 (by decide) ?_
  refine lv_aload_n hx hb dL_put_2 rfl (lv_at hl 0 rfl) ?_
  refine lv_iload_n hx hb dL_put_3 rfl (lv_at hl 1 rfl) ?_
  refine lv_iload_n hx hb dL_put_4 rfl (lv_at hl 2 rfl) ?_
  refine fin_x C w (run_Vx C w mv_L_33 (k74_put C.b0 q0 q1 q3 q4 q5 q6 q7 q8 q9 q10 q11 q12 q13 q14 q15 q16 q17 q18 q19 q20 q21 q22 q23 q24 q25 x0 x1 H.size) [0, 1] rfl rfl 0 rfl rfl (by decide) rfl hl.1 rfl (Nat.le_of_ble_eq_true rfl) dL_put_5 (cells2 := 1) (slots2 := 6) (by decide)) [0, 1] [] rfl rfl (by decide) (cells2 := 1) (slots2 := 6) (by decide) (fun qx2 ce H locs w hce hcv hcl => ?_)
  have w : Wd s G A [(q0, .inr (11, [.ref q3, .ref q4, .ref q5, .ref q6, .ref q7, .ref q8, .ref q9, .ref q10, .ref q1, .ref q11, .int 0, .int (-1), .int 0, .int 0, .null, .null, .null, .null, .null])), (q1, .inr (2, [.int 0, .int 0, .ref q12, .ref q13, .ref q14, .ref q15, .ref q16, .ref q17, .ref q18, .ref q19, .ref q20, .ref q21, .ref q22, .ref q23, .ref q24, .ref q25, .int 0]))] H locs := w
  refine r_catch C ht (by decide) (by decide) tl_L_24 tk_java_lang_IndexOutOfBoundsException hce hcv hcl ?_
  refine lv_astore (lv' := [(4, .ref qx2), (0, .ref q0), (1, .int x0), (2, .int x1), (3, .ref q2)]) hx hb dL_put_13 hl (by decide) rfl (fun ls hl => ?_)
  refine lv_iconst (v := 1) hx hb dL_put_15 (by decide) ?_
  exact e_i C hr w (fun _ => 0) [0, 1] rfl rfl rfl dL_put_16 (by decide) (by decide)
set_option maxRecDepth 100000 in
set_option maxHeartbeats 4000000 in
theorem k76_put {l : Launch} {s0 : State} {a0 : Array Value} {G : GT} (b0 : B0 l s0 a0 G) (q0 q1 q2 q3 q4 q5 q6 q7 q8 q9 q10 q11 q12 q13 q14 q15 q16 q17 q18 q19 q20 q21 q22 q23 q24 q25 q26 q27 q28 q29 q30 q31 q32 q33 q34 q35 q36 q37 q38 q39 q40 q41 q42 : Nat) (x0 : Int32) (x1 : Int32) (sz : Nat) : Ki l s0 G yX12_put cX12_put 4 (some .int) { frames := 2, cells := 0, slots := 0, locals := 44 } [.ref q0, .int x0, .int x1] [(q0, .inr (12, [.int 0, .int 0, .int 0, .int 0, .int 0, .int 0, .int 0, .int (-1), .ref q2, .ref q1, .ref q3, .int 0, .ref q4, .ref q5, .ref q6, .ref q7, .ref q8, .ref q9, .ref q10, .int 0, .ref q11, .ref q12, .ref q13, .ref q14, .ref q15, .ref q16, .ref q17, .int 0, .int (-1), .int 0, .ref q18, .ref q19, .ref q20, .ref q21, .ref q22, .ref q23, .ref q24, .ref q25, .int 0, .ref q26, .ref q27, .ref q28, .ref q29, .ref q30, .int 0, .ref q31, .ref q32, .ref q33, .ref q34, .int 0, .ref q35, .ref q36, .ref q37, .ref q38, .int 0, .int 0, .ref q39, .ref q40, .ref q41, .ref q42])), (q1, .inl (G.2.1, 242, .inl (fun _ => 0)))] sz 0 (fun u => [(q0, .inr (12, [.int 1, .int 0, .int 0, .int 0, .int 0, .int 0, .int 0, .int (-1), .ref q2, .ref q1, .ref q3, .int 0, .ref q4, .ref q5, .ref q6, .ref q7, .ref q8, .ref q9, .ref q10, .int 0, .ref q11, .ref q12, .ref q13, .ref q14, .ref q15, .ref q16, .ref q17, .int 0, .int (-1), .int 0, .ref q18, .ref q19, .ref q20, .ref q21, .ref q22, .ref q23, .ref q24, .ref q25, .int 0, .ref q26, .ref q27, .ref q28, .ref q29, .ref q30, .int 0, .ref q31, .ref q32, .ref q33, .ref q34, .int 0, .ref q35, .ref q36, .ref q37, .ref q38, .int 0, .int 0, .ref q39, .ref q40, .ref q41, .ref q42])), (q1, .inl (G.2.1, 242, .inl (fun _ => 0)))]) := by
  refine Ki.of b0 (own := RX12) (nm := "put") [(0, .ref q0), (1, .int x0), (2, .int x1)] rfl rfl (by decide +kernel) (Nat.le_of_ble_eq_true rfl) rfl ?_
  intro p e s m below meth c A C hr H locs w ls hl
  have hx := C.hx
  have hb := C.hb
  refine lv_aload_n hx hb dX12_put_0 rfl (lv_at hl 0 rfl) ?_
  refine lv_iconst (v := 0) hx hb dX12_put_1 (by decide) ?_
  refine r_put C w 0 rfl fl_X12_1 (Nat.le_of_ble_eq_true rfl) rfl rfl dX12_put_2 (ws2 := [(q0, .inr (12, [.int 0, .int 0, .int 0, .int 0, .int 0, .int 0, .int 0, .int (-1), .ref q2, .ref q1, .ref q3, .int 0, .ref q4, .ref q5, .ref q6, .ref q7, .ref q8, .ref q9, .ref q10, .int 0, .ref q11, .ref q12, .ref q13, .ref q14, .ref q15, .ref q16, .ref q17, .int 0, .int (-1), .int 0, .ref q18, .ref q19, .ref q20, .ref q21, .ref q22, .ref q23, .ref q24, .ref q25, .int 0, .ref q26, .ref q27, .ref q28, .ref q29, .ref q30, .int 0, .ref q31, .ref q32, .ref q33, .ref q34, .int 0, .ref q35, .ref q36, .ref q37, .ref q38, .int 0, .int 0, .ref q39, .ref q40, .ref q41, .ref q42])), (q1, .inl (G.2.1, 242, .inl (fun _ => 0)))]) rfl (fun H locs w => ?_)
  refine lv_aload_n hx hb dX12_put_5 rfl (lv_at hl 0 rfl) ?_
  refine lv_iload_n hx hb dX12_put_6 rfl (lv_at hl 1 rfl) ?_
  refine lv_iconst (v := 1) hx hb dX12_put_7 (by decide) ?_
  refine fin_i C w (run_V C w mv_X12_297 (k72_isPlace C.b0 q0 q1 q2 q3 q4 q5 q6 q7 q8 q9 q10 q11 q12 q13 q14 q15 q16 q17 q18 q19 q20 q21 q22 q23 q24 q25 q26 q27 q28 q29 q30 q31 q32 q33 q34 q35 q36 q37 q38 q39 q40 q41 q42 x0 H.size) [0, 1] rfl rfl 0 rfl rfl (by decide) rfl hl.1 rfl (Nat.le_of_ble_eq_true rfl) dX12_put_8 (cells2 := 0) (slots2 := 0) (by decide)) [0, 1] [] rfl rfl (by decide) (cells2 := 0) (slots2 := 0) (by decide) (fun u1 H locs w => ?_)
  have w : Wd s G A [(q0, .inr (12, [.int 1, .int 0, .int 0, .int 0, .int 0, .int 0, .int 0, .int (-1), .ref q2, .ref q1, .ref q3, .int 0, .ref q4, .ref q5, .ref q6, .ref q7, .ref q8, .ref q9, .ref q10, .int 0, .ref q11, .ref q12, .ref q13, .ref q14, .ref q15, .ref q16, .ref q17, .int 0, .int (-1), .int 0, .ref q18, .ref q19, .ref q20, .ref q21, .ref q22, .ref q23, .ref q24, .ref q25, .int 0, .ref q26, .ref q27, .ref q28, .ref q29, .ref q30, .int 0, .ref q31, .ref q32, .ref q33, .ref q34, .int 0, .ref q35, .ref q36, .ref q37, .ref q38, .int 0, .int 0, .ref q39, .ref q40, .ref q41, .ref q42])), (q1, .inl (G.2.1, 242, .inl (fun _ => 0)))] H locs := w
  refine lv_if_eq (tgt := 50) hx hb dX12_put_11 (by decide) (fun _ => ?_) (fun h => absurd (by decide) h)
  refine lv_iconst (v := 0) hx hb dX12_put_50 (by decide) ?_
  exact e_i C hr w (fun _ => 0) [0, 1] rfl rfl rfl dX12_put_51 (by decide) (by decide)
set_option maxRecDepth 100000 in
set_option maxHeartbeats 4000000 in
theorem k77_may {l : Launch} {s0 : State} {a0 : Array Value} {G : GT} (b0 : B0 l s0 a0 G) (q0 q1 q2 q3 q4 q5 q6 q7 q8 q9 q10 q11 q12 q13 q14 q15 q16 q17 q18 q19 q20 q21 q22 q23 q24 : Nat) (x0 : Int32) (sz : Nat) : Kx l s0 G yX11_may cX11_may 2 (some .int) { frames := 7, cells := 1, slots := 6, locals := 111 } [.ref q0, .int x0] [(q0, .inr (11, [.ref q2, .ref q3, .ref q4, .ref q5, .ref q6, .ref q7, .ref q8, .ref q9, .ref q1, .ref q10, .int 0, .int (-1), .int 0, .int 0, .null, .null, .null, .null, .null])), (q1, .inr (2, [.int 0, .int 0, .ref q11, .ref q12, .ref q13, .ref q14, .ref q15, .ref q16, .ref q17, .ref q18, .ref q19, .ref q20, .ref q21, .ref q22, .ref q23, .ref q24, .int 0]))] sz "java/util/NoSuchElementException" := by
  refine Kx.of b0 (own := RX11) (nm := "may") [(0, .ref q0), (1, .int x0)] rfl rfl (by decide +kernel) (Nat.le_of_ble_eq_true rfl) rfl ?_
  intro p e s m below meth c A C ht H locs w ls hl
  have hx := C.hx
  have hb := C.hb
  refine lv_aload_n hx hb dX11_may_0 rfl (lv_at hl 0 rfl) ?_
  refine lv_iload_n hx hb dX11_may_1 rfl (lv_at hl 1 rfl) ?_
  refine fin_x C w (run_Vx C w mv_X11_104 (k60_needAct C.b0 q0 q1 q2 q3 q4 q5 q6 q7 q8 q9 q10 q11 q12 q13 q14 q15 q16 q17 q18 q19 q20 q21 q22 q23 q24 x0 H.size) [0, 1] rfl rfl 0 rfl rfl (by decide) rfl hl.1 rfl (Nat.le_of_ble_eq_true rfl) dX11_may_2 (cells2 := 1) (slots2 := 6) (by decide)) [0, 1] [] rfl rfl (by decide) (cells2 := 1) (slots2 := 6) (by decide) (fun qx2 ce H locs w hce hcv hcl => ?_)
  have w : Wd s G A [(q0, .inr (11, [.ref q2, .ref q3, .ref q4, .ref q5, .ref q6, .ref q7, .ref q8, .ref q9, .ref q1, .ref q10, .int 0, .int (-1), .int 0, .int 0, .null, .null, .null, .null, .null])), (q1, .inr (2, [.int 0, .int 0, .ref q11, .ref q12, .ref q13, .ref q14, .ref q15, .ref q16, .ref q17, .ref q18, .ref q19, .ref q20, .ref q21, .ref q22, .ref q23, .ref q24, .int 0]))] H locs := w
  exact r_out C ht w [0, 1] rfl rfl hce hcv hcl (by decide) (by decide)
set_option maxRecDepth 100000 in
set_option maxHeartbeats 4000000 in
theorem k78_may {l : Launch} {s0 : State} {a0 : Array Value} {G : GT} (b0 : B0 l s0 a0 G) (q0 q1 q2 q3 q4 q5 q6 q7 q8 q9 q10 q11 q12 q13 q14 q15 q16 q17 q18 q19 q20 q21 q22 q23 q24 q25 : Nat) (x0 : Int32) (sz : Nat) : Kh l s0 G yL_may cL_may 4 (some .int) [(0, 9, 12, 22)] { frames := 8, cells := 1, slots := 6, locals := 132 } [.ref q0, .int x0, .ref q2] [(q0, .inr (11, [.ref q3, .ref q4, .ref q5, .ref q6, .ref q7, .ref q8, .ref q9, .ref q10, .ref q1, .ref q11, .int 0, .int (-1), .int 0, .int 0, .null, .null, .null, .null, .null])), (q1, .inr (2, [.int 0, .int 0, .ref q12, .ref q13, .ref q14, .ref q15, .ref q16, .ref q17, .ref q18, .ref q19, .ref q20, .ref q21, .ref q22, .ref q23, .ref q24, .ref q25, .int 0]))] sz 1 (fun u => [(q0, .inr (11, [.ref q3, .ref q4, .ref q5, .ref q6, .ref q7, .ref q8, .ref q9, .ref q10, .ref q1, .ref q11, .int 0, .int (-1), .int 0, .int 0, .null, .null, .null, .null, .null])), (q1, .inr (2, [.int 0, .int 0, .ref q12, .ref q13, .ref q14, .ref q15, .ref q16, .ref q17, .ref q18, .ref q19, .ref q20, .ref q21, .ref q22, .ref q23, .ref q24, .ref q25, .int 0]))]) := by
  refine Kh.of b0 (own := RL) (nm := "may") [(0, .ref q0), (1, .int x0), (2, .ref q2)] rfl rfl (by decide +kernel) (Nat.le_of_ble_eq_true rfl) rfl ?_
  intro p e s m below meth c A C hr ht H locs w ls hl
  have hx := C.hx
  have hb := C.hb
  refine lv_aload_n hx hb dL_may_0 rfl (lv_at hl 2 rfl) ?_
  refine lv_iconst (v := 0) hx hb dL_may_1 (by decide) ?_
  refine lv_aload_n hx hb dL_may_2 rfl (lv_at hl 0 rfl) ?_
  refine lv_iload_n hx hb dL_may_3 rfl (lv_at hl 1 rfl) ?_
  refine fin_x C w (run_Vx C w mv_L_36 (k77_may C.b0 q0 q1 q3 q4 q5 q6 q7 q8 q9 q10 q11 q12 q13 q14 q15 q16 q17 q18 q19 q20 q21 q22 q23 q24 q25 x0 H.size) [0, 1] rfl rfl 0 rfl rfl (by decide) rfl hl.1 rfl (Nat.le_of_ble_eq_true rfl) dL_may_4 (cells2 := 1) (slots2 := 6) (by decide)) [0, 1] [] rfl rfl (by decide) (cells2 := 1) (slots2 := 6) (by decide) (fun qx2 ce H locs w hce hcv hcl => ?_)
  have w : Wd s G A [(q0, .inr (11, [.ref q3, .ref q4, .ref q5, .ref q6, .ref q7, .ref q8, .ref q9, .ref q10, .ref q1, .ref q11, .int 0, .int (-1), .int 0, .int 0, .null, .null, .null, .null, .null])), (q1, .inr (2, [.int 0, .int 0, .ref q12, .ref q13, .ref q14, .ref q15, .ref q16, .ref q17, .ref q18, .ref q19, .ref q20, .ref q21, .ref q22, .ref q23, .ref q24, .ref q25, .int 0]))] H locs := w
  refine r_catch C ht (by decide) (by decide) tl_L_22 tk_java_util_NoSuchElementException hce hcv hcl ?_
  refine lv_astore_n (lv' := [(3, .ref qx2), (0, .ref q0), (1, .int x0), (2, .ref q2)]) hx hb dL_may_12 rfl hl (by decide) rfl (fun ls hl => ?_)
  refine lv_iconst (v := 1) hx hb dL_may_13 (by decide) ?_
  exact e_i C hr w (fun _ => 0) [0, 1] rfl rfl rfl dL_may_14 (by decide) (by decide)
set_option maxRecDepth 100000 in
set_option maxHeartbeats 4000000 in
theorem k79_may {l : Launch} {s0 : State} {a0 : Array Value} {G : GT} (b0 : B0 l s0 a0 G) (q0 q1 q2 q3 q4 q5 q6 q7 q8 q9 q10 q11 q12 q13 q14 q15 q16 q17 q18 q19 q20 q21 q22 q23 q24 q25 q26 q27 q28 q29 q30 q31 q32 q33 q34 q35 q36 q37 q38 q39 q40 q41 q42 : Nat) (x0 : Int32) (sz : Nat) : Ki l s0 G yX12_may_ cX12_may_ 2 (some .int) { frames := 2, cells := 0, slots := 0, locals := 44 } [.ref q0, .int x0] [(q0, .inr (12, [.int 0, .int 0, .int 0, .int 0, .int 0, .int 0, .int 0, .int (-1), .ref q2, .ref q1, .ref q3, .int 0, .ref q4, .ref q5, .ref q6, .ref q7, .ref q8, .ref q9, .ref q10, .int 0, .ref q11, .ref q12, .ref q13, .ref q14, .ref q15, .ref q16, .ref q17, .int 0, .int (-1), .int 0, .ref q18, .ref q19, .ref q20, .ref q21, .ref q22, .ref q23, .ref q24, .ref q25, .int 0, .ref q26, .ref q27, .ref q28, .ref q29, .ref q30, .int 0, .ref q31, .ref q32, .ref q33, .ref q34, .int 0, .ref q35, .ref q36, .ref q37, .ref q38, .int 0, .int 0, .ref q39, .ref q40, .ref q41, .ref q42])), (q1, .inl (G.2.1, 242, .inl (fun _ => 0)))] sz 0 (fun u => [(q0, .inr (12, [.int 1, .int 0, .int 0, .int 0, .int 0, .int 0, .int 0, .int (-1), .ref q2, .ref q1, .ref q3, .int 0, .ref q4, .ref q5, .ref q6, .ref q7, .ref q8, .ref q9, .ref q10, .int 0, .ref q11, .ref q12, .ref q13, .ref q14, .ref q15, .ref q16, .ref q17, .int 0, .int (-1), .int 0, .ref q18, .ref q19, .ref q20, .ref q21, .ref q22, .ref q23, .ref q24, .ref q25, .int 0, .ref q26, .ref q27, .ref q28, .ref q29, .ref q30, .int 0, .ref q31, .ref q32, .ref q33, .ref q34, .int 0, .ref q35, .ref q36, .ref q37, .ref q38, .int 0, .int 0, .ref q39, .ref q40, .ref q41, .ref q42])), (q1, .inl (G.2.1, 242, .inl (fun _ => 0)))]) := by
  refine Ki.of b0 (own := RX12) (nm := "may") [(0, .ref q0), (1, .int x0)] rfl rfl (by decide +kernel) (Nat.le_of_ble_eq_true rfl) rfl ?_
  intro p e s m below meth c A C hr H locs w ls hl
  have hx := C.hx
  have hb := C.hb
  refine lv_aload_n hx hb dX12_may__0 rfl (lv_at hl 0 rfl) ?_
  refine lv_iconst (v := 0) hx hb dX12_may__1 (by decide) ?_
  refine r_put C w 0 rfl fl_X12_1 (Nat.le_of_ble_eq_true rfl) rfl rfl dX12_may__2 (ws2 := [(q0, .inr (12, [.int 0, .int 0, .int 0, .int 0, .int 0, .int 0, .int 0, .int (-1), .ref q2, .ref q1, .ref q3, .int 0, .ref q4, .ref q5, .ref q6, .ref q7, .ref q8, .ref q9, .ref q10, .int 0, .ref q11, .ref q12, .ref q13, .ref q14, .ref q15, .ref q16, .ref q17, .int 0, .int (-1), .int 0, .ref q18, .ref q19, .ref q20, .ref q21, .ref q22, .ref q23, .ref q24, .ref q25, .int 0, .ref q26, .ref q27, .ref q28, .ref q29, .ref q30, .int 0, .ref q31, .ref q32, .ref q33, .ref q34, .int 0, .ref q35, .ref q36, .ref q37, .ref q38, .int 0, .int 0, .ref q39, .ref q40, .ref q41, .ref q42])), (q1, .inl (G.2.1, 242, .inl (fun _ => 0)))]) rfl (fun H locs w => ?_)
  refine lv_aload_n hx hb dX12_may__5 rfl (lv_at hl 0 rfl) ?_
  refine lv_iload_n hx hb dX12_may__6 rfl (lv_at hl 1 rfl) ?_
  refine lv_iconst (v := 1) hx hb dX12_may__7 (by decide) ?_
  refine fin_i C w (run_V C w mv_X12_293 (k64_isAct C.b0 q0 q1 q2 q3 q4 q5 q6 q7 q8 q9 q10 q11 q12 q13 q14 q15 q16 q17 q18 q19 q20 q21 q22 q23 q24 q25 q26 q27 q28 q29 q30 q31 q32 q33 q34 q35 q36 q37 q38 q39 q40 q41 q42 x0 H.size) [0, 1] rfl rfl 0 rfl rfl (by decide) rfl hl.1 rfl (Nat.le_of_ble_eq_true rfl) dX12_may__8 (cells2 := 0) (slots2 := 0) (by decide)) [0, 1] [] rfl rfl (by decide) (cells2 := 0) (slots2 := 0) (by decide) (fun u1 H locs w => ?_)
  have w : Wd s G A [(q0, .inr (12, [.int 1, .int 0, .int 0, .int 0, .int 0, .int 0, .int 0, .int (-1), .ref q2, .ref q1, .ref q3, .int 0, .ref q4, .ref q5, .ref q6, .ref q7, .ref q8, .ref q9, .ref q10, .int 0, .ref q11, .ref q12, .ref q13, .ref q14, .ref q15, .ref q16, .ref q17, .int 0, .int (-1), .int 0, .ref q18, .ref q19, .ref q20, .ref q21, .ref q22, .ref q23, .ref q24, .ref q25, .int 0, .ref q26, .ref q27, .ref q28, .ref q29, .ref q30, .int 0, .ref q31, .ref q32, .ref q33, .ref q34, .int 0, .ref q35, .ref q36, .ref q37, .ref q38, .int 0, .int 0, .ref q39, .ref q40, .ref q41, .ref q42])), (q1, .inl (G.2.1, 242, .inl (fun _ => 0)))] H locs := w
  refine lv_if_ne (tgt := 16) hx hb dX12_may__11 (by decide) (fun h => absurd (by decide) h) (fun _ => ?_)
  refine lv_iconst (v := 0) hx hb dX12_may__14 (by decide) ?_
  exact e_i C hr w (fun _ => 0) [0, 1] rfl rfl rfl dX12_may__15 (by decide) (by decide)
set_option maxRecDepth 100000 in
set_option maxHeartbeats 4000000 in
theorem k80_fire {l : Launch} {s0 : State} {a0 : Array Value} {G : GT} (b0 : B0 l s0 a0 G) (q0 q1 q2 q3 q4 q5 q6 q7 q8 q9 q10 q11 q12 q13 q14 q15 q16 q17 q18 q19 q20 q21 q22 q23 q24 : Nat) (x0 : Int32) (sz : Nat) : Kx l s0 G yX11_fire cX11_fire 3 (some .int) { frames := 7, cells := 1, slots := 6, locals := 111 } [.ref q0, .int x0] [(q0, .inr (11, [.ref q2, .ref q3, .ref q4, .ref q5, .ref q6, .ref q7, .ref q8, .ref q9, .ref q1, .ref q10, .int 0, .int (-1), .int 0, .int 0, .null, .null, .null, .null, .null])), (q1, .inr (2, [.int 0, .int 0, .ref q11, .ref q12, .ref q13, .ref q14, .ref q15, .ref q16, .ref q17, .ref q18, .ref q19, .ref q20, .ref q21, .ref q22, .ref q23, .ref q24, .int 0]))] sz "java/util/NoSuchElementException" := by
  refine Kx.of b0 (own := RX11) (nm := "fire") [(0, .ref q0), (1, .int x0)] rfl rfl (by decide +kernel) (Nat.le_of_ble_eq_true rfl) rfl ?_
  intro p e s m below meth c A C ht H locs w ls hl
  have hx := C.hx
  have hb := C.hb
  refine lv_aload_n hx hb dX11_fire_0 rfl (lv_at hl 0 rfl) ?_
  refine lv_iload_n hx hb dX11_fire_1 rfl (lv_at hl 1 rfl) ?_
  refine fin_x C w (run_Vx C w mv_X11_104 (k60_needAct C.b0 q0 q1 q2 q3 q4 q5 q6 q7 q8 q9 q10 q11 q12 q13 q14 q15 q16 q17 q18 q19 q20 q21 q22 q23 q24 x0 H.size) [0, 1] rfl rfl 0 rfl rfl (by decide) rfl hl.1 rfl (Nat.le_of_ble_eq_true rfl) dX11_fire_2 (cells2 := 1) (slots2 := 6) (by decide)) [0, 1] [] rfl rfl (by decide) (cells2 := 1) (slots2 := 6) (by decide) (fun qx2 ce H locs w hce hcv hcl => ?_)
  have w : Wd s G A [(q0, .inr (11, [.ref q2, .ref q3, .ref q4, .ref q5, .ref q6, .ref q7, .ref q8, .ref q9, .ref q1, .ref q10, .int 0, .int (-1), .int 0, .int 0, .null, .null, .null, .null, .null])), (q1, .inr (2, [.int 0, .int 0, .ref q11, .ref q12, .ref q13, .ref q14, .ref q15, .ref q16, .ref q17, .ref q18, .ref q19, .ref q20, .ref q21, .ref q22, .ref q23, .ref q24, .int 0]))] H locs := w
  exact r_out C ht w [0, 1] rfl rfl hce hcv hcl (by decide) (by decide)
set_option maxRecDepth 100000 in
set_option maxHeartbeats 4000000 in
theorem k81_fire {l : Launch} {s0 : State} {a0 : Array Value} {G : GT} (b0 : B0 l s0 a0 G) (q0 q1 q2 q3 q4 q5 q6 q7 q8 q9 q10 q11 q12 q13 q14 q15 q16 q17 q18 q19 q20 q21 q22 q23 q24 q25 : Nat) (x0 : Int32) (sz : Nat) : Kh l s0 G yL_fire cL_fire 4 (some .int) [(0, 9, 12, 22)] { frames := 8, cells := 1, slots := 6, locals := 133 } [.ref q0, .int x0, .ref q2] [(q0, .inr (11, [.ref q3, .ref q4, .ref q5, .ref q6, .ref q7, .ref q8, .ref q9, .ref q10, .ref q1, .ref q11, .int 0, .int (-1), .int 0, .int 0, .null, .null, .null, .null, .null])), (q1, .inr (2, [.int 0, .int 0, .ref q12, .ref q13, .ref q14, .ref q15, .ref q16, .ref q17, .ref q18, .ref q19, .ref q20, .ref q21, .ref q22, .ref q23, .ref q24, .ref q25, .int 0]))] sz 1 (fun u => [(q0, .inr (11, [.ref q3, .ref q4, .ref q5, .ref q6, .ref q7, .ref q8, .ref q9, .ref q10, .ref q1, .ref q11, .int 0, .int (-1), .int 0, .int 0, .null, .null, .null, .null, .null])), (q1, .inr (2, [.int 0, .int 0, .ref q12, .ref q13, .ref q14, .ref q15, .ref q16, .ref q17, .ref q18, .ref q19, .ref q20, .ref q21, .ref q22, .ref q23, .ref q24, .ref q25, .int 0]))]) := by
  refine Kh.of b0 (own := RL) (nm := "fire") [(0, .ref q0), (1, .int x0), (2, .ref q2)] rfl rfl (by decide +kernel) (Nat.le_of_ble_eq_true rfl) rfl ?_
  intro p e s m below meth c A C hr ht H locs w ls hl
  have hx := C.hx
  have hb := C.hb
  refine lv_aload_n hx hb dL_fire_0 rfl (lv_at hl 2 rfl) ?_
  refine lv_iconst (v := 0) hx hb dL_fire_1 (by decide) ?_
  refine lv_aload_n hx hb dL_fire_2 rfl (lv_at hl 0 rfl) ?_
  refine lv_iload_n hx hb dL_fire_3 rfl (lv_at hl 1 rfl) ?_
  refine fin_x C w (run_Vx C w mv_L_39 (k80_fire C.b0 q0 q1 q3 q4 q5 q6 q7 q8 q9 q10 q11 q12 q13 q14 q15 q16 q17 q18 q19 q20 q21 q22 q23 q24 q25 x0 H.size) [0, 1] rfl rfl 0 rfl rfl (by decide) rfl hl.1 rfl (Nat.le_of_ble_eq_true rfl) dL_fire_4 (cells2 := 1) (slots2 := 6) (by decide)) [0, 1] [] rfl rfl (by decide) (cells2 := 1) (slots2 := 6) (by decide) (fun qx2 ce H locs w hce hcv hcl => ?_)
  have w : Wd s G A [(q0, .inr (11, [.ref q3, .ref q4, .ref q5, .ref q6, .ref q7, .ref q8, .ref q9, .ref q10, .ref q1, .ref q11, .int 0, .int (-1), .int 0, .int 0, .null, .null, .null, .null, .null])), (q1, .inr (2, [.int 0, .int 0, .ref q12, .ref q13, .ref q14, .ref q15, .ref q16, .ref q17, .ref q18, .ref q19, .ref q20, .ref q21, .ref q22, .ref q23, .ref q24, .ref q25, .int 0]))] H locs := w
  refine r_catch C ht (by decide) (by decide) tl_L_22 tk_java_util_NoSuchElementException hce hcv hcl ?_
  refine lv_astore_n (lv' := [(3, .ref qx2), (0, .ref q0), (1, .int x0), (2, .ref q2)]) hx hb dL_fire_12 rfl hl (by decide) rfl (fun ls hl => ?_)
  refine lv_iconst (v := 1) hx hb dL_fire_13 (by decide) ?_
  exact e_i C hr w (fun _ => 0) [0, 1] rfl rfl rfl dL_fire_14 (by decide) (by decide)
set_option maxRecDepth 100000 in
set_option maxHeartbeats 4000000 in
theorem k82_fire {l : Launch} {s0 : State} {a0 : Array Value} {G : GT} (b0 : B0 l s0 a0 G) (q0 q1 q2 q3 q4 q5 q6 q7 q8 q9 q10 q11 q12 q13 q14 q15 q16 q17 q18 q19 q20 q21 q22 q23 q24 q25 q26 q27 q28 q29 q30 q31 q32 q33 q34 q35 q36 q37 q38 q39 q40 q41 q42 : Nat) (x0 : Int32) (sz : Nat) : Ki l s0 G yX12_fire cX12_fire 3 (some .int) { frames := 2, cells := 0, slots := 0, locals := 44 } [.ref q0, .int x0] [(q0, .inr (12, [.int 0, .int 0, .int 0, .int 0, .int 0, .int 0, .int 0, .int (-1), .ref q2, .ref q1, .ref q3, .int 0, .ref q4, .ref q5, .ref q6, .ref q7, .ref q8, .ref q9, .ref q10, .int 0, .ref q11, .ref q12, .ref q13, .ref q14, .ref q15, .ref q16, .ref q17, .int 0, .int (-1), .int 0, .ref q18, .ref q19, .ref q20, .ref q21, .ref q22, .ref q23, .ref q24, .ref q25, .int 0, .ref q26, .ref q27, .ref q28, .ref q29, .ref q30, .int 0, .ref q31, .ref q32, .ref q33, .ref q34, .int 0, .ref q35, .ref q36, .ref q37, .ref q38, .int 0, .int 0, .ref q39, .ref q40, .ref q41, .ref q42])), (q1, .inl (G.2.1, 242, .inl (fun _ => 0)))] sz 0 (fun u => [(q0, .inr (12, [.int 1, .int 0, .int 0, .int 0, .int 0, .int 0, .int 0, .int (-1), .ref q2, .ref q1, .ref q3, .int 0, .ref q4, .ref q5, .ref q6, .ref q7, .ref q8, .ref q9, .ref q10, .int 0, .ref q11, .ref q12, .ref q13, .ref q14, .ref q15, .ref q16, .ref q17, .int 0, .int (-1), .int 0, .ref q18, .ref q19, .ref q20, .ref q21, .ref q22, .ref q23, .ref q24, .ref q25, .int 0, .ref q26, .ref q27, .ref q28, .ref q29, .ref q30, .int 0, .ref q31, .ref q32, .ref q33, .ref q34, .int 0, .ref q35, .ref q36, .ref q37, .ref q38, .int 0, .int 0, .ref q39, .ref q40, .ref q41, .ref q42])), (q1, .inl (G.2.1, 242, .inl (fun _ => 0)))]) := by
  refine Ki.of b0 (own := RX12) (nm := "fire") [(0, .ref q0), (1, .int x0)] rfl rfl (by decide +kernel) (Nat.le_of_ble_eq_true rfl) rfl ?_
  intro p e s m below meth c A C hr H locs w ls hl
  have hx := C.hx
  have hb := C.hb
  refine lv_aload_n hx hb dX12_fire_0 rfl (lv_at hl 0 rfl) ?_
  refine lv_iconst (v := 0) hx hb dX12_fire_1 (by decide) ?_
  refine r_put C w 0 rfl fl_X12_1 (Nat.le_of_ble_eq_true rfl) rfl rfl dX12_fire_2 (ws2 := [(q0, .inr (12, [.int 0, .int 0, .int 0, .int 0, .int 0, .int 0, .int 0, .int (-1), .ref q2, .ref q1, .ref q3, .int 0, .ref q4, .ref q5, .ref q6, .ref q7, .ref q8, .ref q9, .ref q10, .int 0, .ref q11, .ref q12, .ref q13, .ref q14, .ref q15, .ref q16, .ref q17, .int 0, .int (-1), .int 0, .ref q18, .ref q19, .ref q20, .ref q21, .ref q22, .ref q23, .ref q24, .ref q25, .int 0, .ref q26, .ref q27, .ref q28, .ref q29, .ref q30, .int 0, .ref q31, .ref q32, .ref q33, .ref q34, .int 0, .ref q35, .ref q36, .ref q37, .ref q38, .int 0, .int 0, .ref q39, .ref q40, .ref q41, .ref q42])), (q1, .inl (G.2.1, 242, .inl (fun _ => 0)))]) rfl (fun H locs w => ?_)
  refine lv_aload_n hx hb dX12_fire_5 rfl (lv_at hl 0 rfl) ?_
  refine lv_iload_n hx hb dX12_fire_6 rfl (lv_at hl 1 rfl) ?_
  refine lv_iconst (v := 1) hx hb dX12_fire_7 (by decide) ?_
  refine fin_i C w (run_V C w mv_X12_293 (k64_isAct C.b0 q0 q1 q2 q3 q4 q5 q6 q7 q8 q9 q10 q11 q12 q13 q14 q15 q16 q17 q18 q19 q20 q21 q22 q23 q24 q25 q26 q27 q28 q29 q30 q31 q32 q33 q34 q35 q36 q37 q38 q39 q40 q41 q42 x0 H.size) [0, 1] rfl rfl 0 rfl rfl (by decide) rfl hl.1 rfl (Nat.le_of_ble_eq_true rfl) dX12_fire_8 (cells2 := 0) (slots2 := 0) (by decide)) [0, 1] [] rfl rfl (by decide) (cells2 := 0) (slots2 := 0) (by decide) (fun u1 H locs w => ?_)
  have w : Wd s G A [(q0, .inr (12, [.int 1, .int 0, .int 0, .int 0, .int 0, .int 0, .int 0, .int (-1), .ref q2, .ref q1, .ref q3, .int 0, .ref q4, .ref q5, .ref q6, .ref q7, .ref q8, .ref q9, .ref q10, .int 0, .ref q11, .ref q12, .ref q13, .ref q14, .ref q15, .ref q16, .ref q17, .int 0, .int (-1), .int 0, .ref q18, .ref q19, .ref q20, .ref q21, .ref q22, .ref q23, .ref q24, .ref q25, .int 0, .ref q26, .ref q27, .ref q28, .ref q29, .ref q30, .int 0, .ref q31, .ref q32, .ref q33, .ref q34, .int 0, .ref q35, .ref q36, .ref q37, .ref q38, .int 0, .int 0, .ref q39, .ref q40, .ref q41, .ref q42])), (q1, .inl (G.2.1, 242, .inl (fun _ => 0)))] H locs := w
  refine lv_if_ne (tgt := 16) hx hb dX12_fire_11 (by decide) (fun h => absurd (by decide) h) (fun _ => ?_)
  refine lv_iconst (v := 0) hx hb dX12_fire_14 (by decide) ?_
  exact e_i C hr w (fun _ => 0) [0, 1] rfl rfl rfl dX12_fire_15 (by decide) (by decide)
set_option maxRecDepth 100000 in
set_option maxHeartbeats 4000000 in
theorem k83_row {l : Launch} {s0 : State} {a0 : Array Value} {G : GT} (b0 : B0 l s0 a0 G) (q0 q1 q2 q3 q4 q5 q6 q7 q8 q9 q10 q11 q12 q13 q14 q15 q16 q17 q18 q19 q20 q21 q22 q23 q24 : Nat) (x0 : Int32) (sz : Nat) : Kx l s0 G yX11_row cX11_row 2 (some .int) { frames := 7, cells := 1, slots := 6, locals := 111 } [.ref q0, .int x0] [(q0, .inr (11, [.ref q2, .ref q3, .ref q4, .ref q5, .ref q6, .ref q7, .ref q8, .ref q9, .ref q1, .ref q10, .int 0, .int (-1), .int 0, .int 0, .null, .null, .null, .null, .null])), (q1, .inr (2, [.int 0, .int 0, .ref q11, .ref q12, .ref q13, .ref q14, .ref q15, .ref q16, .ref q17, .ref q18, .ref q19, .ref q20, .ref q21, .ref q22, .ref q23, .ref q24, .int 0]))] sz "java/util/NoSuchElementException" := by
  refine Kx.of b0 (own := RX11) (nm := "row") [(0, .ref q0), (1, .int x0)] rfl rfl (by decide +kernel) (Nat.le_of_ble_eq_true rfl) rfl ?_
  intro p e s m below meth c A C ht H locs w ls hl
  have hx := C.hx
  have hb := C.hb
  refine lv_aload_n hx hb dX11_row_0 rfl (lv_at hl 0 rfl) ?_
  refine lv_iload_n hx hb dX11_row_1 rfl (lv_at hl 1 rfl) ?_
  refine fin_x C w (run_Vx C w mv_X11_104 (k60_needAct C.b0 q0 q1 q2 q3 q4 q5 q6 q7 q8 q9 q10 q11 q12 q13 q14 q15 q16 q17 q18 q19 q20 q21 q22 q23 q24 x0 H.size) [0, 1] rfl rfl 0 rfl rfl (by decide) rfl hl.1 rfl (Nat.le_of_ble_eq_true rfl) dX11_row_2 (cells2 := 1) (slots2 := 6) (by decide)) [0, 1] [] rfl rfl (by decide) (cells2 := 1) (slots2 := 6) (by decide) (fun qx2 ce H locs w hce hcv hcl => ?_)
  have w : Wd s G A [(q0, .inr (11, [.ref q2, .ref q3, .ref q4, .ref q5, .ref q6, .ref q7, .ref q8, .ref q9, .ref q1, .ref q10, .int 0, .int (-1), .int 0, .int 0, .null, .null, .null, .null, .null])), (q1, .inr (2, [.int 0, .int 0, .ref q11, .ref q12, .ref q13, .ref q14, .ref q15, .ref q16, .ref q17, .ref q18, .ref q19, .ref q20, .ref q21, .ref q22, .ref q23, .ref q24, .int 0]))] H locs := w
  exact r_out C ht w [0, 1] rfl rfl hce hcv hcl (by decide) (by decide)
set_option maxRecDepth 100000 in
set_option maxHeartbeats 4000000 in
theorem k84_row {l : Launch} {s0 : State} {a0 : Array Value} {G : GT} (b0 : B0 l s0 a0 G) (q0 q1 q2 q3 q4 q5 q6 q7 q8 q9 q10 q11 q12 q13 q14 q15 q16 q17 q18 q19 q20 q21 q22 q23 q24 q25 : Nat) (x0 : Int32) (sz : Nat) : Kh l s0 G yL_row cL_row 4 (some .int) [(0, 9, 12, 22)] { frames := 8, cells := 1, slots := 6, locals := 132 } [.ref q0, .int x0, .ref q2] [(q0, .inr (11, [.ref q3, .ref q4, .ref q5, .ref q6, .ref q7, .ref q8, .ref q9, .ref q10, .ref q1, .ref q11, .int 0, .int (-1), .int 0, .int 0, .null, .null, .null, .null, .null])), (q1, .inr (2, [.int 0, .int 0, .ref q12, .ref q13, .ref q14, .ref q15, .ref q16, .ref q17, .ref q18, .ref q19, .ref q20, .ref q21, .ref q22, .ref q23, .ref q24, .ref q25, .int 0]))] sz 1 (fun u => [(q0, .inr (11, [.ref q3, .ref q4, .ref q5, .ref q6, .ref q7, .ref q8, .ref q9, .ref q10, .ref q1, .ref q11, .int 0, .int (-1), .int 0, .int 0, .null, .null, .null, .null, .null])), (q1, .inr (2, [.int 0, .int 0, .ref q12, .ref q13, .ref q14, .ref q15, .ref q16, .ref q17, .ref q18, .ref q19, .ref q20, .ref q21, .ref q22, .ref q23, .ref q24, .ref q25, .int 0]))]) := by
  refine Kh.of b0 (own := RL) (nm := "row") [(0, .ref q0), (1, .int x0), (2, .ref q2)] rfl rfl (by decide +kernel) (Nat.le_of_ble_eq_true rfl) rfl ?_
  intro p e s m below meth c A C hr ht H locs w ls hl
  have hx := C.hx
  have hb := C.hb
  refine lv_aload_n hx hb dL_row_0 rfl (lv_at hl 2 rfl) ?_
  refine lv_iconst (v := 0) hx hb dL_row_1 (by decide) ?_
  refine lv_aload_n hx hb dL_row_2 rfl (lv_at hl 0 rfl) ?_
  refine lv_iload_n hx hb dL_row_3 rfl (lv_at hl 1 rfl) ?_
  refine fin_x C w (run_Vx C w mv_L_42 (k83_row C.b0 q0 q1 q3 q4 q5 q6 q7 q8 q9 q10 q11 q12 q13 q14 q15 q16 q17 q18 q19 q20 q21 q22 q23 q24 q25 x0 H.size) [0, 1] rfl rfl 0 rfl rfl (by decide) rfl hl.1 rfl (Nat.le_of_ble_eq_true rfl) dL_row_4 (cells2 := 1) (slots2 := 6) (by decide)) [0, 1] [] rfl rfl (by decide) (cells2 := 1) (slots2 := 6) (by decide) (fun qx2 ce H locs w hce hcv hcl => ?_)
  have w : Wd s G A [(q0, .inr (11, [.ref q3, .ref q4, .ref q5, .ref q6, .ref q7, .ref q8, .ref q9, .ref q10, .ref q1, .ref q11, .int 0, .int (-1), .int 0, .int 0, .null, .null, .null, .null, .null])), (q1, .inr (2, [.int 0, .int 0, .ref q12, .ref q13, .ref q14, .ref q15, .ref q16, .ref q17, .ref q18, .ref q19, .ref q20, .ref q21, .ref q22, .ref q23, .ref q24, .ref q25, .int 0]))] H locs := w
  refine r_catch C ht (by decide) (by decide) tl_L_22 tk_java_util_NoSuchElementException hce hcv hcl ?_
  refine lv_astore_n (lv' := [(3, .ref qx2), (0, .ref q0), (1, .int x0), (2, .ref q2)]) hx hb dL_row_12 rfl hl (by decide) rfl (fun ls hl => ?_)
  refine lv_iconst (v := 1) hx hb dL_row_13 (by decide) ?_
  exact e_i C hr w (fun _ => 0) [0, 1] rfl rfl rfl dL_row_14 (by decide) (by decide)
set_option maxRecDepth 100000 in
set_option maxHeartbeats 4000000 in
theorem k85_row {l : Launch} {s0 : State} {a0 : Array Value} {G : GT} (b0 : B0 l s0 a0 G) (q0 q1 q2 q3 q4 q5 q6 q7 q8 q9 q10 q11 q12 q13 q14 q15 q16 q17 q18 q19 q20 q21 q22 q23 q24 q25 q26 q27 q28 q29 q30 q31 q32 q33 q34 q35 q36 q37 q38 q39 q40 q41 q42 : Nat) (x0 : Int32) (sz : Nat) : Ki l s0 G yX12_row cX12_row 2 (some .int) { frames := 2, cells := 0, slots := 0, locals := 44 } [.ref q0, .int x0] [(q0, .inr (12, [.int 0, .int 0, .int 0, .int 0, .int 0, .int 0, .int 0, .int (-1), .ref q2, .ref q1, .ref q3, .int 0, .ref q4, .ref q5, .ref q6, .ref q7, .ref q8, .ref q9, .ref q10, .int 0, .ref q11, .ref q12, .ref q13, .ref q14, .ref q15, .ref q16, .ref q17, .int 0, .int (-1), .int 0, .ref q18, .ref q19, .ref q20, .ref q21, .ref q22, .ref q23, .ref q24, .ref q25, .int 0, .ref q26, .ref q27, .ref q28, .ref q29, .ref q30, .int 0, .ref q31, .ref q32, .ref q33, .ref q34, .int 0, .ref q35, .ref q36, .ref q37, .ref q38, .int 0, .int 0, .ref q39, .ref q40, .ref q41, .ref q42])), (q1, .inl (G.2.1, 242, .inl (fun _ => 0)))] sz 0 (fun u => [(q0, .inr (12, [.int 1, .int 0, .int 0, .int 0, .int 0, .int 0, .int 0, .int (-1), .ref q2, .ref q1, .ref q3, .int 0, .ref q4, .ref q5, .ref q6, .ref q7, .ref q8, .ref q9, .ref q10, .int 0, .ref q11, .ref q12, .ref q13, .ref q14, .ref q15, .ref q16, .ref q17, .int 0, .int (-1), .int 0, .ref q18, .ref q19, .ref q20, .ref q21, .ref q22, .ref q23, .ref q24, .ref q25, .int 0, .ref q26, .ref q27, .ref q28, .ref q29, .ref q30, .int 0, .ref q31, .ref q32, .ref q33, .ref q34, .int 0, .ref q35, .ref q36, .ref q37, .ref q38, .int 0, .int 0, .ref q39, .ref q40, .ref q41, .ref q42])), (q1, .inl (G.2.1, 242, .inl (fun _ => 0)))]) := by
  refine Ki.of b0 (own := RX12) (nm := "row") [(0, .ref q0), (1, .int x0)] rfl rfl (by decide +kernel) (Nat.le_of_ble_eq_true rfl) rfl ?_
  intro p e s m below meth c A C hr H locs w ls hl
  have hx := C.hx
  have hb := C.hb
  refine lv_aload_n hx hb dX12_row_0 rfl (lv_at hl 0 rfl) ?_
  refine lv_iconst (v := 0) hx hb dX12_row_1 (by decide) ?_
  refine r_put C w 0 rfl fl_X12_1 (Nat.le_of_ble_eq_true rfl) rfl rfl dX12_row_2 (ws2 := [(q0, .inr (12, [.int 0, .int 0, .int 0, .int 0, .int 0, .int 0, .int 0, .int (-1), .ref q2, .ref q1, .ref q3, .int 0, .ref q4, .ref q5, .ref q6, .ref q7, .ref q8, .ref q9, .ref q10, .int 0, .ref q11, .ref q12, .ref q13, .ref q14, .ref q15, .ref q16, .ref q17, .int 0, .int (-1), .int 0, .ref q18, .ref q19, .ref q20, .ref q21, .ref q22, .ref q23, .ref q24, .ref q25, .int 0, .ref q26, .ref q27, .ref q28, .ref q29, .ref q30, .int 0, .ref q31, .ref q32, .ref q33, .ref q34, .int 0, .ref q35, .ref q36, .ref q37, .ref q38, .int 0, .int 0, .ref q39, .ref q40, .ref q41, .ref q42])), (q1, .inl (G.2.1, 242, .inl (fun _ => 0)))]) rfl (fun H locs w => ?_)
  refine lv_aload_n hx hb dX12_row_5 rfl (lv_at hl 0 rfl) ?_
  refine lv_iload_n hx hb dX12_row_6 rfl (lv_at hl 1 rfl) ?_
  refine lv_iconst (v := 1) hx hb dX12_row_7 (by decide) ?_
  refine fin_i C w (run_V C w mv_X12_293 (k64_isAct C.b0 q0 q1 q2 q3 q4 q5 q6 q7 q8 q9 q10 q11 q12 q13 q14 q15 q16 q17 q18 q19 q20 q21 q22 q23 q24 q25 q26 q27 q28 q29 q30 q31 q32 q33 q34 q35 q36 q37 q38 q39 q40 q41 q42 x0 H.size) [0, 1] rfl rfl 0 rfl rfl (by decide) rfl hl.1 rfl (Nat.le_of_ble_eq_true rfl) dX12_row_8 (cells2 := 0) (slots2 := 0) (by decide)) [0, 1] [] rfl rfl (by decide) (cells2 := 0) (slots2 := 0) (by decide) (fun u1 H locs w => ?_)
  have w : Wd s G A [(q0, .inr (12, [.int 1, .int 0, .int 0, .int 0, .int 0, .int 0, .int 0, .int (-1), .ref q2, .ref q1, .ref q3, .int 0, .ref q4, .ref q5, .ref q6, .ref q7, .ref q8, .ref q9, .ref q10, .int 0, .ref q11, .ref q12, .ref q13, .ref q14, .ref q15, .ref q16, .ref q17, .int 0, .int (-1), .int 0, .ref q18, .ref q19, .ref q20, .ref q21, .ref q22, .ref q23, .ref q24, .ref q25, .int 0, .ref q26, .ref q27, .ref q28, .ref q29, .ref q30, .int 0, .ref q31, .ref q32, .ref q33, .ref q34, .int 0, .ref q35, .ref q36, .ref q37, .ref q38, .int 0, .int 0, .ref q39, .ref q40, .ref q41, .ref q42])), (q1, .inl (G.2.1, 242, .inl (fun _ => 0)))] H locs := w
  refine lv_if_ne (tgt := 16) hx hb dX12_row_11 (by decide) (fun h => absurd (by decide) h) (fun _ => ?_)
  refine lv_iconst (v := 0) hx hb dX12_row_14 (by decide) ?_
  exact e_i C hr w (fun _ => 0) [0, 1] rfl rfl rfl dX12_row_15 (by decide) (by decide)
set_option maxRecDepth 100000 in
set_option maxHeartbeats 4000000 in
theorem k86_clear {l : Launch} {s0 : State} {a0 : Array Value} {G : GT} (b0 : B0 l s0 a0 G) (q0 q1 q2 q3 q4 q5 q6 q7 q8 q9 q10 q11 q12 q13 : Nat) (sz : Nat) : Ki l s0 G yX11_clear cX11_clear 2 (some .int) { frames := 0, cells := 0, slots := 0, locals := 0 } [.ref q0] [(q0, .inr (11, [.ref q2, .ref q3, .ref q1, .ref q4, .ref q5, .ref q6, .ref q7, .ref q8, .ref q9, .ref q10, .int 0, .int (-1), .int 0, .int 0, .null, .null, .null, .null, .null])), (q1, .inr (5, [.ref q11, .ref q12, .ref q13, .int 0]))] sz 0 (fun u => [(q0, .inr (11, [.ref q2, .ref q3, .ref q1, .ref q4, .ref q5, .ref q6, .ref q7, .ref q8, .ref q9, .ref q10, .int 0, .int (-1), .int 0, .int 0, .null, .null, .null, .null, .null])), (q1, .inr (5, [.ref q11, .ref q12, .ref q13, .int 0]))]) := by
  refine Ki.of b0 (own := RX11) (nm := "clear") [(0, .ref q0)] rfl rfl (by decide +kernel) (Nat.le_of_ble_eq_true rfl) rfl ?_
  intro p e s m below meth c A C hr H locs w ls hl
  have hx := C.hx
  have hb := C.hb
  refine lv_aload_n hx hb dX11_clear_0 rfl (lv_at hl 0 rfl) ?_
  refine r_get C w 0 rfl fr_X11_23 rfl dX11_clear_1 ?_
  refine r_get C w 1 rfl fr_X11_149 rfl dX11_clear_4 ?_
  refine lv_istore_n (lv' := [(1, .int 0), (0, .ref q0)]) hx hb dX11_clear_7 rfl hl (by decide) rfl (fun ls hl => ?_)
  refine lv_aload_n hx hb dX11_clear_8 rfl (lv_at hl 1 rfl) ?_
  refine r_get C w 0 rfl fr_X11_23 rfl dX11_clear_9 ?_
  refine lv_iconst (v := 0) hx hb dX11_clear_12 (by decide) ?_
  refine r_put C w 1 rfl fl_X11_149 (Nat.le_of_ble_eq_true rfl) rfl rfl dX11_clear_13 (ws2 := [(q0, .inr (11, [.ref q2, .ref q3, .ref q1, .ref q4, .ref q5, .ref q6, .ref q7, .ref q8, .ref q9, .ref q10, .int 0, .int (-1), .int 0, .int 0, .null, .null, .null, .null, .null])), (q1, .inr (5, [.ref q11, .ref q12, .ref q13, .int 0]))]) rfl (fun H locs w => ?_)
  refine lv_iload_n hx hb dX11_clear_16 rfl (lv_at hl 0 rfl) ?_
  exact e_i C hr w (fun _ => 0) [0, 1] rfl rfl rfl dX11_clear_17 (by decide) (by decide)
set_option maxRecDepth 100000 in
set_option maxHeartbeats 4000000 in
theorem k87_clear {l : Launch} {s0 : State} {a0 : Array Value} {G : GT} (b0 : B0 l s0 a0 G) (q0 q1 q2 q3 q4 q5 q6 q7 q8 q9 q10 q11 q12 q13 q14 q15 q16 q17 q18 q19 q20 q21 q22 q23 q24 q25 q26 q27 q28 q29 q30 q31 q32 q33 q34 q35 q36 q37 q38 q39 q40 q41 q42 : Nat) (sz : Nat) : Ki l s0 G yX12_clear cX12_clear 2 (some .int) { frames := 0, cells := 0, slots := 0, locals := 0 } [.ref q0] [(q0, .inr (12, [.int 0, .int 0, .int 0, .int 0, .int 0, .int 0, .int 0, .int (-1), .ref q2, .ref q3, .ref q4, .int 0, .ref q5, .ref q6, .ref q7, .ref q8, .ref q9, .ref q1, .ref q10, .int 0, .ref q11, .ref q12, .ref q13, .ref q14, .ref q15, .ref q16, .ref q17, .int 0, .int (-1), .int 0, .ref q18, .ref q19, .ref q20, .ref q21, .ref q22, .ref q23, .ref q24, .ref q25, .int 0, .ref q26, .ref q27, .ref q28, .ref q29, .ref q30, .int 0, .ref q31, .ref q32, .ref q33, .ref q34, .int 0, .ref q35, .ref q36, .ref q37, .ref q38, .int 0, .int 0, .ref q39, .ref q40, .ref q41, .ref q42])), (q1, .inl (G.2.1, 57, .inl (fun _ => 0)))] sz 0 (fun u => [(q0, .inr (12, [.int 0, .int 0, .int 0, .int 0, .int 0, .int 0, .int 0, .int (-1), .ref q2, .ref q3, .ref q4, .int 0, .ref q5, .ref q6, .ref q7, .ref q8, .ref q9, .ref q1, .ref q10, .int 0, .ref q11, .ref q12, .ref q13, .ref q14, .ref q15, .ref q16, .ref q17, .int 0, .int (-1), .int 0, .ref q18, .ref q19, .ref q20, .ref q21, .ref q22, .ref q23, .ref q24, .ref q25, .int 0, .ref q26, .ref q27, .ref q28, .ref q29, .ref q30, .int 0, .ref q31, .ref q32, .ref q33, .ref q34, .int 0, .ref q35, .ref q36, .ref q37, .ref q38, .int 0, .int 0, .ref q39, .ref q40, .ref q41, .ref q42])), (q1, .inl (G.2.1, 57, .inl (fun _ => 0)))]) := by
  refine Ki.of b0 (own := RX12) (nm := "clear") [(0, .ref q0)] rfl rfl (by decide +kernel) (Nat.le_of_ble_eq_true rfl) rfl ?_
  intro p e s m below meth c A C hr H locs w ls hl
  have hx := C.hx
  have hb := C.hb
  refine lv_aload_n hx hb dX12_clear_0 rfl (lv_at hl 0 rfl) ?_
  refine lv_iconst (v := 0) hx hb dX12_clear_1 (by decide) ?_
  refine r_put C w 0 rfl fl_X12_1 (Nat.le_of_ble_eq_true rfl) rfl rfl dX12_clear_2 (ws2 := [(q0, .inr (12, [.int 0, .int 0, .int 0, .int 0, .int 0, .int 0, .int 0, .int (-1), .ref q2, .ref q3, .ref q4, .int 0, .ref q5, .ref q6, .ref q7, .ref q8, .ref q9, .ref q1, .ref q10, .int 0, .ref q11, .ref q12, .ref q13, .ref q14, .ref q15, .ref q16, .ref q17, .int 0, .int (-1), .int 0, .ref q18, .ref q19, .ref q20, .ref q21, .ref q22, .ref q23, .ref q24, .ref q25, .int 0, .ref q26, .ref q27, .ref q28, .ref q29, .ref q30, .int 0, .ref q31, .ref q32, .ref q33, .ref q34, .int 0, .ref q35, .ref q36, .ref q37, .ref q38, .int 0, .int 0, .ref q39, .ref q40, .ref q41, .ref q42])), (q1, .inl (G.2.1, 57, .inl (fun _ => 0)))]) rfl (fun H locs w => ?_)
  refine lv_aload_n hx hb dX12_clear_5 rfl (lv_at hl 0 rfl) ?_
  refine r_get C w 0 rfl fr_X12_41 rfl dX12_clear_6 ?_
  refine lv_bipush (v := 16) hx hb dX12_clear_9 (by decide) ?_
  refine r_iald C w 1 rfl (IX.of (k := 16) (by decide +kernel)) (v := 0) rfl dX12_clear_11 ?_
  refine lv_istore_n (lv' := [(1, .int 0), (0, .ref q0)]) hx hb dX12_clear_12 rfl hl (by decide) rfl (fun ls hl => ?_)
  refine lv_aload_n hx hb dX12_clear_13 rfl (lv_at hl 1 rfl) ?_
  refine r_get C w 0 rfl fr_X12_41 rfl dX12_clear_14 ?_
  refine lv_bipush (v := 16) hx hb dX12_clear_17 (by decide) ?_
  refine lv_iconst (v := 0) hx hb dX12_clear_19 (by decide) ?_
  refine r_iast C w 1 rfl (IX.of (k := 16) (by decide +kernel)) (g := (fun _ => 0)) (upd_c _ _) dX12_clear_20 (ws2 := [(q0, .inr (12, [.int 0, .int 0, .int 0, .int 0, .int 0, .int 0, .int 0, .int (-1), .ref q2, .ref q3, .ref q4, .int 0, .ref q5, .ref q6, .ref q7, .ref q8, .ref q9, .ref q1, .ref q10, .int 0, .ref q11, .ref q12, .ref q13, .ref q14, .ref q15, .ref q16, .ref q17, .int 0, .int (-1), .int 0, .ref q18, .ref q19, .ref q20, .ref q21, .ref q22, .ref q23, .ref q24, .ref q25, .int 0, .ref q26, .ref q27, .ref q28, .ref q29, .ref q30, .int 0, .ref q31, .ref q32, .ref q33, .ref q34, .int 0, .ref q35, .ref q36, .ref q37, .ref q38, .int 0, .int 0, .ref q39, .ref q40, .ref q41, .ref q42])), (q1, .inl (G.2.1, 57, .inl (fun _ => 0)))]) rfl (fun H locs w => ?_)
  refine lv_iload_n hx hb dX12_clear_21 rfl (lv_at hl 0 rfl) ?_
  exact e_i C hr w (fun _ => 0) [0, 1] rfl rfl rfl dX12_clear_22 (by decide) (by decide)
set_option maxRecDepth 100000 in
set_option maxHeartbeats 4000000 in
theorem k88_judge {l : Launch} {s0 : State} {a0 : Array Value} {G : GT} (b0 : B0 l s0 a0 G) (q0 q1 q2 q3 q4 q5 q6 q7 q8 q9 q10 q11 q12 q13 : Nat) (sz : Nat) : Ki l s0 G yX11_judge cX11_judge 3 (some .int) { frames := 1, cells := 0, slots := 0, locals := 100 } [.ref q0] [(q0, .inr (11, [.ref q4, .ref q5, .ref q1, .ref q6, .ref q7, .ref q8, .ref q9, .ref q3, .ref q10, .ref q11, .int 0, .int (-1), .int 0, .int 0, .null, .null, .null, .null, .null])), (q1, .inr (5, [.ref q2, .ref q12, .ref q13, .int 0])), (q2, .inl (G.2.1, 8, .inl (fun _ => 0))), (q3, .inl (G.2.1, 8, .inl (fun _ => 0)))] sz (-1) (fun u => [(q0, .inr (11, [.ref q4, .ref q5, .ref q1, .ref q6, .ref q7, .ref q8, .ref q9, .ref q3, .ref q10, .ref q11, .int 0, .int (-1), .int 0, .int 0, .null, .null, .null, .null, .null])), (q1, .inr (5, [.ref q2, .ref q12, .ref q13, .int 0])), (q2, .inl (G.2.1, 8, .inl (fun _ => 0))), (q3, .inl (G.2.1, 8, .inl (fun _ => 0)))]) := by
  refine Ki.of b0 (own := RX11) (nm := "judge") [(0, .ref q0)] rfl rfl (by decide +kernel) (Nat.le_of_ble_eq_true rfl) rfl ?_
  intro p e s m below meth c A C hr H locs w ls hl
  have hx := C.hx
  have hb := C.hb
  refine lv_aload_n hx hb dX11_judge_0 rfl (lv_at hl 0 rfl) ?_
  refine r_get C w 0 rfl fr_X11_23 rfl dX11_judge_1 ?_
  refine r_get C w 1 rfl fr_X11_129 rfl dX11_judge_4 ?_
  refine lv_iconst (v := 0) hx hb dX11_judge_7 (by decide) ?_
  refine lv_aload_n hx hb dX11_judge_8 rfl (lv_at hl 0 rfl) ?_
  refine r_get C w 0 rfl fr_X11_48 rfl dX11_judge_9 ?_
  refine lv_iconst (v := 0) hx hb dX11_judge_12 (by decide) ?_
  refine lv_bipush (v := 8) hx hb dX11_judge_13 (by decide) ?_
  refine r_copyI C w 2 3 rfl rfl (sp' := 0) (dp' := 0) (n' := 8) (by decide +kernel) cp_X11_155 hl.1 (cpy_c _ _ _ _) (by decide) (Nat.le_of_ble_eq_true rfl) dX11_judge_15 (ws2 := [(q0, .inr (11, [.ref q4, .ref q5, .ref q1, .ref q6, .ref q7, .ref q8, .ref q9, .ref q3, .ref q10, .ref q11, .int 0, .int (-1), .int 0, .int 0, .null, .null, .null, .null, .null])), (q1, .inr (5, [.ref q2, .ref q12, .ref q13, .int 0])), (q2, .inl (G.2.1, 8, .inl (fun _ => 0))), (q3, .inl (G.2.1, 8, .inl (fun _ => 0)))]) rfl (fun H locs w => ?_)
  refine lv_iconst (v := 0) hx hb dX11_judge_18 (by decide) ?_
  refine lv_istore_n (lv' := [(1, .int 0), (0, .ref q0)]) hx hb dX11_judge_19 rfl hl (by decide) rfl (fun ls hl => ?_)
  refine lv_iload_n hx hb dX11_judge_20 rfl (lv_at hl 0 rfl) ?_
  refine lv_aload_n hx hb dX11_judge_21 rfl (lv_at hl 1 rfl) ?_
  refine r_get C w 0 rfl fr_X11_23 rfl dX11_judge_22 ?_
  refine r_get C w 1 rfl fr_X11_149 rfl dX11_judge_25 ?_
  refine lv_icmp_ge (tgt := 89) hx hb dX11_judge_28 (by decide) (fun _ => ?_) (fun h => absurd (by decide) h)
  refine lv_iconst (v := (-1)) hx hb dX11_judge_89 (by decide) ?_
  exact e_i C hr w (fun _ => 0) [0, 1, 2, 3] rfl rfl rfl dX11_judge_90 (by decide) (by decide)
set_option maxRecDepth 100000 in
set_option maxHeartbeats 4000000 in
theorem k89_asNow {l : Launch} {s0 : State} {a0 : Array Value} {G : GT} (b0 : B0 l s0 a0 G) (q0 q1 q2 q3 q4 q5 q6 q7 q8 q9 q10 q11 q12 q13 q14 q15 q16 q17 q18 q19 q20 q21 q22 q23 q24 q25 q26 q27 q28 q29 q30 q31 q32 q33 q34 q35 q36 q37 q38 q39 q40 q41 q42 : Nat) (sz : Nat) : Kv l s0 G yX12_asNow cX12_asNow 2 none { frames := 0, cells := 0, slots := 0, locals := 0 } [.ref q0] [(q0, .inr (12, [.int 0, .int 0, .int 0, .int 0, .int 0, .int 0, .int 0, .int (-1), .ref q3, .ref q4, .ref q5, .int 0, .ref q6, .ref q7, .ref q8, .ref q9, .ref q10, .ref q1, .ref q11, .int 0, .ref q2, .ref q12, .ref q13, .ref q14, .ref q15, .ref q16, .ref q17, .int 0, .int (-1), .int 0, .ref q18, .ref q19, .ref q20, .ref q21, .ref q22, .ref q23, .ref q24, .ref q25, .int 0, .ref q26, .ref q27, .ref q28, .ref q29, .ref q30, .int 0, .ref q31, .ref q32, .ref q33, .ref q34, .int 0, .ref q35, .ref q36, .ref q37, .ref q38, .int 0, .int 0, .ref q39, .ref q40, .ref q41, .ref q42])), (q1, .inl (G.2.1, 57, .inl (fun _ => 0))), (q2, .inl (G.2.1, 8, .inl (fun _ => 0)))] sz (fun u => [(q0, .inr (12, [.int 0, .int 0, .int 0, .int 0, .int 0, .int 0, .int 0, .int (-1), .ref q3, .ref q4, .ref q5, .int 0, .ref q6, .ref q7, .ref q8, .ref q9, .ref q10, .ref q1, .ref q11, .int 0, .ref q2, .ref q12, .ref q13, .ref q14, .ref q15, .ref q16, .ref q17, .int 0, .int (-1), .int 0, .ref q18, .ref q19, .ref q20, .ref q21, .ref q22, .ref q23, .ref q24, .ref q25, .int 0, .ref q26, .ref q27, .ref q28, .ref q29, .ref q30, .int 0, .ref q31, .ref q32, .ref q33, .ref q34, .int 0, .ref q35, .ref q36, .ref q37, .ref q38, .int 0, .int 0, .ref q39, .ref q40, .ref q41, .ref q42])), (q1, .inl (G.2.1, 57, .inl (fun _ => 0))), (q2, .inl (G.2.1, 8, .inl (fun _ => 0)))]) := by
  refine Kv.of b0 (own := RX12) (nm := "asNow") [(0, .ref q0)] rfl rfl (by decide +kernel) (Nat.le_of_ble_eq_true rfl) rfl ?_
  intro p e s m below meth c A C hr H locs w ls hl
  have hx := C.hx
  have hb := C.hb
  refine lv_iconst (v := 0) hx hb dX12_asNow_0 (by decide) ?_
  refine lv_istore_n (lv' := [(1, .int 0), (0, .ref q0)]) hx hb dX12_asNow_1 rfl hl (by decide) rfl (fun ls hl => ?_)
  refine lv_iload_n hx hb dX12_asNow_2 rfl (lv_at hl 0 rfl) ?_
  refine lv_bipush (v := 8) hx hb dX12_asNow_3 (by decide) ?_
  refine lv_icmp_ge (tgt := 26) hx hb dX12_asNow_5 (by decide) (fun h => absurd h (by decide)) (fun _ => ?_)
  refine lv_aload_n hx hb dX12_asNow_8 rfl (lv_at hl 1 rfl) ?_
  refine r_get C w 0 rfl fr_X12_47 rfl dX12_asNow_9 ?_
  refine lv_iload_n hx hb dX12_asNow_12 rfl (lv_at hl 0 rfl) ?_
  refine lv_aload_n hx hb dX12_asNow_13 rfl (lv_at hl 1 rfl) ?_
  refine r_get C w 0 rfl fr_X12_41 rfl dX12_asNow_14 ?_
  refine lv_iload_n hx hb dX12_asNow_17 rfl (lv_at hl 0 rfl) ?_
  refine r_iald C w 1 rfl (IX.of (k := 0) (by decide +kernel)) (v := 0) rfl dX12_asNow_18 ?_
  refine r_iast C w 2 rfl (IX.of (k := 0) (by decide +kernel)) (g := (fun _ => 0)) (upd_c _ _) dX12_asNow_19 (ws2 := [(q0, .inr (12, [.int 0, .int 0, .int 0, .int 0, .int 0, .int 0, .int 0, .int (-1), .ref q3, .ref q4, .ref q5, .int 0, .ref q6, .ref q7, .ref q8, .ref q9, .ref q10, .ref q1, .ref q11, .int 0, .ref q2, .ref q12, .ref q13, .ref q14, .ref q15, .ref q16, .ref q17, .int 0, .int (-1), .int 0, .ref q18, .ref q19, .ref q20, .ref q21, .ref q22, .ref q23, .ref q24, .ref q25, .int 0, .ref q26, .ref q27, .ref q28, .ref q29, .ref q30, .int 0, .ref q31, .ref q32, .ref q33, .ref q34, .int 0, .ref q35, .ref q36, .ref q37, .ref q38, .int 0, .int 0, .ref q39, .ref q40, .ref q41, .ref q42])), (q1, .inl (G.2.1, 57, .inl (fun _ => 0))), (q2, .inl (G.2.1, 8, .inl (fun _ => 0)))]) rfl (fun H locs w => ?_)
  refine lv_iinc (v := 1) (lv' := [(1, .int 1), (0, .ref q0)]) hx hb dX12_asNow_20 hl (k := 0) rfl (by decide +kernel) (by decide) rfl (fun ls hl => ?_)
  refine lv_goto (tgt := 2) hx hb dX12_asNow_23 (by decide) ?_
  refine lv_iload_n hx hb dX12_asNow_2 rfl (lv_at hl 0 rfl) ?_
  refine lv_bipush (v := 8) hx hb dX12_asNow_3 (by decide) ?_
  refine lv_icmp_ge (tgt := 26) hx hb dX12_asNow_5 (by decide) (fun h => absurd h (by decide)) (fun _ => ?_)
  refine lv_aload_n hx hb dX12_asNow_8 rfl (lv_at hl 1 rfl) ?_
  refine r_get C w 0 rfl fr_X12_47 rfl dX12_asNow_9 ?_
  refine lv_iload_n hx hb dX12_asNow_12 rfl (lv_at hl 0 rfl) ?_
  refine lv_aload_n hx hb dX12_asNow_13 rfl (lv_at hl 1 rfl) ?_
  refine r_get C w 0 rfl fr_X12_41 rfl dX12_asNow_14 ?_
  refine lv_iload_n hx hb dX12_asNow_17 rfl (lv_at hl 0 rfl) ?_
  refine r_iald C w 1 rfl (IX.of (k := 1) (by decide +kernel)) (v := 0) rfl dX12_asNow_18 ?_
  refine r_iast C w 2 rfl (IX.of (k := 1) (by decide +kernel)) (g := (fun _ => 0)) (upd_c _ _) dX12_asNow_19 (ws2 := [(q0, .inr (12, [.int 0, .int 0, .int 0, .int 0, .int 0, .int 0, .int 0, .int (-1), .ref q3, .ref q4, .ref q5, .int 0, .ref q6, .ref q7, .ref q8, .ref q9, .ref q10, .ref q1, .ref q11, .int 0, .ref q2, .ref q12, .ref q13, .ref q14, .ref q15, .ref q16, .ref q17, .int 0, .int (-1), .int 0, .ref q18, .ref q19, .ref q20, .ref q21, .ref q22, .ref q23, .ref q24, .ref q25, .int 0, .ref q26, .ref q27, .ref q28, .ref q29, .ref q30, .int 0, .ref q31, .ref q32, .ref q33, .ref q34, .int 0, .ref q35, .ref q36, .ref q37, .ref q38, .int 0, .int 0, .ref q39, .ref q40, .ref q41, .ref q42])), (q1, .inl (G.2.1, 57, .inl (fun _ => 0))), (q2, .inl (G.2.1, 8, .inl (fun _ => 0)))]) rfl (fun H locs w => ?_)
  refine lv_iinc (v := 2) (lv' := [(1, .int 2), (0, .ref q0)]) hx hb dX12_asNow_20 hl (k := 0) rfl (by decide +kernel) (by decide) rfl (fun ls hl => ?_)
  refine lv_goto (tgt := 2) hx hb dX12_asNow_23 (by decide) ?_
  refine lv_iload_n hx hb dX12_asNow_2 rfl (lv_at hl 0 rfl) ?_
  refine lv_bipush (v := 8) hx hb dX12_asNow_3 (by decide) ?_
  refine lv_icmp_ge (tgt := 26) hx hb dX12_asNow_5 (by decide) (fun h => absurd h (by decide)) (fun _ => ?_)
  refine lv_aload_n hx hb dX12_asNow_8 rfl (lv_at hl 1 rfl) ?_
  refine r_get C w 0 rfl fr_X12_47 rfl dX12_asNow_9 ?_
  refine lv_iload_n hx hb dX12_asNow_12 rfl (lv_at hl 0 rfl) ?_
  refine lv_aload_n hx hb dX12_asNow_13 rfl (lv_at hl 1 rfl) ?_
  refine r_get C w 0 rfl fr_X12_41 rfl dX12_asNow_14 ?_
  refine lv_iload_n hx hb dX12_asNow_17 rfl (lv_at hl 0 rfl) ?_
  refine r_iald C w 1 rfl (IX.of (k := 2) (by decide +kernel)) (v := 0) rfl dX12_asNow_18 ?_
  refine r_iast C w 2 rfl (IX.of (k := 2) (by decide +kernel)) (g := (fun _ => 0)) (upd_c _ _) dX12_asNow_19 (ws2 := [(q0, .inr (12, [.int 0, .int 0, .int 0, .int 0, .int 0, .int 0, .int 0, .int (-1), .ref q3, .ref q4, .ref q5, .int 0, .ref q6, .ref q7, .ref q8, .ref q9, .ref q10, .ref q1, .ref q11, .int 0, .ref q2, .ref q12, .ref q13, .ref q14, .ref q15, .ref q16, .ref q17, .int 0, .int (-1), .int 0, .ref q18, .ref q19, .ref q20, .ref q21, .ref q22, .ref q23, .ref q24, .ref q25, .int 0, .ref q26, .ref q27, .ref q28, .ref q29, .ref q30, .int 0, .ref q31, .ref q32, .ref q33, .ref q34, .int 0, .ref q35, .ref q36, .ref q37, .ref q38, .int 0, .int 0, .ref q39, .ref q40, .ref q41, .ref q42])), (q1, .inl (G.2.1, 57, .inl (fun _ => 0))), (q2, .inl (G.2.1, 8, .inl (fun _ => 0)))]) rfl (fun H locs w => ?_)
  refine lv_iinc (v := 3) (lv' := [(1, .int 3), (0, .ref q0)]) hx hb dX12_asNow_20 hl (k := 0) rfl (by decide +kernel) (by decide) rfl (fun ls hl => ?_)
  refine lv_goto (tgt := 2) hx hb dX12_asNow_23 (by decide) ?_
  refine lv_iload_n hx hb dX12_asNow_2 rfl (lv_at hl 0 rfl) ?_
  refine lv_bipush (v := 8) hx hb dX12_asNow_3 (by decide) ?_
  refine lv_icmp_ge (tgt := 26) hx hb dX12_asNow_5 (by decide) (fun h => absurd h (by decide)) (fun _ => ?_)
  refine lv_aload_n hx hb dX12_asNow_8 rfl (lv_at hl 1 rfl) ?_
  refine r_get C w 0 rfl fr_X12_47 rfl dX12_asNow_9 ?_
  refine lv_iload_n hx hb dX12_asNow_12 rfl (lv_at hl 0 rfl) ?_
  refine lv_aload_n hx hb dX12_asNow_13 rfl (lv_at hl 1 rfl) ?_
  refine r_get C w 0 rfl fr_X12_41 rfl dX12_asNow_14 ?_
  refine lv_iload_n hx hb dX12_asNow_17 rfl (lv_at hl 0 rfl) ?_
  refine r_iald C w 1 rfl (IX.of (k := 3) (by decide +kernel)) (v := 0) rfl dX12_asNow_18 ?_
  refine r_iast C w 2 rfl (IX.of (k := 3) (by decide +kernel)) (g := (fun _ => 0)) (upd_c _ _) dX12_asNow_19 (ws2 := [(q0, .inr (12, [.int 0, .int 0, .int 0, .int 0, .int 0, .int 0, .int 0, .int (-1), .ref q3, .ref q4, .ref q5, .int 0, .ref q6, .ref q7, .ref q8, .ref q9, .ref q10, .ref q1, .ref q11, .int 0, .ref q2, .ref q12, .ref q13, .ref q14, .ref q15, .ref q16, .ref q17, .int 0, .int (-1), .int 0, .ref q18, .ref q19, .ref q20, .ref q21, .ref q22, .ref q23, .ref q24, .ref q25, .int 0, .ref q26, .ref q27, .ref q28, .ref q29, .ref q30, .int 0, .ref q31, .ref q32, .ref q33, .ref q34, .int 0, .ref q35, .ref q36, .ref q37, .ref q38, .int 0, .int 0, .ref q39, .ref q40, .ref q41, .ref q42])), (q1, .inl (G.2.1, 57, .inl (fun _ => 0))), (q2, .inl (G.2.1, 8, .inl (fun _ => 0)))]) rfl (fun H locs w => ?_)
  refine lv_iinc (v := 4) (lv' := [(1, .int 4), (0, .ref q0)]) hx hb dX12_asNow_20 hl (k := 0) rfl (by decide +kernel) (by decide) rfl (fun ls hl => ?_)
  refine lv_goto (tgt := 2) hx hb dX12_asNow_23 (by decide) ?_
  refine lv_iload_n hx hb dX12_asNow_2 rfl (lv_at hl 0 rfl) ?_
  refine lv_bipush (v := 8) hx hb dX12_asNow_3 (by decide) ?_
  refine lv_icmp_ge (tgt := 26) hx hb dX12_asNow_5 (by decide) (fun h => absurd h (by decide)) (fun _ => ?_)
  refine lv_aload_n hx hb dX12_asNow_8 rfl (lv_at hl 1 rfl) ?_
  refine r_get C w 0 rfl fr_X12_47 rfl dX12_asNow_9 ?_
  refine lv_iload_n hx hb dX12_asNow_12 rfl (lv_at hl 0 rfl) ?_
  refine lv_aload_n hx hb dX12_asNow_13 rfl (lv_at hl 1 rfl) ?_
  refine r_get C w 0 rfl fr_X12_41 rfl dX12_asNow_14 ?_
  refine lv_iload_n hx hb dX12_asNow_17 rfl (lv_at hl 0 rfl) ?_
  refine r_iald C w 1 rfl (IX.of (k := 4) (by decide +kernel)) (v := 0) rfl dX12_asNow_18 ?_
  refine r_iast C w 2 rfl (IX.of (k := 4) (by decide +kernel)) (g := (fun _ => 0)) (upd_c _ _) dX12_asNow_19 (ws2 := [(q0, .inr (12, [.int 0, .int 0, .int 0, .int 0, .int 0, .int 0, .int 0, .int (-1), .ref q3, .ref q4, .ref q5, .int 0, .ref q6, .ref q7, .ref q8, .ref q9, .ref q10, .ref q1, .ref q11, .int 0, .ref q2, .ref q12, .ref q13, .ref q14, .ref q15, .ref q16, .ref q17, .int 0, .int (-1), .int 0, .ref q18, .ref q19, .ref q20, .ref q21, .ref q22, .ref q23, .ref q24, .ref q25, .int 0, .ref q26, .ref q27, .ref q28, .ref q29, .ref q30, .int 0, .ref q31, .ref q32, .ref q33, .ref q34, .int 0, .ref q35, .ref q36, .ref q37, .ref q38, .int 0, .int 0, .ref q39, .ref q40, .ref q41, .ref q42])), (q1, .inl (G.2.1, 57, .inl (fun _ => 0))), (q2, .inl (G.2.1, 8, .inl (fun _ => 0)))]) rfl (fun H locs w => ?_)
  refine lv_iinc (v := 5) (lv' := [(1, .int 5), (0, .ref q0)]) hx hb dX12_asNow_20 hl (k := 0) rfl (by decide +kernel) (by decide) rfl (fun ls hl => ?_)
  refine lv_goto (tgt := 2) hx hb dX12_asNow_23 (by decide) ?_
  refine lv_iload_n hx hb dX12_asNow_2 rfl (lv_at hl 0 rfl) ?_
  refine lv_bipush (v := 8) hx hb dX12_asNow_3 (by decide) ?_
  refine lv_icmp_ge (tgt := 26) hx hb dX12_asNow_5 (by decide) (fun h => absurd h (by decide)) (fun _ => ?_)
  refine lv_aload_n hx hb dX12_asNow_8 rfl (lv_at hl 1 rfl) ?_
  refine r_get C w 0 rfl fr_X12_47 rfl dX12_asNow_9 ?_
  refine lv_iload_n hx hb dX12_asNow_12 rfl (lv_at hl 0 rfl) ?_
  refine lv_aload_n hx hb dX12_asNow_13 rfl (lv_at hl 1 rfl) ?_
  refine r_get C w 0 rfl fr_X12_41 rfl dX12_asNow_14 ?_
  refine lv_iload_n hx hb dX12_asNow_17 rfl (lv_at hl 0 rfl) ?_
  refine r_iald C w 1 rfl (IX.of (k := 5) (by decide +kernel)) (v := 0) rfl dX12_asNow_18 ?_
  refine r_iast C w 2 rfl (IX.of (k := 5) (by decide +kernel)) (g := (fun _ => 0)) (upd_c _ _) dX12_asNow_19 (ws2 := [(q0, .inr (12, [.int 0, .int 0, .int 0, .int 0, .int 0, .int 0, .int 0, .int (-1), .ref q3, .ref q4, .ref q5, .int 0, .ref q6, .ref q7, .ref q8, .ref q9, .ref q10, .ref q1, .ref q11, .int 0, .ref q2, .ref q12, .ref q13, .ref q14, .ref q15, .ref q16, .ref q17, .int 0, .int (-1), .int 0, .ref q18, .ref q19, .ref q20, .ref q21, .ref q22, .ref q23, .ref q24, .ref q25, .int 0, .ref q26, .ref q27, .ref q28, .ref q29, .ref q30, .int 0, .ref q31, .ref q32, .ref q33, .ref q34, .int 0, .ref q35, .ref q36, .ref q37, .ref q38, .int 0, .int 0, .ref q39, .ref q40, .ref q41, .ref q42])), (q1, .inl (G.2.1, 57, .inl (fun _ => 0))), (q2, .inl (G.2.1, 8, .inl (fun _ => 0)))]) rfl (fun H locs w => ?_)
  refine lv_iinc (v := 6) (lv' := [(1, .int 6), (0, .ref q0)]) hx hb dX12_asNow_20 hl (k := 0) rfl (by decide +kernel) (by decide) rfl (fun ls hl => ?_)
  refine lv_goto (tgt := 2) hx hb dX12_asNow_23 (by decide) ?_
  refine lv_iload_n hx hb dX12_asNow_2 rfl (lv_at hl 0 rfl) ?_
  refine lv_bipush (v := 8) hx hb dX12_asNow_3 (by decide) ?_
  refine lv_icmp_ge (tgt := 26) hx hb dX12_asNow_5 (by decide) (fun h => absurd h (by decide)) (fun _ => ?_)
  refine lv_aload_n hx hb dX12_asNow_8 rfl (lv_at hl 1 rfl) ?_
  refine r_get C w 0 rfl fr_X12_47 rfl dX12_asNow_9 ?_
  refine lv_iload_n hx hb dX12_asNow_12 rfl (lv_at hl 0 rfl) ?_
  refine lv_aload_n hx hb dX12_asNow_13 rfl (lv_at hl 1 rfl) ?_
  refine r_get C w 0 rfl fr_X12_41 rfl dX12_asNow_14 ?_
  refine lv_iload_n hx hb dX12_asNow_17 rfl (lv_at hl 0 rfl) ?_
  refine r_iald C w 1 rfl (IX.of (k := 6) (by decide +kernel)) (v := 0) rfl dX12_asNow_18 ?_
  refine r_iast C w 2 rfl (IX.of (k := 6) (by decide +kernel)) (g := (fun _ => 0)) (upd_c _ _) dX12_asNow_19 (ws2 := [(q0, .inr (12, [.int 0, .int 0, .int 0, .int 0, .int 0, .int 0, .int 0, .int (-1), .ref q3, .ref q4, .ref q5, .int 0, .ref q6, .ref q7, .ref q8, .ref q9, .ref q10, .ref q1, .ref q11, .int 0, .ref q2, .ref q12, .ref q13, .ref q14, .ref q15, .ref q16, .ref q17, .int 0, .int (-1), .int 0, .ref q18, .ref q19, .ref q20, .ref q21, .ref q22, .ref q23, .ref q24, .ref q25, .int 0, .ref q26, .ref q27, .ref q28, .ref q29, .ref q30, .int 0, .ref q31, .ref q32, .ref q33, .ref q34, .int 0, .ref q35, .ref q36, .ref q37, .ref q38, .int 0, .int 0, .ref q39, .ref q40, .ref q41, .ref q42])), (q1, .inl (G.2.1, 57, .inl (fun _ => 0))), (q2, .inl (G.2.1, 8, .inl (fun _ => 0)))]) rfl (fun H locs w => ?_)
  refine lv_iinc (v := 7) (lv' := [(1, .int 7), (0, .ref q0)]) hx hb dX12_asNow_20 hl (k := 0) rfl (by decide +kernel) (by decide) rfl (fun ls hl => ?_)
  refine lv_goto (tgt := 2) hx hb dX12_asNow_23 (by decide) ?_
  refine lv_iload_n hx hb dX12_asNow_2 rfl (lv_at hl 0 rfl) ?_
  refine lv_bipush (v := 8) hx hb dX12_asNow_3 (by decide) ?_
  refine lv_icmp_ge (tgt := 26) hx hb dX12_asNow_5 (by decide) (fun h => absurd h (by decide)) (fun _ => ?_)
  refine lv_aload_n hx hb dX12_asNow_8 rfl (lv_at hl 1 rfl) ?_
  refine r_get C w 0 rfl fr_X12_47 rfl dX12_asNow_9 ?_
  refine lv_iload_n hx hb dX12_asNow_12 rfl (lv_at hl 0 rfl) ?_
  refine lv_aload_n hx hb dX12_asNow_13 rfl (lv_at hl 1 rfl) ?_
  refine r_get C w 0 rfl fr_X12_41 rfl dX12_asNow_14 ?_
  refine lv_iload_n hx hb dX12_asNow_17 rfl (lv_at hl 0 rfl) ?_
  refine r_iald C w 1 rfl (IX.of (k := 7) (by decide +kernel)) (v := 0) rfl dX12_asNow_18 ?_
  refine r_iast C w 2 rfl (IX.of (k := 7) (by decide +kernel)) (g := (fun _ => 0)) (upd_c _ _) dX12_asNow_19 (ws2 := [(q0, .inr (12, [.int 0, .int 0, .int 0, .int 0, .int 0, .int 0, .int 0, .int (-1), .ref q3, .ref q4, .ref q5, .int 0, .ref q6, .ref q7, .ref q8, .ref q9, .ref q10, .ref q1, .ref q11, .int 0, .ref q2, .ref q12, .ref q13, .ref q14, .ref q15, .ref q16, .ref q17, .int 0, .int (-1), .int 0, .ref q18, .ref q19, .ref q20, .ref q21, .ref q22, .ref q23, .ref q24, .ref q25, .int 0, .ref q26, .ref q27, .ref q28, .ref q29, .ref q30, .int 0, .ref q31, .ref q32, .ref q33, .ref q34, .int 0, .ref q35, .ref q36, .ref q37, .ref q38, .int 0, .int 0, .ref q39, .ref q40, .ref q41, .ref q42])), (q1, .inl (G.2.1, 57, .inl (fun _ => 0))), (q2, .inl (G.2.1, 8, .inl (fun _ => 0)))]) rfl (fun H locs w => ?_)
  refine lv_iinc (v := 8) (lv' := [(1, .int 8), (0, .ref q0)]) hx hb dX12_asNow_20 hl (k := 0) rfl (by decide +kernel) (by decide) rfl (fun ls hl => ?_)
  refine lv_goto (tgt := 2) hx hb dX12_asNow_23 (by decide) ?_
  refine lv_iload_n hx hb dX12_asNow_2 rfl (lv_at hl 0 rfl) ?_
  refine lv_bipush (v := 8) hx hb dX12_asNow_3 (by decide) ?_
  refine lv_icmp_ge (tgt := 26) hx hb dX12_asNow_5 (by decide) (fun _ => ?_) (fun h => absurd (by decide) h)
  exact e_v C hr w (fun _ => 0) [0, 1, 2] rfl rfl dX12_asNow_26 (by decide) (by decide)
set_option maxRecDepth 100000 in
set_option maxHeartbeats 4000000 in
theorem k90_judge {l : Launch} {s0 : State} {a0 : Array Value} {G : GT} (b0 : B0 l s0 a0 G) (q0 q1 q2 q3 q4 q5 q6 q7 q8 q9 q10 q11 q12 q13 q14 q15 q16 q17 q18 q19 q20 q21 q22 q23 q24 q25 q26 q27 q28 q29 q30 q31 q32 q33 q34 q35 q36 q37 q38 q39 q40 q41 q42 : Nat) (sz : Nat) : Ki l s0 G yX12_judge cX12_judge 3 (some .int) { frames := 1, cells := 0, slots := 0, locals := 21 } [.ref q0] [(q0, .inr (12, [.int 0, .int 0, .int 0, .int 0, .int 0, .int 0, .int 0, .int (-1), .ref q3, .ref q4, .ref q5, .int 0, .ref q6, .ref q7, .ref q8, .ref q9, .ref q10, .ref q1, .ref q11, .int 0, .ref q2, .ref q12, .ref q13, .ref q14, .ref q15, .ref q16, .ref q17, .int 0, .int (-1), .int 0, .ref q18, .ref q19, .ref q20, .ref q21, .ref q22, .ref q23, .ref q24, .ref q25, .int 0, .ref q26, .ref q27, .ref q28, .ref q29, .ref q30, .int 0, .ref q31, .ref q32, .ref q33, .ref q34, .int 0, .ref q35, .ref q36, .ref q37, .ref q38, .int 0, .int 0, .ref q39, .ref q40, .ref q41, .ref q42])), (q1, .inl (G.2.1, 57, .inl (fun _ => 0))), (q2, .inl (G.2.1, 8, .inl (fun _ => 0)))] sz (-1) (fun u => [(q0, .inr (12, [.int 0, .int 0, .int 0, .int 0, .int 0, .int 0, .int 0, .int (-1), .ref q3, .ref q4, .ref q5, .int 0, .ref q6, .ref q7, .ref q8, .ref q9, .ref q10, .ref q1, .ref q11, .int 0, .ref q2, .ref q12, .ref q13, .ref q14, .ref q15, .ref q16, .ref q17, .int 0, .int (-1), .int 0, .ref q18, .ref q19, .ref q20, .ref q21, .ref q22, .ref q23, .ref q24, .ref q25, .int 0, .ref q26, .ref q27, .ref q28, .ref q29, .ref q30, .int 0, .ref q31, .ref q32, .ref q33, .ref q34, .int 0, .ref q35, .ref q36, .ref q37, .ref q38, .int 0, .int 0, .ref q39, .ref q40, .ref q41, .ref q42])), (q1, .inl (G.2.1, 57, .inl (fun _ => 0))), (q2, .inl (G.2.1, 8, .inl (fun _ => 0)))]) := by
  refine Ki.of b0 (own := RX12) (nm := "judge") [(0, .ref q0)] rfl rfl (by decide +kernel) (Nat.le_of_ble_eq_true rfl) rfl ?_
  intro p e s m below meth c A C hr H locs w ls hl
  have hx := C.hx
  have hb := C.hb
  refine lv_aload_n hx hb dX12_judge_0 rfl (lv_at hl 0 rfl) ?_
  refine lv_iconst (v := 0) hx hb dX12_judge_1 (by decide) ?_
  refine r_put C w 0 rfl fl_X12_1 (Nat.le_of_ble_eq_true rfl) rfl rfl dX12_judge_2 (ws2 := [(q0, .inr (12, [.int 0, .int 0, .int 0, .int 0, .int 0, .int 0, .int 0, .int (-1), .ref q3, .ref q4, .ref q5, .int 0, .ref q6, .ref q7, .ref q8, .ref q9, .ref q10, .ref q1, .ref q11, .int 0, .ref q2, .ref q12, .ref q13, .ref q14, .ref q15, .ref q16, .ref q17, .int 0, .int (-1), .int 0, .ref q18, .ref q19, .ref q20, .ref q21, .ref q22, .ref q23, .ref q24, .ref q25, .int 0, .ref q26, .ref q27, .ref q28, .ref q29, .ref q30, .int 0, .ref q31, .ref q32, .ref q33, .ref q34, .int 0, .ref q35, .ref q36, .ref q37, .ref q38, .int 0, .int 0, .ref q39, .ref q40, .ref q41, .ref q42])), (q1, .inl (G.2.1, 57, .inl (fun _ => 0))), (q2, .inl (G.2.1, 8, .inl (fun _ => 0)))]) rfl (fun H locs w => ?_)
  refine lv_aload_n hx hb dX12_judge_5 rfl (lv_at hl 0 rfl) ?_
  refine fin_v C w (run_V C w mv_X12_315 (k89_asNow C.b0 q0 q1 q2 q3 q4 q5 q6 q7 q8 q9 q10 q11 q12 q13 q14 q15 q16 q17 q18 q19 q20 q21 q22 q23 q24 q25 q26 q27 q28 q29 q30 q31 q32 q33 q34 q35 q36 q37 q38 q39 q40 q41 q42 H.size) [0, 1, 2] rfl rfl 0 rfl rfl (by decide) rfl hl.1 rfl (Nat.le_of_ble_eq_true rfl) dX12_judge_6 (cells2 := 0) (slots2 := 0) (by decide)) [0, 1, 2] [] rfl rfl (by decide) (cells2 := 0) (slots2 := 0) (by decide) (fun u1 H locs w => ?_)
  have w : Wd s G A [(q0, .inr (12, [.int 0, .int 0, .int 0, .int 0, .int 0, .int 0, .int 0, .int (-1), .ref q3, .ref q4, .ref q5, .int 0, .ref q6, .ref q7, .ref q8, .ref q9, .ref q10, .ref q1, .ref q11, .int 0, .ref q2, .ref q12, .ref q13, .ref q14, .ref q15, .ref q16, .ref q17, .int 0, .int (-1), .int 0, .ref q18, .ref q19, .ref q20, .ref q21, .ref q22, .ref q23, .ref q24, .ref q25, .int 0, .ref q26, .ref q27, .ref q28, .ref q29, .ref q30, .int 0, .ref q31, .ref q32, .ref q33, .ref q34, .int 0, .ref q35, .ref q36, .ref q37, .ref q38, .int 0, .int 0, .ref q39, .ref q40, .ref q41, .ref q42])), (q1, .inl (G.2.1, 57, .inl (fun _ => 0))), (q2, .inl (G.2.1, 8, .inl (fun _ => 0)))] H locs := w
  refine lv_iconst (v := 0) hx hb dX12_judge_9 (by decide) ?_
  refine lv_istore_n (lv' := [(1, .int 0), (0, .ref q0)]) hx hb dX12_judge_10 rfl hl (by decide) rfl (fun ls hl => ?_)
  refine lv_iload_n hx hb dX12_judge_11 rfl (lv_at hl 0 rfl) ?_
  refine lv_aload_n hx hb dX12_judge_12 rfl (lv_at hl 1 rfl) ?_
  refine r_get C w 0 rfl fr_X12_41 rfl dX12_judge_13 ?_
  refine lv_bipush (v := 16) hx hb dX12_judge_16 (by decide) ?_
  refine r_iald C w 1 rfl (IX.of (k := 16) (by decide +kernel)) (v := 0) rfl dX12_judge_18 ?_
  refine lv_icmp_ge (tgt := 76) hx hb dX12_judge_19 (by decide) (fun _ => ?_) (fun h => absurd (by decide) h)
  refine lv_iconst (v := (-1)) hx hb dX12_judge_76 (by decide) ?_
  exact e_i C hr w (fun _ => 0) [0, 1, 2] rfl rfl rfl dX12_judge_77 (by decide) (by decide)
set_option maxRecDepth 100000 in
set_option maxHeartbeats 4000000 in
theorem k91_needWithin {l : Launch} {s0 : State} {a0 : Array Value} {G : GT} (b0 : B0 l s0 a0 G) (x0 : Int32) (h0 : x0 < 1) (sz : Nat) : Kx l s0 G yX11_needWithin cX11_needWithin 3 none { frames := 6, cells := 1, slots := 6, locals := 90 } [.int x0, .int 1, .int 3000] [] sz "java/lang/IllegalArgumentException" := by
  refine Kx.of b0 (own := RX11) (nm := "needWithin") [(0, .int x0), (1, .int 1), (2, .int 3000)] rfl rfl (by decide +kernel) (Nat.le_of_ble_eq_true rfl) rfl ?_
  intro p e s m below meth c A C ht H locs w ls hl
  have hx := C.hx
  have hb := C.hb
  refine lv_iload_n hx hb dX11_needWithin_0 rfl (lv_at hl 0 rfl) ?_
  refine lv_iload_n hx hb dX11_needWithin_1 rfl (lv_at hl 1 rfl) ?_
  refine lv_icmp_lt (tgt := 10) hx hb dX11_needWithin_2 (by decide) (fun _ => ?_) (fun h => absurd h0 h)
  exact r_throwS C ht w hl.1 th_X11_247 C.b0.2.2.2.2.2.1 dX11_needWithin_10 dX11_needWithin_13 dX11_needWithin_14 dX11_needWithin_16 dX11_needWithin_19 (by decide) (Nat.le_of_ble_eq_true rfl) (by decide) (by decide) (by decide) (by decide) [] rfl rfl
set_option maxRecDepth 100000 in
set_option maxHeartbeats 4000000 in
theorem k92_needMost {l : Launch} {s0 : State} {a0 : Array Value} {G : GT} (b0 : B0 l s0 a0 G) (x0 : Int32) (h0 : x0 < 1) (sz : Nat) : Kx l s0 G yX11_needMost cX11_needMost 1 none { frames := 7, cells := 1, slots := 6, locals := 112 } [.int x0] [] sz "java/lang/IllegalArgumentException" := by
  refine Kx.of b0 (own := RX11) (nm := "needMost") [(0, .int x0)] rfl rfl (by decide +kernel) (Nat.le_of_ble_eq_true rfl) rfl ?_
  intro p e s m below meth c A C ht H locs w ls hl
  have hx := C.hx
  have hb := C.hb
  refine lv_iload_n hx hb dX11_needMost_0 rfl (lv_at hl 0 rfl) ?_
  refine lv_iconst (v := 1) hx hb dX11_needMost_1 (by decide) ?_
  refine lv_sipush (v := 3000) hx hb dX11_needMost_2 (by decide) ?_
  refine fin_x C w (run_Sx C w ms_X11_72 (k91_needWithin C.b0 x0 h0 H.size) [] rfl rfl (by decide) rfl hl.1 rfl (Nat.le_of_ble_eq_true rfl) dX11_needMost_5 (cells2 := 1) (slots2 := 6) (by decide)) [] [] rfl rfl (by decide) (cells2 := 1) (slots2 := 6) (by decide) (fun qx2 ce H locs w hce hcv hcl => ?_)
  have w : Wd s G A [] H locs := w
  exact r_out C ht w [] rfl rfl hce hcv hcl (by decide) (by decide)
set_option maxRecDepth 100000 in
set_option maxHeartbeats 4000000 in
theorem k93_states {l : Launch} {s0 : State} {a0 : Array Value} {G : GT} (b0 : B0 l s0 a0 G) (q0 : Nat) (x0 : Int32) (h0 : x0 < 1) (sz : Nat) : Kx l s0 G yX11_states cX11_states 3 (some .int) { frames := 8, cells := 1, slots := 6, locals := 132 } [.ref q0, .int x0] [] sz "java/lang/IllegalArgumentException" := by
  refine Kx.of b0 (own := RX11) (nm := "states") [(0, .ref q0), (1, .int x0)] rfl rfl (by decide +kernel) (Nat.le_of_ble_eq_true rfl) rfl ?_
  intro p e s m below meth c A C ht H locs w ls hl
  have hx := C.hx
  have hb := C.hb
  refine lv_iload_n hx hb dX11_states_0 rfl (lv_at hl 1 rfl) ?_
  refine fin_x C w (run_Sx C w ms_X11_161 (k92_needMost C.b0 x0 h0 H.size) [] rfl rfl (by decide) rfl hl.1 rfl (Nat.le_of_ble_eq_true rfl) dX11_states_1 (cells2 := 1) (slots2 := 6) (by decide)) [] [] rfl rfl (by decide) (cells2 := 1) (slots2 := 6) (by decide) (fun qx2 ce H locs w hce hcv hcl => ?_)
  have w : Wd s G A [] H locs := w
  exact r_out C ht w [] rfl rfl hce hcv hcl (by decide) (by decide)
set_option maxRecDepth 100000 in
set_option maxHeartbeats 4000000 in
theorem k94_states {l : Launch} {s0 : State} {a0 : Array Value} {G : GT} (b0 : B0 l s0 a0 G) (q0 q1 q2 q3 q4 q5 q6 q7 q8 q9 q10 q11 : Nat) (x0 : Int32) (h0 : x0 < 1) (sz : Nat) : Kh l s0 G yL_states cL_states 4 (some .int) [(0, 9, 12, 13)] { frames := 9, cells := 1, slots := 6, locals := 154 } [.ref q0, .int x0, .ref q1] [(q0, .inr (11, [.ref q2, .ref q3, .ref q4, .ref q5, .ref q6, .ref q7, .ref q8, .ref q9, .ref q10, .ref q11, .int 0, .int (-1), .int 0, .int 0, .null, .null, .null, .null, .null]))] sz 1 (fun u => [(q0, .inr (11, [.ref q2, .ref q3, .ref q4, .ref q5, .ref q6, .ref q7, .ref q8, .ref q9, .ref q10, .ref q11, .int 0, .int (-1), .int 0, .int 0, .null, .null, .null, .null, .null]))]) := by
  refine Kh.of b0 (own := RL) (nm := "states") [(0, .ref q0), (1, .int x0), (2, .ref q1)] rfl rfl (by decide +kernel) (Nat.le_of_ble_eq_true rfl) rfl ?_
  intro p e s m below meth c A C hr ht H locs w ls hl
  have hx := C.hx
  have hb := C.hb
  refine lv_aload_n hx hb dL_states_0 rfl (lv_at hl 2 rfl) ?_
  refine lv_iconst (v := 0) hx hb dL_states_1 (by decide) ?_
  refine lv_aload_n hx hb dL_states_2 rfl (lv_at hl 0 rfl) ?_
  refine lv_iload_n hx hb dL_states_3 rfl (lv_at hl 1 rfl) ?_
  refine fin_x C w (run_Vx C w mv_L_45 (k93_states C.b0 q0 x0 h0 H.size) [] rfl rfl 0 rfl rfl (by decide) rfl hl.1 rfl (Nat.le_of_ble_eq_true rfl) dL_states_4 (cells2 := 1) (slots2 := 6) (by decide)) [] [0] rfl rfl (by decide) (cells2 := 1) (slots2 := 6) (by decide) (fun qx2 ce H locs w hce hcv hcl => ?_)
  have w : Wd s G A [(q0, .inr (11, [.ref q2, .ref q3, .ref q4, .ref q5, .ref q6, .ref q7, .ref q8, .ref q9, .ref q10, .ref q11, .int 0, .int (-1), .int 0, .int 0, .null, .null, .null, .null, .null]))] H locs := w
  refine r_catch C ht (by decide) (by decide) tl_L_13 tk_java_lang_IllegalArgumentException hce hcv hcl ?_
  refine lv_astore_n (lv' := [(3, .ref qx2), (0, .ref q0), (1, .int x0), (2, .ref q1)]) hx hb dL_states_12 rfl hl (by decide) rfl (fun ls hl => ?_)
  refine lv_iconst (v := 1) hx hb dL_states_13 (by decide) ?_
  exact e_i C hr w (fun _ => 0) [0] rfl rfl rfl dL_states_14 (by decide) (by decide)
set_option maxRecDepth 100000 in
set_option maxHeartbeats 4000000 in
theorem k95_within {l : Launch} {s0 : State} {a0 : Array Value} {G : GT} (b0 : B0 l s0 a0 G) (x0 : Int32) (h0 : x0 < 1) (sz : Nat) : Ki l s0 G yX12_within cX12_within 3 (some .boolean) { frames := 0, cells := 0, slots := 0, locals := 0 } [.int x0, .int 1, .int 3000] [] sz 0 (fun u => []) := by
  refine Ki.of b0 (own := RX12) (nm := "within") [(0, .int x0), (1, .int 1), (2, .int 3000)] rfl rfl (by decide +kernel) (Nat.le_of_ble_eq_true rfl) rfl ?_
  intro p e s m below meth c A C hr H locs w ls hl
  have hx := C.hx
  have hb := C.hb
  refine lv_iload_n hx hb dX12_within_0 rfl (lv_at hl 0 rfl) ?_
  refine lv_iload_n hx hb dX12_within_1 rfl (lv_at hl 1 rfl) ?_
  refine lv_icmp_lt (tgt := 14) hx hb dX12_within_2 (by decide) (fun _ => ?_) (fun h => absurd h0 h)
  refine lv_iconst (v := 0) hx hb dX12_within_14 (by decide) ?_
  exact e_i C hr w (fun _ => 0) [] rfl rfl (by decide) dX12_within_15 (by decide) (by decide)
set_option maxRecDepth 100000 in
set_option maxHeartbeats 4000000 in
theorem k96_isMost {l : Launch} {s0 : State} {a0 : Array Value} {G : GT} (b0 : B0 l s0 a0 G) (q0 q1 q2 q3 q4 q5 q6 q7 q8 q9 q10 q11 q12 q13 q14 q15 q16 q17 q18 q19 q20 q21 q22 q23 q24 q25 q26 q27 q28 q29 q30 q31 q32 q33 q34 q35 q36 q37 q38 q39 q40 q41 q42 : Nat) (x0 : Int32) (h0 : x0 < 1) (sz : Nat) : Ki l s0 G yX12_isMost cX12_isMost 3 (some .boolean) { frames := 1, cells := 0, slots := 0, locals := 22 } [.ref q0, .int x0, .int 1] [(q0, .inr (12, [.int 0, .int 0, .int 0, .int 0, .int 0, .int 0, .int 0, .int (-1), .ref q1, .ref q2, .ref q3, .int 0, .ref q4, .ref q5, .ref q6, .ref q7, .ref q8, .ref q9, .ref q10, .int 0, .ref q11, .ref q12, .ref q13, .ref q14, .ref q15, .ref q16, .ref q17, .int 0, .int (-1), .int 0, .ref q18, .ref q19, .ref q20, .ref q21, .ref q22, .ref q23, .ref q24, .ref q25, .int 0, .ref q26, .ref q27, .ref q28, .ref q29, .ref q30, .int 0, .ref q31, .ref q32, .ref q33, .ref q34, .int 0, .ref q35, .ref q36, .ref q37, .ref q38, .int 0, .int 0, .ref q39, .ref q40, .ref q41, .ref q42]))] sz 0 (fun u => [(q0, .inr (12, [.int 1, .int 0, .int 0, .int 0, .int 0, .int 0, .int 0, .int (-1), .ref q1, .ref q2, .ref q3, .int 0, .ref q4, .ref q5, .ref q6, .ref q7, .ref q8, .ref q9, .ref q10, .int 0, .ref q11, .ref q12, .ref q13, .ref q14, .ref q15, .ref q16, .ref q17, .int 0, .int (-1), .int 0, .ref q18, .ref q19, .ref q20, .ref q21, .ref q22, .ref q23, .ref q24, .ref q25, .int 0, .ref q26, .ref q27, .ref q28, .ref q29, .ref q30, .int 0, .ref q31, .ref q32, .ref q33, .ref q34, .int 0, .ref q35, .ref q36, .ref q37, .ref q38, .int 0, .int 0, .ref q39, .ref q40, .ref q41, .ref q42]))]) := by
  refine Ki.of b0 (own := RX12) (nm := "isMost") [(0, .ref q0), (1, .int x0), (2, .int 1)] rfl rfl (by decide +kernel) (Nat.le_of_ble_eq_true rfl) rfl ?_
  intro p e s m below meth c A C hr H locs w ls hl
  have hx := C.hx
  have hb := C.hb
  refine lv_aload_n hx hb dX12_isMost_0 rfl (lv_at hl 0 rfl) ?_
  refine lv_iload_n hx hb dX12_isMost_1 rfl (lv_at hl 1 rfl) ?_
  refine lv_iconst (v := 1) hx hb dX12_isMost_2 (by decide) ?_
  refine lv_sipush (v := 3000) hx hb dX12_isMost_3 (by decide) ?_
  refine fin_i C w (run_S C w ms_X12_289 (k95_within C.b0 x0 h0 H.size) [] rfl rfl (by decide) rfl hl.1 rfl (Nat.le_of_ble_eq_true rfl) dX12_isMost_6 (cells2 := 0) (slots2 := 0) (by decide)) [] [0] rfl rfl (by decide) (cells2 := 0) (slots2 := 0) (by decide) (fun u1 H locs w => ?_)
  have w : Wd s G A [(q0, .inr (12, [.int 0, .int 0, .int 0, .int 0, .int 0, .int 0, .int 0, .int (-1), .ref q1, .ref q2, .ref q3, .int 0, .ref q4, .ref q5, .ref q6, .ref q7, .ref q8, .ref q9, .ref q10, .int 0, .ref q11, .ref q12, .ref q13, .ref q14, .ref q15, .ref q16, .ref q17, .int 0, .int (-1), .int 0, .ref q18, .ref q19, .ref q20, .ref q21, .ref q22, .ref q23, .ref q24, .ref q25, .int 0, .ref q26, .ref q27, .ref q28, .ref q29, .ref q30, .int 0, .ref q31, .ref q32, .ref q33, .ref q34, .int 0, .ref q35, .ref q36, .ref q37, .ref q38, .int 0, .int 0, .ref q39, .ref q40, .ref q41, .ref q42]))] H locs := w
  refine lv_iload_n hx hb dX12_isMost_9 rfl (lv_at hl 2 rfl) ?_
  refine fin_i C w (run_V C w mv_X12_267 (k18_may C.b0 q0 q1 q2 q3 q4 q5 q6 q7 q8 q9 q10 q11 q12 q13 q14 q15 q16 q17 q18 q19 q20 q21 q22 q23 q24 q25 q26 q27 q28 q29 q30 q31 q32 q33 q34 q35 q36 q37 q38 q39 q40 q41 q42 H.size) [0] rfl rfl 0 rfl rfl (by decide) rfl hl.1 rfl (Nat.le_of_ble_eq_true rfl) dX12_isMost_10 (cells2 := 0) (slots2 := 0) (by decide)) [0] [] rfl rfl (by decide) (cells2 := 0) (slots2 := 0) (by decide) (fun u2 H locs w => ?_)
  have w : Wd s G A [(q0, .inr (12, [.int 1, .int 0, .int 0, .int 0, .int 0, .int 0, .int 0, .int (-1), .ref q1, .ref q2, .ref q3, .int 0, .ref q4, .ref q5, .ref q6, .ref q7, .ref q8, .ref q9, .ref q10, .int 0, .ref q11, .ref q12, .ref q13, .ref q14, .ref q15, .ref q16, .ref q17, .int 0, .int (-1), .int 0, .ref q18, .ref q19, .ref q20, .ref q21, .ref q22, .ref q23, .ref q24, .ref q25, .int 0, .ref q26, .ref q27, .ref q28, .ref q29, .ref q30, .int 0, .ref q31, .ref q32, .ref q33, .ref q34, .int 0, .ref q35, .ref q36, .ref q37, .ref q38, .int 0, .int 0, .ref q39, .ref q40, .ref q41, .ref q42]))] H locs := w
  exact e_i C hr w (fun _ => 0) [0] rfl rfl (by decide) dX12_isMost_13 (by decide) (by decide)
set_option maxRecDepth 100000 in
set_option maxHeartbeats 4000000 in
theorem k97_states {l : Launch} {s0 : State} {a0 : Array Value} {G : GT} (b0 : B0 l s0 a0 G) (q0 q1 q2 q3 q4 q5 q6 q7 q8 q9 q10 q11 q12 q13 q14 q15 q16 q17 q18 q19 q20 q21 q22 q23 q24 q25 q26 q27 q28 q29 q30 q31 q32 q33 q34 q35 q36 q37 q38 q39 q40 q41 q42 : Nat) (x0 : Int32) (h0 : x0 < 1) (sz : Nat) : Ki l s0 G yX12_states cX12_states 2 (some .int) { frames := 2, cells := 0, slots := 0, locals := 44 } [.ref q0, .int x0] [(q0, .inr (12, [.int 0, .int 0, .int 0, .int 0, .int 0, .int 0, .int 0, .int (-1), .ref q1, .ref q2, .ref q3, .int 0, .ref q4, .ref q5, .ref q6, .ref q7, .ref q8, .ref q9, .ref q10, .int 0, .ref q11, .ref q12, .ref q13, .ref q14, .ref q15, .ref q16, .ref q17, .int 0, .int (-1), .int 0, .ref q18, .ref q19, .ref q20, .ref q21, .ref q22, .ref q23, .ref q24, .ref q25, .int 0, .ref q26, .ref q27, .ref q28, .ref q29, .ref q30, .int 0, .ref q31, .ref q32, .ref q33, .ref q34, .int 0, .ref q35, .ref q36, .ref q37, .ref q38, .int 0, .int 0, .ref q39, .ref q40, .ref q41, .ref q42]))] sz 0 (fun u => [(q0, .inr (12, [.int 1, .int 0, .int 0, .int 0, .int 0, .int 0, .int 0, .int (-1), .ref q1, .ref q2, .ref q3, .int 0, .ref q4, .ref q5, .ref q6, .ref q7, .ref q8, .ref q9, .ref q10, .int 0, .ref q11, .ref q12, .ref q13, .ref q14, .ref q15, .ref q16, .ref q17, .int 0, .int (-1), .int 0, .ref q18, .ref q19, .ref q20, .ref q21, .ref q22, .ref q23, .ref q24, .ref q25, .int 0, .ref q26, .ref q27, .ref q28, .ref q29, .ref q30, .int 0, .ref q31, .ref q32, .ref q33, .ref q34, .int 0, .ref q35, .ref q36, .ref q37, .ref q38, .int 0, .int 0, .ref q39, .ref q40, .ref q41, .ref q42]))]) := by
  refine Ki.of b0 (own := RX12) (nm := "states") [(0, .ref q0), (1, .int x0)] rfl rfl (by decide +kernel) (Nat.le_of_ble_eq_true rfl) rfl ?_
  intro p e s m below meth c A C hr H locs w ls hl
  have hx := C.hx
  have hb := C.hb
  refine lv_aload_n hx hb dX12_states_0 rfl (lv_at hl 0 rfl) ?_
  refine lv_iconst (v := 0) hx hb dX12_states_1 (by decide) ?_
  refine r_put C w 0 rfl fl_X12_1 (Nat.le_of_ble_eq_true rfl) rfl rfl dX12_states_2 (ws2 := [(q0, .inr (12, [.int 0, .int 0, .int 0, .int 0, .int 0, .int 0, .int 0, .int (-1), .ref q1, .ref q2, .ref q3, .int 0, .ref q4, .ref q5, .ref q6, .ref q7, .ref q8, .ref q9, .ref q10, .int 0, .ref q11, .ref q12, .ref q13, .ref q14, .ref q15, .ref q16, .ref q17, .int 0, .int (-1), .int 0, .ref q18, .ref q19, .ref q20, .ref q21, .ref q22, .ref q23, .ref q24, .ref q25, .int 0, .ref q26, .ref q27, .ref q28, .ref q29, .ref q30, .int 0, .ref q31, .ref q32, .ref q33, .ref q34, .int 0, .ref q35, .ref q36, .ref q37, .ref q38, .int 0, .int 0, .ref q39, .ref q40, .ref q41, .ref q42]))]) rfl (fun H locs w => ?_)
  refine lv_aload_n hx hb dX12_states_5 rfl (lv_at hl 0 rfl) ?_
  refine lv_iload_n hx hb dX12_states_6 rfl (lv_at hl 1 rfl) ?_
  refine lv_iconst (v := 1) hx hb dX12_states_7 (by decide) ?_
  refine fin_i C w (run_V C w mv_X12_336 (k96_isMost C.b0 q0 q1 q2 q3 q4 q5 q6 q7 q8 q9 q10 q11 q12 q13 q14 q15 q16 q17 q18 q19 q20 q21 q22 q23 q24 q25 q26 q27 q28 q29 q30 q31 q32 q33 q34 q35 q36 q37 q38 q39 q40 q41 q42 x0 h0 H.size) [0] rfl rfl 0 rfl rfl (by decide) rfl hl.1 rfl (Nat.le_of_ble_eq_true rfl) dX12_states_8 (cells2 := 0) (slots2 := 0) (by decide)) [0] [] rfl rfl (by decide) (cells2 := 0) (slots2 := 0) (by decide) (fun u1 H locs w => ?_)
  have w : Wd s G A [(q0, .inr (12, [.int 1, .int 0, .int 0, .int 0, .int 0, .int 0, .int 0, .int (-1), .ref q1, .ref q2, .ref q3, .int 0, .ref q4, .ref q5, .ref q6, .ref q7, .ref q8, .ref q9, .ref q10, .int 0, .ref q11, .ref q12, .ref q13, .ref q14, .ref q15, .ref q16, .ref q17, .int 0, .int (-1), .int 0, .ref q18, .ref q19, .ref q20, .ref q21, .ref q22, .ref q23, .ref q24, .ref q25, .int 0, .ref q26, .ref q27, .ref q28, .ref q29, .ref q30, .int 0, .ref q31, .ref q32, .ref q33, .ref q34, .int 0, .ref q35, .ref q36, .ref q37, .ref q38, .int 0, .int 0, .ref q39, .ref q40, .ref q41, .ref q42]))] H locs := w
  refine lv_if_ne (tgt := 16) hx hb dX12_states_11 (by decide) (fun h => absurd (by decide) h) (fun _ => ?_)
  refine lv_iconst (v := 0) hx hb dX12_states_14 (by decide) ?_
  exact e_i C hr w (fun _ => 0) [0] rfl rfl rfl dX12_states_15 (by decide) (by decide)
set_option maxRecDepth 100000 in
set_option maxHeartbeats 4000000 in
theorem k98_needWithin {l : Launch} {s0 : State} {a0 : Array Value} {G : GT} (b0 : B0 l s0 a0 G) (x0 : Int32) (h0 : 3000 < x0) (h1 : ¬ x0 < 1) (sz : Nat) : Kx l s0 G yX11_needWithin cX11_needWithin 3 none { frames := 6, cells := 1, slots := 6, locals := 90 } [.int x0, .int 1, .int 3000] [] sz "java/lang/IllegalArgumentException" := by
  refine Kx.of b0 (own := RX11) (nm := "needWithin") [(0, .int x0), (1, .int 1), (2, .int 3000)] rfl rfl (by decide +kernel) (Nat.le_of_ble_eq_true rfl) rfl ?_
  intro p e s m below meth c A C ht H locs w ls hl
  have hx := C.hx
  have hb := C.hb
  refine lv_iload_n hx hb dX11_needWithin_0 rfl (lv_at hl 0 rfl) ?_
  refine lv_iload_n hx hb dX11_needWithin_1 rfl (lv_at hl 1 rfl) ?_
  refine lv_icmp_lt (tgt := 10) hx hb dX11_needWithin_2 (by decide) (fun h => absurd h h1) (fun _ => ?_)
  refine lv_iload_n hx hb dX11_needWithin_5 rfl (lv_at hl 0 rfl) ?_
  refine lv_iload_n hx hb dX11_needWithin_6 rfl (lv_at hl 2 rfl) ?_
  refine lv_icmp_le (tgt := 20) hx hb dX11_needWithin_7 (by decide) (fun h => absurd h (Int32.not_le.mpr h0)) (fun _ => ?_)
  exact r_throwS C ht w hl.1 th_X11_247 C.b0.2.2.2.2.2.1 dX11_needWithin_10 dX11_needWithin_13 dX11_needWithin_14 dX11_needWithin_16 dX11_needWithin_19 (by decide) (Nat.le_of_ble_eq_true rfl) (by decide) (by decide) (by decide) (by decide) [] rfl rfl
set_option maxRecDepth 100000 in
set_option maxHeartbeats 4000000 in
theorem k99_needMost {l : Launch} {s0 : State} {a0 : Array Value} {G : GT} (b0 : B0 l s0 a0 G) (x0 : Int32) (h0 : 3000 < x0) (h1 : ¬ x0 < 1) (sz : Nat) : Kx l s0 G yX11_needMost cX11_needMost 1 none { frames := 7, cells := 1, slots := 6, locals := 112 } [.int x0] [] sz "java/lang/IllegalArgumentException" := by
  refine Kx.of b0 (own := RX11) (nm := "needMost") [(0, .int x0)] rfl rfl (by decide +kernel) (Nat.le_of_ble_eq_true rfl) rfl ?_
  intro p e s m below meth c A C ht H locs w ls hl
  have hx := C.hx
  have hb := C.hb
  refine lv_iload_n hx hb dX11_needMost_0 rfl (lv_at hl 0 rfl) ?_
  refine lv_iconst (v := 1) hx hb dX11_needMost_1 (by decide) ?_
  refine lv_sipush (v := 3000) hx hb dX11_needMost_2 (by decide) ?_
  refine fin_x C w (run_Sx C w ms_X11_72 (k98_needWithin C.b0 x0 h0 h1 H.size) [] rfl rfl (by decide) rfl hl.1 rfl (Nat.le_of_ble_eq_true rfl) dX11_needMost_5 (cells2 := 1) (slots2 := 6) (by decide)) [] [] rfl rfl (by decide) (cells2 := 1) (slots2 := 6) (by decide) (fun qx2 ce H locs w hce hcv hcl => ?_)
  have w : Wd s G A [] H locs := w
  exact r_out C ht w [] rfl rfl hce hcv hcl (by decide) (by decide)
set_option maxRecDepth 100000 in
set_option maxHeartbeats 4000000 in
theorem k100_states {l : Launch} {s0 : State} {a0 : Array Value} {G : GT} (b0 : B0 l s0 a0 G) (q0 : Nat) (x0 : Int32) (h0 : 3000 < x0) (h1 : ¬ x0 < 1) (sz : Nat) : Kx l s0 G yX11_states cX11_states 3 (some .int) { frames := 8, cells := 1, slots := 6, locals := 132 } [.ref q0, .int x0] [] sz "java/lang/IllegalArgumentException" := by
  refine Kx.of b0 (own := RX11) (nm := "states") [(0, .ref q0), (1, .int x0)] rfl rfl (by decide +kernel) (Nat.le_of_ble_eq_true rfl) rfl ?_
  intro p e s m below meth c A C ht H locs w ls hl
  have hx := C.hx
  have hb := C.hb
  refine lv_iload_n hx hb dX11_states_0 rfl (lv_at hl 1 rfl) ?_
  refine fin_x C w (run_Sx C w ms_X11_161 (k99_needMost C.b0 x0 h0 h1 H.size) [] rfl rfl (by decide) rfl hl.1 rfl (Nat.le_of_ble_eq_true rfl) dX11_states_1 (cells2 := 1) (slots2 := 6) (by decide)) [] [] rfl rfl (by decide) (cells2 := 1) (slots2 := 6) (by decide) (fun qx2 ce H locs w hce hcv hcl => ?_)
  have w : Wd s G A [] H locs := w
  exact r_out C ht w [] rfl rfl hce hcv hcl (by decide) (by decide)
set_option maxRecDepth 100000 in
set_option maxHeartbeats 4000000 in
theorem k101_states {l : Launch} {s0 : State} {a0 : Array Value} {G : GT} (b0 : B0 l s0 a0 G) (q0 q1 q2 q3 q4 q5 q6 q7 q8 q9 q10 q11 : Nat) (x0 : Int32) (h0 : 3000 < x0) (h1 : ¬ x0 < 1) (sz : Nat) : Kh l s0 G yL_states cL_states 4 (some .int) [(0, 9, 12, 13)] { frames := 9, cells := 1, slots := 6, locals := 154 } [.ref q0, .int x0, .ref q1] [(q0, .inr (11, [.ref q2, .ref q3, .ref q4, .ref q5, .ref q6, .ref q7, .ref q8, .ref q9, .ref q10, .ref q11, .int 0, .int (-1), .int 0, .int 0, .null, .null, .null, .null, .null]))] sz 1 (fun u => [(q0, .inr (11, [.ref q2, .ref q3, .ref q4, .ref q5, .ref q6, .ref q7, .ref q8, .ref q9, .ref q10, .ref q11, .int 0, .int (-1), .int 0, .int 0, .null, .null, .null, .null, .null]))]) := by
  refine Kh.of b0 (own := RL) (nm := "states") [(0, .ref q0), (1, .int x0), (2, .ref q1)] rfl rfl (by decide +kernel) (Nat.le_of_ble_eq_true rfl) rfl ?_
  intro p e s m below meth c A C hr ht H locs w ls hl
  have hx := C.hx
  have hb := C.hb
  refine lv_aload_n hx hb dL_states_0 rfl (lv_at hl 2 rfl) ?_
  refine lv_iconst (v := 0) hx hb dL_states_1 (by decide) ?_
  refine lv_aload_n hx hb dL_states_2 rfl (lv_at hl 0 rfl) ?_
  refine lv_iload_n hx hb dL_states_3 rfl (lv_at hl 1 rfl) ?_
  refine fin_x C w (run_Vx C w mv_L_45 (k100_states C.b0 q0 x0 h0 h1 H.size) [] rfl rfl 0 rfl rfl (by decide) rfl hl.1 rfl (Nat.le_of_ble_eq_true rfl) dL_states_4 (cells2 := 1) (slots2 := 6) (by decide)) [] [0] rfl rfl (by decide) (cells2 := 1) (slots2 := 6) (by decide) (fun qx2 ce H locs w hce hcv hcl => ?_)
  have w : Wd s G A [(q0, .inr (11, [.ref q2, .ref q3, .ref q4, .ref q5, .ref q6, .ref q7, .ref q8, .ref q9, .ref q10, .ref q11, .int 0, .int (-1), .int 0, .int 0, .null, .null, .null, .null, .null]))] H locs := w
  refine r_catch C ht (by decide) (by decide) tl_L_13 tk_java_lang_IllegalArgumentException hce hcv hcl ?_
  refine lv_astore_n (lv' := [(3, .ref qx2), (0, .ref q0), (1, .int x0), (2, .ref q1)]) hx hb dL_states_12 rfl hl (by decide) rfl (fun ls hl => ?_)
  refine lv_iconst (v := 1) hx hb dL_states_13 (by decide) ?_
  exact e_i C hr w (fun _ => 0) [0] rfl rfl rfl dL_states_14 (by decide) (by decide)
set_option maxRecDepth 100000 in
set_option maxHeartbeats 4000000 in
theorem k102_within {l : Launch} {s0 : State} {a0 : Array Value} {G : GT} (b0 : B0 l s0 a0 G) (x0 : Int32) (h0 : 3000 < x0) (h1 : ¬ x0 < 1) (sz : Nat) : Ki l s0 G yX12_within cX12_within 3 (some .boolean) { frames := 0, cells := 0, slots := 0, locals := 0 } [.int x0, .int 1, .int 3000] [] sz 0 (fun u => []) := by
  refine Ki.of b0 (own := RX12) (nm := "within") [(0, .int x0), (1, .int 1), (2, .int 3000)] rfl rfl (by decide +kernel) (Nat.le_of_ble_eq_true rfl) rfl ?_
  intro p e s m below meth c A C hr H locs w ls hl
  have hx := C.hx
  have hb := C.hb
  refine lv_iload_n hx hb dX12_within_0 rfl (lv_at hl 0 rfl) ?_
  refine lv_iload_n hx hb dX12_within_1 rfl (lv_at hl 1 rfl) ?_
  refine lv_icmp_lt (tgt := 14) hx hb dX12_within_2 (by decide) (fun h => absurd h h1) (fun _ => ?_)
  refine lv_iload_n hx hb dX12_within_5 rfl (lv_at hl 0 rfl) ?_
  refine lv_iload_n hx hb dX12_within_6 rfl (lv_at hl 2 rfl) ?_
  refine lv_icmp_gt (tgt := 14) hx hb dX12_within_7 (by decide) (fun _ => ?_) (fun h => absurd h0 h)
  refine lv_iconst (v := 0) hx hb dX12_within_14 (by decide) ?_
  exact e_i C hr w (fun _ => 0) [] rfl rfl (by decide) dX12_within_15 (by decide) (by decide)
set_option maxRecDepth 100000 in
set_option maxHeartbeats 4000000 in
theorem k103_isMost {l : Launch} {s0 : State} {a0 : Array Value} {G : GT} (b0 : B0 l s0 a0 G) (q0 q1 q2 q3 q4 q5 q6 q7 q8 q9 q10 q11 q12 q13 q14 q15 q16 q17 q18 q19 q20 q21 q22 q23 q24 q25 q26 q27 q28 q29 q30 q31 q32 q33 q34 q35 q36 q37 q38 q39 q40 q41 q42 : Nat) (x0 : Int32) (h0 : 3000 < x0) (h1 : ¬ x0 < 1) (sz : Nat) : Ki l s0 G yX12_isMost cX12_isMost 3 (some .boolean) { frames := 1, cells := 0, slots := 0, locals := 22 } [.ref q0, .int x0, .int 1] [(q0, .inr (12, [.int 0, .int 0, .int 0, .int 0, .int 0, .int 0, .int 0, .int (-1), .ref q1, .ref q2, .ref q3, .int 0, .ref q4, .ref q5, .ref q6, .ref q7, .ref q8, .ref q9, .ref q10, .int 0, .ref q11, .ref q12, .ref q13, .ref q14, .ref q15, .ref q16, .ref q17, .int 0, .int (-1), .int 0, .ref q18, .ref q19, .ref q20, .ref q21, .ref q22, .ref q23, .ref q24, .ref q25, .int 0, .ref q26, .ref q27, .ref q28, .ref q29, .ref q30, .int 0, .ref q31, .ref q32, .ref q33, .ref q34, .int 0, .ref q35, .ref q36, .ref q37, .ref q38, .int 0, .int 0, .ref q39, .ref q40, .ref q41, .ref q42]))] sz 0 (fun u => [(q0, .inr (12, [.int 1, .int 0, .int 0, .int 0, .int 0, .int 0, .int 0, .int (-1), .ref q1, .ref q2, .ref q3, .int 0, .ref q4, .ref q5, .ref q6, .ref q7, .ref q8, .ref q9, .ref q10, .int 0, .ref q11, .ref q12, .ref q13, .ref q14, .ref q15, .ref q16, .ref q17, .int 0, .int (-1), .int 0, .ref q18, .ref q19, .ref q20, .ref q21, .ref q22, .ref q23, .ref q24, .ref q25, .int 0, .ref q26, .ref q27, .ref q28, .ref q29, .ref q30, .int 0, .ref q31, .ref q32, .ref q33, .ref q34, .int 0, .ref q35, .ref q36, .ref q37, .ref q38, .int 0, .int 0, .ref q39, .ref q40, .ref q41, .ref q42]))]) := by
  refine Ki.of b0 (own := RX12) (nm := "isMost") [(0, .ref q0), (1, .int x0), (2, .int 1)] rfl rfl (by decide +kernel) (Nat.le_of_ble_eq_true rfl) rfl ?_
  intro p e s m below meth c A C hr H locs w ls hl
  have hx := C.hx
  have hb := C.hb
  refine lv_aload_n hx hb dX12_isMost_0 rfl (lv_at hl 0 rfl) ?_
  refine lv_iload_n hx hb dX12_isMost_1 rfl (lv_at hl 1 rfl) ?_
  refine lv_iconst (v := 1) hx hb dX12_isMost_2 (by decide) ?_
  refine lv_sipush (v := 3000) hx hb dX12_isMost_3 (by decide) ?_
  refine fin_i C w (run_S C w ms_X12_289 (k102_within C.b0 x0 h0 h1 H.size) [] rfl rfl (by decide) rfl hl.1 rfl (Nat.le_of_ble_eq_true rfl) dX12_isMost_6 (cells2 := 0) (slots2 := 0) (by decide)) [] [0] rfl rfl (by decide) (cells2 := 0) (slots2 := 0) (by decide) (fun u1 H locs w => ?_)
  have w : Wd s G A [(q0, .inr (12, [.int 0, .int 0, .int 0, .int 0, .int 0, .int 0, .int 0, .int (-1), .ref q1, .ref q2, .ref q3, .int 0, .ref q4, .ref q5, .ref q6, .ref q7, .ref q8, .ref q9, .ref q10, .int 0, .ref q11, .ref q12, .ref q13, .ref q14, .ref q15, .ref q16, .ref q17, .int 0, .int (-1), .int 0, .ref q18, .ref q19, .ref q20, .ref q21, .ref q22, .ref q23, .ref q24, .ref q25, .int 0, .ref q26, .ref q27, .ref q28, .ref q29, .ref q30, .int 0, .ref q31, .ref q32, .ref q33, .ref q34, .int 0, .ref q35, .ref q36, .ref q37, .ref q38, .int 0, .int 0, .ref q39, .ref q40, .ref q41, .ref q42]))] H locs := w
  refine lv_iload_n hx hb dX12_isMost_9 rfl (lv_at hl 2 rfl) ?_
  refine fin_i C w (run_V C w mv_X12_267 (k18_may C.b0 q0 q1 q2 q3 q4 q5 q6 q7 q8 q9 q10 q11 q12 q13 q14 q15 q16 q17 q18 q19 q20 q21 q22 q23 q24 q25 q26 q27 q28 q29 q30 q31 q32 q33 q34 q35 q36 q37 q38 q39 q40 q41 q42 H.size) [0] rfl rfl 0 rfl rfl (by decide) rfl hl.1 rfl (Nat.le_of_ble_eq_true rfl) dX12_isMost_10 (cells2 := 0) (slots2 := 0) (by decide)) [0] [] rfl rfl (by decide) (cells2 := 0) (slots2 := 0) (by decide) (fun u2 H locs w => ?_)
  have w : Wd s G A [(q0, .inr (12, [.int 1, .int 0, .int 0, .int 0, .int 0, .int 0, .int 0, .int (-1), .ref q1, .ref q2, .ref q3, .int 0, .ref q4, .ref q5, .ref q6, .ref q7, .ref q8, .ref q9, .ref q10, .int 0, .ref q11, .ref q12, .ref q13, .ref q14, .ref q15, .ref q16, .ref q17, .int 0, .int (-1), .int 0, .ref q18, .ref q19, .ref q20, .ref q21, .ref q22, .ref q23, .ref q24, .ref q25, .int 0, .ref q26, .ref q27, .ref q28, .ref q29, .ref q30, .int 0, .ref q31, .ref q32, .ref q33, .ref q34, .int 0, .ref q35, .ref q36, .ref q37, .ref q38, .int 0, .int 0, .ref q39, .ref q40, .ref q41, .ref q42]))] H locs := w
  exact e_i C hr w (fun _ => 0) [0] rfl rfl (by decide) dX12_isMost_13 (by decide) (by decide)
set_option maxRecDepth 100000 in
set_option maxHeartbeats 4000000 in
theorem k104_states {l : Launch} {s0 : State} {a0 : Array Value} {G : GT} (b0 : B0 l s0 a0 G) (q0 q1 q2 q3 q4 q5 q6 q7 q8 q9 q10 q11 q12 q13 q14 q15 q16 q17 q18 q19 q20 q21 q22 q23 q24 q25 q26 q27 q28 q29 q30 q31 q32 q33 q34 q35 q36 q37 q38 q39 q40 q41 q42 : Nat) (x0 : Int32) (h0 : 3000 < x0) (h1 : ¬ x0 < 1) (sz : Nat) : Ki l s0 G yX12_states cX12_states 2 (some .int) { frames := 2, cells := 0, slots := 0, locals := 44 } [.ref q0, .int x0] [(q0, .inr (12, [.int 0, .int 0, .int 0, .int 0, .int 0, .int 0, .int 0, .int (-1), .ref q1, .ref q2, .ref q3, .int 0, .ref q4, .ref q5, .ref q6, .ref q7, .ref q8, .ref q9, .ref q10, .int 0, .ref q11, .ref q12, .ref q13, .ref q14, .ref q15, .ref q16, .ref q17, .int 0, .int (-1), .int 0, .ref q18, .ref q19, .ref q20, .ref q21, .ref q22, .ref q23, .ref q24, .ref q25, .int 0, .ref q26, .ref q27, .ref q28, .ref q29, .ref q30, .int 0, .ref q31, .ref q32, .ref q33, .ref q34, .int 0, .ref q35, .ref q36, .ref q37, .ref q38, .int 0, .int 0, .ref q39, .ref q40, .ref q41, .ref q42]))] sz 0 (fun u => [(q0, .inr (12, [.int 1, .int 0, .int 0, .int 0, .int 0, .int 0, .int 0, .int (-1), .ref q1, .ref q2, .ref q3, .int 0, .ref q4, .ref q5, .ref q6, .ref q7, .ref q8, .ref q9, .ref q10, .int 0, .ref q11, .ref q12, .ref q13, .ref q14, .ref q15, .ref q16, .ref q17, .int 0, .int (-1), .int 0, .ref q18, .ref q19, .ref q20, .ref q21, .ref q22, .ref q23, .ref q24, .ref q25, .int 0, .ref q26, .ref q27, .ref q28, .ref q29, .ref q30, .int 0, .ref q31, .ref q32, .ref q33, .ref q34, .int 0, .ref q35, .ref q36, .ref q37, .ref q38, .int 0, .int 0, .ref q39, .ref q40, .ref q41, .ref q42]))]) := by
  refine Ki.of b0 (own := RX12) (nm := "states") [(0, .ref q0), (1, .int x0)] rfl rfl (by decide +kernel) (Nat.le_of_ble_eq_true rfl) rfl ?_
  intro p e s m below meth c A C hr H locs w ls hl
  have hx := C.hx
  have hb := C.hb
  refine lv_aload_n hx hb dX12_states_0 rfl (lv_at hl 0 rfl) ?_
  refine lv_iconst (v := 0) hx hb dX12_states_1 (by decide) ?_
  refine r_put C w 0 rfl fl_X12_1 (Nat.le_of_ble_eq_true rfl) rfl rfl dX12_states_2 (ws2 := [(q0, .inr (12, [.int 0, .int 0, .int 0, .int 0, .int 0, .int 0, .int 0, .int (-1), .ref q1, .ref q2, .ref q3, .int 0, .ref q4, .ref q5, .ref q6, .ref q7, .ref q8, .ref q9, .ref q10, .int 0, .ref q11, .ref q12, .ref q13, .ref q14, .ref q15, .ref q16, .ref q17, .int 0, .int (-1), .int 0, .ref q18, .ref q19, .ref q20, .ref q21, .ref q22, .ref q23, .ref q24, .ref q25, .int 0, .ref q26, .ref q27, .ref q28, .ref q29, .ref q30, .int 0, .ref q31, .ref q32, .ref q33, .ref q34, .int 0, .ref q35, .ref q36, .ref q37, .ref q38, .int 0, .int 0, .ref q39, .ref q40, .ref q41, .ref q42]))]) rfl (fun H locs w => ?_)
  refine lv_aload_n hx hb dX12_states_5 rfl (lv_at hl 0 rfl) ?_
  refine lv_iload_n hx hb dX12_states_6 rfl (lv_at hl 1 rfl) ?_
  refine lv_iconst (v := 1) hx hb dX12_states_7 (by decide) ?_
  refine fin_i C w (run_V C w mv_X12_336 (k103_isMost C.b0 q0 q1 q2 q3 q4 q5 q6 q7 q8 q9 q10 q11 q12 q13 q14 q15 q16 q17 q18 q19 q20 q21 q22 q23 q24 q25 q26 q27 q28 q29 q30 q31 q32 q33 q34 q35 q36 q37 q38 q39 q40 q41 q42 x0 h0 h1 H.size) [0] rfl rfl 0 rfl rfl (by decide) rfl hl.1 rfl (Nat.le_of_ble_eq_true rfl) dX12_states_8 (cells2 := 0) (slots2 := 0) (by decide)) [0] [] rfl rfl (by decide) (cells2 := 0) (slots2 := 0) (by decide) (fun u1 H locs w => ?_)
  have w : Wd s G A [(q0, .inr (12, [.int 1, .int 0, .int 0, .int 0, .int 0, .int 0, .int 0, .int (-1), .ref q1, .ref q2, .ref q3, .int 0, .ref q4, .ref q5, .ref q6, .ref q7, .ref q8, .ref q9, .ref q10, .int 0, .ref q11, .ref q12, .ref q13, .ref q14, .ref q15, .ref q16, .ref q17, .int 0, .int (-1), .int 0, .ref q18, .ref q19, .ref q20, .ref q21, .ref q22, .ref q23, .ref q24, .ref q25, .int 0, .ref q26, .ref q27, .ref q28, .ref q29, .ref q30, .int 0, .ref q31, .ref q32, .ref q33, .ref q34, .int 0, .ref q35, .ref q36, .ref q37, .ref q38, .int 0, .int 0, .ref q39, .ref q40, .ref q41, .ref q42]))] H locs := w
  refine lv_if_ne (tgt := 16) hx hb dX12_states_11 (by decide) (fun h => absurd (by decide) h) (fun _ => ?_)
  refine lv_iconst (v := 0) hx hb dX12_states_14 (by decide) ?_
  exact e_i C hr w (fun _ => 0) [0] rfl rfl rfl dX12_states_15 (by decide) (by decide)
set_option maxRecDepth 100000 in
set_option maxHeartbeats 4000000 in
theorem k105_needWithin {l : Launch} {s0 : State} {a0 : Array Value} {G : GT} (b0 : B0 l s0 a0 G) (x0 : Int32) (h0 : ¬ 3000 < x0) (h1 : ¬ x0 < 1) (sz : Nat) : Kv l s0 G yX11_needWithin cX11_needWithin 3 none { frames := 0, cells := 0, slots := 0, locals := 0 } [.int x0, .int 1, .int 3000] [] sz (fun u => []) := by
  refine Kv.of b0 (own := RX11) (nm := "needWithin") [(0, .int x0), (1, .int 1), (2, .int 3000)] rfl rfl (by decide +kernel) (Nat.le_of_ble_eq_true rfl) rfl ?_
  intro p e s m below meth c A C hr H locs w ls hl
  have hx := C.hx
  have hb := C.hb
  refine lv_iload_n hx hb dX11_needWithin_0 rfl (lv_at hl 0 rfl) ?_
  refine lv_iload_n hx hb dX11_needWithin_1 rfl (lv_at hl 1 rfl) ?_
  refine lv_icmp_lt (tgt := 10) hx hb dX11_needWithin_2 (by decide) (fun h => absurd h h1) (fun _ => ?_)
  refine lv_iload_n hx hb dX11_needWithin_5 rfl (lv_at hl 0 rfl) ?_
  refine lv_iload_n hx hb dX11_needWithin_6 rfl (lv_at hl 2 rfl) ?_
  refine lv_icmp_le (tgt := 20) hx hb dX11_needWithin_7 (by decide) (fun _ => ?_) (fun h => absurd (Int32.not_lt.mp h0) h)
  exact e_v C hr w (fun _ => 0) [] rfl rfl dX11_needWithin_20 (by decide) (by decide)
set_option maxRecDepth 100000 in
set_option maxHeartbeats 4000000 in
theorem k106_needMost {l : Launch} {s0 : State} {a0 : Array Value} {G : GT} (b0 : B0 l s0 a0 G) (x0 : Int32) (h0 : ¬ 3000 < x0) (h1 : ¬ x0 < 1) (sz : Nat) : Kv l s0 G yX11_needMost cX11_needMost 1 none { frames := 1, cells := 0, slots := 0, locals := 22 } [.int x0] [] sz (fun u => []) := by
  refine Kv.of b0 (own := RX11) (nm := "needMost") [(0, .int x0)] rfl rfl (by decide +kernel) (Nat.le_of_ble_eq_true rfl) rfl ?_
  intro p e s m below meth c A C hr H locs w ls hl
  have hx := C.hx
  have hb := C.hb
  refine lv_iload_n hx hb dX11_needMost_0 rfl (lv_at hl 0 rfl) ?_
  refine lv_iconst (v := 1) hx hb dX11_needMost_1 (by decide) ?_
  refine lv_sipush (v := 3000) hx hb dX11_needMost_2 (by decide) ?_
  refine fin_v C w (run_S C w ms_X11_72 (k105_needWithin C.b0 x0 h0 h1 H.size) [] rfl rfl (by decide) rfl hl.1 rfl (Nat.le_of_ble_eq_true rfl) dX11_needMost_5 (cells2 := 0) (slots2 := 0) (by decide)) [] [] rfl rfl (by decide) (cells2 := 0) (slots2 := 0) (by decide) (fun u1 H locs w => ?_)
  have w : Wd s G A [] H locs := w
  exact e_v C hr w (fun _ => 0) [] rfl rfl dX11_needMost_8 (by decide) (by decide)
set_option maxRecDepth 100000 in
set_option maxHeartbeats 4000000 in
theorem k107_init {l : Launch} {s0 : State} {a0 : Array Value} {G : GT} (b0 : B0 l s0 a0 G) (q0 : Nat) (sz : Nat) : Kv l s0 G yX7_init cX7_init 4 none { frames := 1, cells := 2, slots := 32256, locals := 12 } [.ref q0, .int 8, .int 3008, .int 8192] [(q0, .inr (7, [.null, .int 0, .int 0, .int 0, .null]))] sz (fun u => [(q0, .inr (7, [.ref (u 0), .int 0, .int 0, .int 3008, .ref (u 1)])), ((u 0), .inl (G.2.1, 24064, .inl (fun _ => 0))), ((u 1), .inl (G.2.1, 8192, .inl (fun _ => 0)))]) := by
  refine Kv.of b0 (own := RX7) (nm := "<init>") [(0, .ref q0), (1, .int 8), (2, .int 3008), (3, .int 8192)] rfl rfl (by decide +kernel) (Nat.le_of_ble_eq_true rfl) rfl ?_
  intro p e s m below meth c A C hr H locs w ls hl
  have hx := C.hx
  have hb := C.hb
  refine lv_aload_n hx hb dX7_init_0 rfl (lv_at hl 0 rfl) ?_
  refine r_obj C to_X7_3 hl.1 (by decide) (Nat.le_of_ble_eq_true rfl) dX7_init_1 ?_
  refine lv_aload_n hx hb dX7_init_4 rfl (lv_at hl 0 rfl) ?_
  refine lv_iload_n hx hb dX7_init_5 rfl (lv_at hl 1 rfl) ?_
  refine lv_iload_n hx hb dX7_init_6 rfl (lv_at hl 2 rfl) ?_
  refine lv_imul hx hb dX7_init_7 ?_
  refine z_i (v := 24064) (by decide +kernel) ?_
  refine r_newI C w (N := 24064) (cells2 := 1) (slots2 := 24064) (by decide +kernel) ⟨by decide, by decide, by decide, by decide⟩ dX7_init_8 (fun q1 H w => ?_)
  have w : Wd s G A [(q0, .inr (7, [.null, .int 0, .int 0, .int 0, .null])), (q1, .inl (G.2.1, 24064, .inl (fun _ => 0)))] H locs := w
  refine r_putF C w 0 rfl fl_X7_9 (Nat.le_of_ble_eq_true rfl) rfl rfl dX7_init_10 (ws2 := [(q0, .inr (7, [.ref q1, .int 0, .int 0, .int 0, .null])), (q1, .inl (G.2.1, 24064, .inl (fun _ => 0)))]) rfl (fun H locs w => ?_)
  refine lv_aload_n hx hb dX7_init_13 rfl (lv_at hl 0 rfl) ?_
  refine lv_iload_n hx hb dX7_init_14 rfl (lv_at hl 2 rfl) ?_
  refine r_putF C w 0 rfl fl_X7_15 (Nat.le_of_ble_eq_true rfl) rfl rfl dX7_init_15 (ws2 := [(q0, .inr (7, [.ref q1, .int 0, .int 0, .int 3008, .null])), (q1, .inl (G.2.1, 24064, .inl (fun _ => 0)))]) rfl (fun H locs w => ?_)
  refine lv_aload_n hx hb dX7_init_18 rfl (lv_at hl 0 rfl) ?_
  refine lv_iload_n hx hb dX7_init_19 rfl (lv_at hl 3 rfl) ?_
  refine r_newI C w (N := 8192) (cells2 := 2) (slots2 := 32256) (by decide +kernel) ⟨by decide, by decide, by decide, by decide⟩ dX7_init_20 (fun q2 H w => ?_)
  have w : Wd s G A [(q0, .inr (7, [.ref q1, .int 0, .int 0, .int 3008, .null])), (q1, .inl (G.2.1, 24064, .inl (fun _ => 0))), (q2, .inl (G.2.1, 8192, .inl (fun _ => 0)))] H locs := w
  refine r_putF C w 0 rfl fl_X7_19 (Nat.le_of_ble_eq_true rfl) rfl rfl dX7_init_22 (ws2 := [(q0, .inr (7, [.ref q1, .int 0, .int 0, .int 3008, .ref q2])), (q1, .inl (G.2.1, 24064, .inl (fun _ => 0))), (q2, .inl (G.2.1, 8192, .inl (fun _ => 0)))]) rfl (fun H locs w => ?_)
  exact e_v C hr w (fun k => [q1, q2].getD k 0) [0, 1, 2] rfl rfl dX7_init_25 (by decide) (by decide)
set_option maxRecDepth 100000 in
set_option maxHeartbeats 4000000 in
theorem k108_init {l : Launch} {s0 : State} {a0 : Array Value} {G : GT} (b0 : B0 l s0 a0 G) (q0 : Nat) (sz : Nat) : Kv l s0 G yX1_init cX1_init 1 none { frames := 2, cells := 8, slots := 65357, locals := 35 } [.ref q0] [(q0, .inr (1, [.int 0, .null, .null, .null, .null, .null, .null, .null, .int 0]))] sz (fun u => [(q0, .inr (1, [.int (-1), .null, .ref (u 0), .ref (u 1), .ref (u 4), .ref (u 5), .ref (u 6), .ref (u 7), .int 0])), ((u 0), .inl (G.2.1, 24064, .inl (fun _ => 0))), ((u 1), .inr (7, [.ref (u 2), .int 0, .int 0, .int 3008, .ref (u 3)])), ((u 2), .inl (G.2.1, 24064, .inl (fun _ => 0))), ((u 3), .inl (G.2.1, 8192, .inl (fun _ => 0))), ((u 4), .inl (G.2.1, 3008, .inl (fun _ => 0))), ((u 5), .inl (G.2.1, 3008, .inl (fun _ => 0))), ((u 6), .inl (G.2.1, 3008, .inl (fun _ => 0))), ((u 7), .inl (G.2.1, 8, .inl (fun _ => 0)))]) := by
  refine Kv.of b0 (own := RX1) (nm := "<init>") [(0, .ref q0)] rfl rfl (by decide +kernel) (Nat.le_of_ble_eq_true rfl) rfl ?_
  intro p e s m below meth c A C hr H locs w ls hl
  have hx := C.hx
  have hb := C.hb
  refine lv_aload_n hx hb dX1_init_0 rfl (lv_at hl 0 rfl) ?_
  refine r_obj C to_X1_3 hl.1 (by decide) (Nat.le_of_ble_eq_true rfl) dX1_init_1 ?_
  refine lv_aload_n hx hb dX1_init_4 rfl (lv_at hl 0 rfl) ?_
  refine lv_iconst (v := (-1)) hx hb dX1_init_5 (by decide) ?_
  refine r_put C w 0 rfl fl_X1_9 (Nat.le_of_ble_eq_true rfl) rfl rfl dX1_init_6 (ws2 := [(q0, .inr (1, [.int (-1), .null, .null, .null, .null, .null, .null, .null, .int 0]))]) rfl (fun H locs w => ?_)
  refine lv_aload_n hx hb dX1_init_9 rfl (lv_at hl 0 rfl) ?_
  refine lv_sipush (v := 24064) hx hb dX1_init_10 (by decide) ?_
  refine r_newI C w (N := 24064) (cells2 := 1) (slots2 := 24064) (by decide +kernel) ⟨by decide, by decide, by decide, by decide⟩ dX1_init_13 (fun q1 H w => ?_)
  have w : Wd s G A [(q0, .inr (1, [.int (-1), .null, .null, .null, .null, .null, .null, .null, .int 0])), (q1, .inl (G.2.1, 24064, .inl (fun _ => 0)))] H locs := w
  refine r_putF C w 0 rfl fl_X1_15 (Nat.le_of_ble_eq_true rfl) rfl rfl dX1_init_15 (ws2 := [(q0, .inr (1, [.int (-1), .null, .ref q1, .null, .null, .null, .null, .null, .int 0])), (q1, .inl (G.2.1, 24064, .inl (fun _ => 0)))]) rfl (fun H locs w => ?_)
  refine lv_aload_n hx hb dX1_init_18 rfl (lv_at hl 0 rfl) ?_
  refine r_new C w (cells2 := 2) (slots2 := 24069) no_X1_19 ⟨by decide, by decide, by decide, by decide⟩ dX1_init_19 (fun q2 H w => ?_)
  have w : Wd s G A [(q0, .inr (1, [.int (-1), .null, .ref q1, .null, .null, .null, .null, .null, .int 0])), (q1, .inl (G.2.1, 24064, .inl (fun _ => 0))), (q2, .inr (7, [.null, .int 0, .int 0, .int 0, .null]))] H locs := w
  refine lv_dup hx hb dX1_init_22 rfl ?_
  refine lv_bipush (v := 8) hx hb dX1_init_23 (by decide) ?_
  refine lv_sipush (v := 3008) hx hb dX1_init_25 (by decide) ?_
  refine lv_sipush (v := 8192) hx hb dX1_init_28 (by decide) ?_
  refine fin_v C w (run_I C w mi_X1_21 (k107_init C.b0 q2 H.size) [2] rfl rfl (by decide) rfl hl.1 rfl (Nat.le_of_ble_eq_true rfl) dX1_init_31 (cells2 := 4) (slots2 := 56325) (by decide)) [2] [0, 1] rfl rfl (by decide) (cells2 := 4) (slots2 := 56325) (by decide) (fun u3 H locs w => ?_)
  have w : Wd s G A [(q0, .inr (1, [.int (-1), .null, .ref q1, .null, .null, .null, .null, .null, .int 0])), (q1, .inl (G.2.1, 24064, .inl (fun _ => 0))), (q2, .inr (7, [.ref (u3 0), .int 0, .int 0, .int 3008, .ref (u3 1)])), ((u3 0), .inl (G.2.1, 24064, .inl (fun _ => 0))), ((u3 1), .inl (G.2.1, 8192, .inl (fun _ => 0)))] H locs := w
  refine r_putF C w 0 rfl fl_X1_24 (Nat.le_of_ble_eq_true rfl) rfl rfl dX1_init_34 (ws2 := [(q0, .inr (1, [.int (-1), .null, .ref q1, .ref q2, .null, .null, .null, .null, .int 0])), (q1, .inl (G.2.1, 24064, .inl (fun _ => 0))), (q2, .inr (7, [.ref (u3 0), .int 0, .int 0, .int 3008, .ref (u3 1)])), ((u3 0), .inl (G.2.1, 24064, .inl (fun _ => 0))), ((u3 1), .inl (G.2.1, 8192, .inl (fun _ => 0)))]) rfl (fun H locs w => ?_)
  refine lv_aload_n hx hb dX1_init_37 rfl (lv_at hl 0 rfl) ?_
  refine lv_sipush (v := 3008) hx hb dX1_init_38 (by decide) ?_
  refine r_newI C w (N := 3008) (cells2 := 5) (slots2 := 59333) (by decide +kernel) ⟨by decide, by decide, by decide, by decide⟩ dX1_init_41 (fun q4 H w => ?_)
  have w : Wd s G A [(q0, .inr (1, [.int (-1), .null, .ref q1, .ref q2, .null, .null, .null, .null, .int 0])), (q1, .inl (G.2.1, 24064, .inl (fun _ => 0))), (q2, .inr (7, [.ref (u3 0), .int 0, .int 0, .int 3008, .ref (u3 1)])), ((u3 0), .inl (G.2.1, 24064, .inl (fun _ => 0))), ((u3 1), .inl (G.2.1, 8192, .inl (fun _ => 0))), (q4, .inl (G.2.1, 3008, .inl (fun _ => 0)))] H locs := w
  refine r_putF C w 0 rfl fl_X1_28 (Nat.le_of_ble_eq_true rfl) rfl rfl dX1_init_43 (ws2 := [(q0, .inr (1, [.int (-1), .null, .ref q1, .ref q2, .ref q4, .null, .null, .null, .int 0])), (q1, .inl (G.2.1, 24064, .inl (fun _ => 0))), (q2, .inr (7, [.ref (u3 0), .int 0, .int 0, .int 3008, .ref (u3 1)])), ((u3 0), .inl (G.2.1, 24064, .inl (fun _ => 0))), ((u3 1), .inl (G.2.1, 8192, .inl (fun _ => 0))), (q4, .inl (G.2.1, 3008, .inl (fun _ => 0)))]) rfl (fun H locs w => ?_)
  refine lv_aload_n hx hb dX1_init_46 rfl (lv_at hl 0 rfl) ?_
  refine lv_sipush (v := 3008) hx hb dX1_init_47 (by decide) ?_
  refine r_newI C w (N := 3008) (cells2 := 6) (slots2 := 62341) (by decide +kernel) ⟨by decide, by decide, by decide, by decide⟩ dX1_init_50 (fun q5 H w => ?_)
  have w : Wd s G A [(q0, .inr (1, [.int (-1), .null, .ref q1, .ref q2, .ref q4, .null, .null, .null, .int 0])), (q1, .inl (G.2.1, 24064, .inl (fun _ => 0))), (q2, .inr (7, [.ref (u3 0), .int 0, .int 0, .int 3008, .ref (u3 1)])), ((u3 0), .inl (G.2.1, 24064, .inl (fun _ => 0))), ((u3 1), .inl (G.2.1, 8192, .inl (fun _ => 0))), (q4, .inl (G.2.1, 3008, .inl (fun _ => 0))), (q5, .inl (G.2.1, 3008, .inl (fun _ => 0)))] H locs := w
  refine r_putF C w 0 rfl fl_X1_31 (Nat.le_of_ble_eq_true rfl) rfl rfl dX1_init_52 (ws2 := [(q0, .inr (1, [.int (-1), .null, .ref q1, .ref q2, .ref q4, .ref q5, .null, .null, .int 0])), (q1, .inl (G.2.1, 24064, .inl (fun _ => 0))), (q2, .inr (7, [.ref (u3 0), .int 0, .int 0, .int 3008, .ref (u3 1)])), ((u3 0), .inl (G.2.1, 24064, .inl (fun _ => 0))), ((u3 1), .inl (G.2.1, 8192, .inl (fun _ => 0))), (q4, .inl (G.2.1, 3008, .inl (fun _ => 0))), (q5, .inl (G.2.1, 3008, .inl (fun _ => 0)))]) rfl (fun H locs w => ?_)
  refine lv_aload_n hx hb dX1_init_55 rfl (lv_at hl 0 rfl) ?_
  refine lv_sipush (v := 3008) hx hb dX1_init_56 (by decide) ?_
  refine r_newI C w (N := 3008) (cells2 := 7) (slots2 := 65349) (by decide +kernel) ⟨by decide, by decide, by decide, by decide⟩ dX1_init_59 (fun q6 H w => ?_)
  have w : Wd s G A [(q0, .inr (1, [.int (-1), .null, .ref q1, .ref q2, .ref q4, .ref q5, .null, .null, .int 0])), (q1, .inl (G.2.1, 24064, .inl (fun _ => 0))), (q2, .inr (7, [.ref (u3 0), .int 0, .int 0, .int 3008, .ref (u3 1)])), ((u3 0), .inl (G.2.1, 24064, .inl (fun _ => 0))), ((u3 1), .inl (G.2.1, 8192, .inl (fun _ => 0))), (q4, .inl (G.2.1, 3008, .inl (fun _ => 0))), (q5, .inl (G.2.1, 3008, .inl (fun _ => 0))), (q6, .inl (G.2.1, 3008, .inl (fun _ => 0)))] H locs := w
  refine r_putF C w 0 rfl fl_X1_34 (Nat.le_of_ble_eq_true rfl) rfl rfl dX1_init_61 (ws2 := [(q0, .inr (1, [.int (-1), .null, .ref q1, .ref q2, .ref q4, .ref q5, .ref q6, .null, .int 0])), (q1, .inl (G.2.1, 24064, .inl (fun _ => 0))), (q2, .inr (7, [.ref (u3 0), .int 0, .int 0, .int 3008, .ref (u3 1)])), ((u3 0), .inl (G.2.1, 24064, .inl (fun _ => 0))), ((u3 1), .inl (G.2.1, 8192, .inl (fun _ => 0))), (q4, .inl (G.2.1, 3008, .inl (fun _ => 0))), (q5, .inl (G.2.1, 3008, .inl (fun _ => 0))), (q6, .inl (G.2.1, 3008, .inl (fun _ => 0)))]) rfl (fun H locs w => ?_)
  refine lv_aload_n hx hb dX1_init_64 rfl (lv_at hl 0 rfl) ?_
  refine lv_bipush (v := 8) hx hb dX1_init_65 (by decide) ?_
  refine r_newI C w (N := 8) (cells2 := 8) (slots2 := 65357) (by decide +kernel) ⟨by decide, by decide, by decide, by decide⟩ dX1_init_67 (fun q7 H w => ?_)
  have w : Wd s G A [(q0, .inr (1, [.int (-1), .null, .ref q1, .ref q2, .ref q4, .ref q5, .ref q6, .null, .int 0])), (q1, .inl (G.2.1, 24064, .inl (fun _ => 0))), (q2, .inr (7, [.ref (u3 0), .int 0, .int 0, .int 3008, .ref (u3 1)])), ((u3 0), .inl (G.2.1, 24064, .inl (fun _ => 0))), ((u3 1), .inl (G.2.1, 8192, .inl (fun _ => 0))), (q4, .inl (G.2.1, 3008, .inl (fun _ => 0))), (q5, .inl (G.2.1, 3008, .inl (fun _ => 0))), (q6, .inl (G.2.1, 3008, .inl (fun _ => 0))), (q7, .inl (G.2.1, 8, .inl (fun _ => 0)))] H locs := w
  refine r_putF C w 0 rfl fl_X1_37 (Nat.le_of_ble_eq_true rfl) rfl rfl dX1_init_69 (ws2 := [(q0, .inr (1, [.int (-1), .null, .ref q1, .ref q2, .ref q4, .ref q5, .ref q6, .ref q7, .int 0])), (q1, .inl (G.2.1, 24064, .inl (fun _ => 0))), (q2, .inr (7, [.ref (u3 0), .int 0, .int 0, .int 3008, .ref (u3 1)])), ((u3 0), .inl (G.2.1, 24064, .inl (fun _ => 0))), ((u3 1), .inl (G.2.1, 8192, .inl (fun _ => 0))), (q4, .inl (G.2.1, 3008, .inl (fun _ => 0))), (q5, .inl (G.2.1, 3008, .inl (fun _ => 0))), (q6, .inl (G.2.1, 3008, .inl (fun _ => 0))), (q7, .inl (G.2.1, 8, .inl (fun _ => 0)))]) rfl (fun H locs w => ?_)
  exact e_v C hr w (fun k => [q1, q2, (u3 0), (u3 1), q4, q5, q6, q7].getD k 0) [0, 1, 2, 3, 4, 5, 6, 7, 8] rfl rfl dX1_init_72 (by decide) (by decide)
set_option maxRecDepth 100000 in
set_option maxHeartbeats 4000000 in
theorem k109_wipe {l : Launch} {s0 : State} {a0 : Array Value} {G : GT} (b0 : B0 l s0 a0 G) (q0 q1 q2 : Nat) (sz : Nat) : Kv l s0 G yX7_wipe cX7_wipe 2 none { frames := 1, cells := 0, slots := 0, locals := 23 } [.ref q0, .int 0] [(q0, .inr (7, [.ref q2, .int 0, .int 0, .int 3008, .ref q1])), (q1, .inl (G.2.1, 8192, .inl (fun _ => 0)))] sz (fun u => [(q0, .inr (7, [.ref q2, .int 0, .int 0, .int 3008, .ref q1])), (q1, .inl (G.2.1, 8192, .inl (fun _ => (-1))))]) := by
  refine Kv.of b0 (own := RX7) (nm := "wipe") [(0, .ref q0), (1, .int 0)] rfl rfl (by decide +kernel) (Nat.le_of_ble_eq_true rfl) rfl ?_
  intro p e s m below meth c A C hr H locs w ls hl
  have hx := C.hx
  have hb := C.hb
  refine lv_aload_n hx hb dX7_wipe_0 rfl (lv_at hl 0 rfl) ?_
  refine lv_iload_n hx hb dX7_wipe_1 rfl (lv_at hl 1 rfl) ?_
  refine r_put C w 0 rfl fl_X7_22 (Nat.le_of_ble_eq_true rfl) rfl rfl dX7_wipe_2 (ws2 := [(q0, .inr (7, [.ref q2, .int 0, .int 0, .int 3008, .ref q1])), (q1, .inl (G.2.1, 8192, .inl (fun _ => 0)))]) rfl (fun H locs w => ?_)
  refine lv_aload_n hx hb dX7_wipe_5 rfl (lv_at hl 0 rfl) ?_
  refine lv_iconst (v := 0) hx hb dX7_wipe_6 (by decide) ?_
  refine r_put C w 0 rfl fl_X7_25 (Nat.le_of_ble_eq_true rfl) rfl rfl dX7_wipe_7 (ws2 := [(q0, .inr (7, [.ref q2, .int 0, .int 0, .int 3008, .ref q1])), (q1, .inl (G.2.1, 8192, .inl (fun _ => 0)))]) rfl (fun H locs w => ?_)
  refine lv_aload_n hx hb dX7_wipe_10 rfl (lv_at hl 0 rfl) ?_
  refine r_get C w 0 rfl fr_X7_19 rfl dX7_wipe_11 ?_
  refine lv_iconst (v := (-1)) hx hb dX7_wipe_14 (by decide) ?_
  refine fin_v C w (run_S C w ms_X7_28 (k_fillI C.b0 q1 8192 (by decide) (fun _ => 0) (-1) H.size) [1] rfl rfl (by decide) rfl hl.1 rfl (Nat.le_of_ble_eq_true rfl) dX7_wipe_15 (cells2 := 0) (slots2 := 0) (by decide)) [1] [0] rfl rfl (by decide) (cells2 := 0) (slots2 := 0) (by decide) (fun u1 H locs w => ?_)
  have w : Wd s G A [(q0, .inr (7, [.ref q2, .int 0, .int 0, .int 3008, .ref q1])), (q1, .inl (G.2.1, 8192, .inl (fun _ => (-1))))] H locs := w
  exact e_v C hr w (fun _ => 0) [0, 1] rfl rfl dX7_wipe_18 (by decide) (by decide)
set_option maxRecDepth 100000 in
set_option maxHeartbeats 4000000 in
theorem k110_spread {l : Launch} {s0 : State} {a0 : Array Value} {G : GT} (b0 : B0 l s0 a0 G) (q0 q1 q2 q3 : Nat) (sz : Nat) : Ki l s0 G yX7_spread cX7_spread 4 (some .int) { frames := 0, cells := 0, slots := 0, locals := 0 } [.ref q0, .ref q1] [(q0, .inr (7, [.ref q2, .int 0, .int 0, .int 3008, .ref q3]))] sz 7 (fun u => [(q0, .inr (7, [.ref q2, .int 0, .int 0, .int 3008, .ref q3]))]) := by
  refine Ki.of b0 (own := RX7) (nm := "spread") [(0, .ref q0), (1, .ref q1)] rfl rfl (by decide +kernel) (Nat.le_of_ble_eq_true rfl) rfl ?_
  intro p e s m below meth c A C hr H locs w ls hl
  have hx := C.hx
  have hb := C.hb
  refine lv_bipush (v := 7) hx hb dX7_spread_0 (by decide) ?_
  refine lv_istore_n (lv' := [(2, .int 7), (0, .ref q0), (1, .ref q1)]) hx hb dX7_spread_2 rfl hl (by decide) rfl (fun ls hl => ?_)
  refine lv_iconst (v := 0) hx hb dX7_spread_3 (by decide) ?_
  refine lv_istore_n (lv' := [(3, .int 0), (2, .int 7), (0, .ref q0), (1, .ref q1)]) hx hb dX7_spread_4 rfl hl (by decide) rfl (fun ls hl => ?_)
  refine lv_iload_n hx hb dX7_spread_5 rfl (lv_at hl 0 rfl) ?_
  refine lv_aload_n hx hb dX7_spread_6 rfl (lv_at hl 2 rfl) ?_
  refine r_get C w 0 rfl fr_X7_22 rfl dX7_spread_7 ?_
  refine lv_icmp_ge (tgt := 35) hx hb dX7_spread_10 (by decide) (fun _ => ?_) (fun h => absurd (by decide) h)
  refine lv_iload_n hx hb dX7_spread_35 rfl (lv_at hl 1 rfl) ?_
  exact e_i C hr w (fun _ => 0) [0] rfl rfl rfl dX7_spread_36 (by decide) (by decide)
set_option maxRecDepth 100000 in
set_option maxHeartbeats 4000000 in
theorem k111_enter {l : Launch} {s0 : State} {a0 : Array Value} {G : GT} (b0 : B0 l s0 a0 G) (q0 q1 q2 q3 : Nat) (sz : Nat) : Ki l s0 G yX7_enter cX7_enter 5 (some .int) { frames := 1, cells := 0, slots := 0, locals := 100 } [.ref q0, .ref q2] [(q0, .inr (7, [.ref q3, .int 0, .int 0, .int 3008, .ref q1])), (q1, .inl (G.2.1, 8192, .inl (fun _ => (-1)))), (q2, .inl (G.2.1, 8, .inl (fun _ => 0))), (q3, .inl (G.2.1, 24064, .inl (fun _ => 0)))] sz 0 (fun u => [(q0, .inr (7, [.ref q3, .int 0, .int 1, .int 3008, .ref q1])), (q1, .inl (G.2.1, 8192, .inl (upd (fun _ => (-1)) 7 0))), (q2, .inl (G.2.1, 8, .inl (fun _ => 0))), (q3, .inl (G.2.1, 24064, .inl (fun _ => 0)))]) := by
  refine Ki.of b0 (own := RX7) (nm := "enter") [(0, .ref q0), (1, .ref q2)] rfl rfl (by decide +kernel) (Nat.le_of_ble_eq_true rfl) rfl ?_
  intro p e s m below meth c A C hr H locs w ls hl
  have hx := C.hx
  have hb := C.hb
  refine lv_aload_n hx hb dX7_enter_0 rfl (lv_at hl 0 rfl) ?_
  refine r_get C w 0 rfl fr_X7_19 rfl dX7_enter_1 ?_
  refine r_alenI C w 1 rfl (v := 8192) (by decide +kernel) dX7_enter_4 ?_
  refine lv_iconst (v := 1) hx hb dX7_enter_5 (by decide) ?_
  refine lv_isub hx hb dX7_enter_6 ?_
  refine z_i (v := 8191) (by decide +kernel) ?_
  refine lv_istore_n (lv' := [(2, .int 8191), (0, .ref q0), (1, .ref q2)]) hx hb dX7_enter_7 rfl hl (by decide) rfl (fun ls hl => ?_)
  refine lv_aload_n hx hb dX7_enter_8 rfl (lv_at hl 1 rfl) ?_
  refine lv_aload_n hx hb dX7_enter_9 rfl (lv_at hl 2 rfl) ?_
  refine fin_i C w (run_V C w mv_X7_34 (k110_spread C.b0 q0 q2 q3 q1 H.size) [0] rfl rfl 0 rfl rfl (by decide) rfl hl.1 rfl (Nat.le_of_ble_eq_true rfl) dX7_enter_10 (cells2 := 0) (slots2 := 0) (by decide)) [0] [1, 2, 3] rfl rfl (by decide) (cells2 := 0) (slots2 := 0) (by decide) (fun u1 H locs w => ?_)
  have w : Wd s G A [(q1, .inl (G.2.1, 8192, .inl (fun _ => (-1)))), (q2, .inl (G.2.1, 8, .inl (fun _ => 0))), (q3, .inl (G.2.1, 24064, .inl (fun _ => 0))), (q0, .inr (7, [.ref q3, .int 0, .int 0, .int 3008, .ref q1]))] H locs := w
  refine lv_iload_n hx hb dX7_enter_13 rfl (lv_at hl 0 rfl) ?_
  refine lv_iand hx hb dX7_enter_14 ?_
  refine z_i (v := 7) (by decide +kernel) ?_
  refine lv_istore_n (lv' := [(3, .int 7), (2, .int 8191), (0, .ref q0), (1, .ref q2)]) hx hb dX7_enter_15 rfl hl (by decide) rfl (fun ls hl => ?_)
  refine lv_iconst (v := 0) hx hb dX7_enter_16 (by decide) ?_
  refine lv_istore (lv' := [(4, .int 0), (3, .int 7), (2, .int 8191), (0, .ref q0), (1, .ref q2)]) hx hb dX7_enter_17 hl (by decide) rfl (fun ls hl => ?_)
  refine lv_iload hx hb dX7_enter_19 (lv_at hl 0 rfl) ?_
  refine lv_iload_n hx hb dX7_enter_21 rfl (lv_at hl 2 rfl) ?_
  refine lv_icmp_gt (tgt := 68) hx hb dX7_enter_22 (by decide) (fun h => absurd h (by decide)) (fun _ => ?_)
  refine lv_aload_n hx hb dX7_enter_25 rfl (lv_at hl 3 rfl) ?_
  refine r_get C w 3 rfl fr_X7_19 rfl dX7_enter_26 ?_
  refine lv_iload_n hx hb dX7_enter_29 rfl (lv_at hl 1 rfl) ?_
  refine r_iald C w 0 rfl (IX.of (k := 7) (by decide +kernel)) (v := (-1)) rfl dX7_enter_30 ?_
  refine lv_iconst (v := (-1)) hx hb dX7_enter_31 (by decide) ?_
  refine lv_icmp_eq (tgt := 68) hx hb dX7_enter_32 (by decide) (fun _ => ?_) (fun h => absurd (by decide) h)
  refine lv_aload_n hx hb dX7_enter_68 rfl (lv_at hl 3 rfl) ?_
  refine r_get C w 3 rfl fr_X7_25 rfl dX7_enter_69 ?_
  refine lv_aload_n hx hb dX7_enter_72 rfl (lv_at hl 3 rfl) ?_
  refine r_get C w 3 rfl fr_X7_15 rfl dX7_enter_73 ?_
  refine lv_icmp_lt (tgt := 81) hx hb dX7_enter_76 (by decide) (fun _ => ?_) (fun h => absurd (by decide) h)
  refine lv_aload_n hx hb dX7_enter_81 rfl (lv_at hl 4 rfl) ?_
  refine lv_iconst (v := 0) hx hb dX7_enter_82 (by decide) ?_
  refine lv_aload_n hx hb dX7_enter_83 rfl (lv_at hl 3 rfl) ?_
  refine r_get C w 3 rfl fr_X7_9 rfl dX7_enter_84 ?_
  refine lv_aload_n hx hb dX7_enter_87 rfl (lv_at hl 3 rfl) ?_
  refine r_get C w 3 rfl fr_X7_25 rfl dX7_enter_88 ?_
  refine lv_aload_n hx hb dX7_enter_91 rfl (lv_at hl 3 rfl) ?_
  refine r_get C w 3 rfl fr_X7_22 rfl dX7_enter_92 ?_
  refine lv_imul hx hb dX7_enter_95 ?_
  refine z_i (v := 0) (by decide +kernel) ?_
  refine lv_aload_n hx hb dX7_enter_96 rfl (lv_at hl 3 rfl) ?_
  refine r_get C w 3 rfl fr_X7_22 rfl dX7_enter_97 ?_
  refine r_copyI C w 1 2 rfl rfl (sp' := 0) (dp' := 0) (n' := 0) (by decide +kernel) cp_X7_42 hl.1 (cpy_0 _ _ _ _) (by decide) (Nat.le_of_ble_eq_true rfl) dX7_enter_100 (ws2 := [(q1, .inl (G.2.1, 8192, .inl (fun _ => (-1)))), (q2, .inl (G.2.1, 8, .inl (fun _ => 0))), (q3, .inl (G.2.1, 24064, .inl (fun _ => 0))), (q0, .inr (7, [.ref q3, .int 0, .int 0, .int 3008, .ref q1]))]) rfl (fun H locs w => ?_)
  refine lv_aload_n hx hb dX7_enter_103 rfl (lv_at hl 3 rfl) ?_
  refine r_get C w 3 rfl fr_X7_19 rfl dX7_enter_104 ?_
  refine lv_iload_n hx hb dX7_enter_107 rfl (lv_at hl 1 rfl) ?_
  refine lv_aload_n hx hb dX7_enter_108 rfl (lv_at hl 3 rfl) ?_
  refine r_get C w 3 rfl fr_X7_25 rfl dX7_enter_109 ?_
  refine r_iast C w 0 rfl (IX.of (k := 7) (by decide +kernel)) (g := (upd (fun _ => (-1)) 7 0)) rfl dX7_enter_112 (ws2 := [(q1, .inl (G.2.1, 8192, .inl (upd (fun _ => (-1)) 7 0))), (q2, .inl (G.2.1, 8, .inl (fun _ => 0))), (q3, .inl (G.2.1, 24064, .inl (fun _ => 0))), (q0, .inr (7, [.ref q3, .int 0, .int 0, .int 3008, .ref q1]))]) rfl (fun H locs w => ?_)
  refine lv_aload_n hx hb dX7_enter_113 rfl (lv_at hl 3 rfl) ?_
  refine lv_dup hx hb dX7_enter_114 rfl ?_
  refine r_get C w 3 rfl fr_X7_25 rfl dX7_enter_115 ?_
  refine lv_iconst (v := 1) hx hb dX7_enter_118 (by decide) ?_
  refine lv_iadd hx hb dX7_enter_119 ?_
  refine z_i (v := 1) (by decide +kernel) ?_
  refine r_put C w 3 rfl fl_X7_25 (Nat.le_of_ble_eq_true rfl) rfl rfl dX7_enter_120 (ws2 := [(q1, .inl (G.2.1, 8192, .inl (upd (fun _ => (-1)) 7 0))), (q2, .inl (G.2.1, 8, .inl (fun _ => 0))), (q3, .inl (G.2.1, 24064, .inl (fun _ => 0))), (q0, .inr (7, [.ref q3, .int 0, .int 1, .int 3008, .ref q1]))]) rfl (fun H locs w => ?_)
  refine lv_aload_n hx hb dX7_enter_123 rfl (lv_at hl 3 rfl) ?_
  refine r_get C w 3 rfl fr_X7_25 rfl dX7_enter_124 ?_
  refine lv_iconst (v := 1) hx hb dX7_enter_127 (by decide) ?_
  refine lv_isub hx hb dX7_enter_128 ?_
  refine z_i (v := 0) (by decide +kernel) ?_
  exact e_i C hr w (fun _ => 0) [3, 0, 1, 2] rfl rfl rfl dX7_enter_129 (by decide) (by decide)
set_option maxRecDepth 100000 in
set_option maxHeartbeats 4000000 in
theorem k112_begin {l : Launch} {s0 : State} {a0 : Array Value} {G : GT} (b0 : B0 l s0 a0 G) (q0 q1 q2 q3 q4 q5 q6 q7 q8 q9 q10 q11 q12 q13 q14 q15 q16 q17 q18 q19 q20 q21 q22 q23 q24 : Nat) (sz : Nat) : Kv l s0 G yX1_begin cX1_begin 4 none { frames := 2, cells := 0, slots := 0, locals := 124 } [.ref q0, .ref q1, .ref q4, .int 0] [(q0, .inr (1, [.int (-1), .null, .ref q9, .ref q2, .ref q6, .ref q7, .ref q8, .ref q10, .int 0])), (q1, .inr (2, [.int 0, .int 0, .ref q11, .ref q12, .ref q13, .ref q14, .ref q15, .ref q16, .ref q17, .ref q18, .ref q19, .ref q20, .ref q21, .ref q22, .ref q23, .ref q24, .int 0])), (q2, .inr (7, [.ref q5, .int 0, .int 0, .int 3008, .ref q3])), (q3, .inl (G.2.1, 8192, .inl (fun _ => 0))), (q4, .inl (G.2.1, 8, .inl (fun _ => 0))), (q5, .inl (G.2.1, 24064, .inl (fun _ => 0))), (q6, .inl (G.2.1, 3008, .inl (fun _ => 0))), (q7, .inl (G.2.1, 3008, .inl (fun _ => 0))), (q8, .inl (G.2.1, 3008, .inl (fun _ => 0)))] sz (fun u => [(q0, .inr (1, [.int 0, .ref q1, .ref q9, .ref q2, .ref q6, .ref q7, .ref q8, .ref q10, .int 0])), (q1, .inr (2, [.int 0, .int 0, .ref q11, .ref q12, .ref q13, .ref q14, .ref q15, .ref q16, .ref q17, .ref q18, .ref q19, .ref q20, .ref q21, .ref q22, .ref q23, .ref q24, .int 0])), (q2, .inr (7, [.ref q5, .int 0, .int 1, .int 3008, .ref q3])), (q3, .inl (G.2.1, 8192, .inl (upd (fun _ => (-1)) 7 0))), (q4, .inl (G.2.1, 8, .inl (fun _ => 0))), (q5, .inl (G.2.1, 24064, .inl (fun _ => 0))), (q6, .inl (G.2.1, 3008, .inl (fun _ => 0))), (q7, .inl (G.2.1, 3008, .inl (upd (fun _ => 0) 0 (-1)))), (q8, .inl (G.2.1, 3008, .inl (upd (fun _ => 0) 0 (-1))))]) := by
  refine Kv.of b0 (own := RX1) (nm := "begin") [(0, .ref q0), (1, .ref q1), (2, .ref q4), (3, .int 0)] rfl rfl (by decide +kernel) (Nat.le_of_ble_eq_true rfl) rfl ?_
  intro p e s m below meth c A C hr H locs w ls hl
  have hx := C.hx
  have hb := C.hb
  refine lv_aload_n hx hb dX1_begin_0 rfl (lv_at hl 0 rfl) ?_
  refine lv_aload_n hx hb dX1_begin_1 rfl (lv_at hl 1 rfl) ?_
  refine r_put C w 0 rfl fl_X1_40 (Nat.le_of_ble_eq_true rfl) rfl rfl dX1_begin_2 (ws2 := [(q0, .inr (1, [.int (-1), .ref q1, .ref q9, .ref q2, .ref q6, .ref q7, .ref q8, .ref q10, .int 0])), (q1, .inr (2, [.int 0, .int 0, .ref q11, .ref q12, .ref q13, .ref q14, .ref q15, .ref q16, .ref q17, .ref q18, .ref q19, .ref q20, .ref q21, .ref q22, .ref q23, .ref q24, .int 0])), (q2, .inr (7, [.ref q5, .int 0, .int 0, .int 3008, .ref q3])), (q3, .inl (G.2.1, 8192, .inl (fun _ => 0))), (q4, .inl (G.2.1, 8, .inl (fun _ => 0))), (q5, .inl (G.2.1, 24064, .inl (fun _ => 0))), (q6, .inl (G.2.1, 3008, .inl (fun _ => 0))), (q7, .inl (G.2.1, 3008, .inl (fun _ => 0))), (q8, .inl (G.2.1, 3008, .inl (fun _ => 0)))]) rfl (fun H locs w => ?_)
  refine lv_aload_n hx hb dX1_begin_5 rfl (lv_at hl 0 rfl) ?_
  refine lv_iload_n hx hb dX1_begin_6 rfl (lv_at hl 3 rfl) ?_
  refine r_put C w 0 rfl fl_X1_9 (Nat.le_of_ble_eq_true rfl) rfl rfl dX1_begin_7 (ws2 := [(q0, .inr (1, [.int 0, .ref q1, .ref q9, .ref q2, .ref q6, .ref q7, .ref q8, .ref q10, .int 0])), (q1, .inr (2, [.int 0, .int 0, .ref q11, .ref q12, .ref q13, .ref q14, .ref q15, .ref q16, .ref q17, .ref q18, .ref q19, .ref q20, .ref q21, .ref q22, .ref q23, .ref q24, .int 0])), (q2, .inr (7, [.ref q5, .int 0, .int 0, .int 3008, .ref q3])), (q3, .inl (G.2.1, 8192, .inl (fun _ => 0))), (q4, .inl (G.2.1, 8, .inl (fun _ => 0))), (q5, .inl (G.2.1, 24064, .inl (fun _ => 0))), (q6, .inl (G.2.1, 3008, .inl (fun _ => 0))), (q7, .inl (G.2.1, 3008, .inl (fun _ => 0))), (q8, .inl (G.2.1, 3008, .inl (fun _ => 0)))]) rfl (fun H locs w => ?_)
  refine lv_aload_n hx hb dX1_begin_10 rfl (lv_at hl 0 rfl) ?_
  refine r_get C w 0 rfl fr_X1_24 rfl dX1_begin_11 ?_
  refine lv_aload_n hx hb dX1_begin_14 rfl (lv_at hl 0 rfl) ?_
  refine r_get C w 0 rfl fr_X1_40 rfl dX1_begin_15 ?_
  refine r_get C w 1 rfl fr_X1_44 rfl dX1_begin_18 ?_
  refine fin_v C w (run_V C w mv_X1_49 (k109_wipe C.b0 q2 q3 q5 H.size) [2, 3] rfl rfl 2 rfl rfl (by decide) rfl hl.1 rfl (Nat.le_of_ble_eq_true rfl) dX1_begin_21 (cells2 := 0) (slots2 := 0) (by decide)) [2, 3] [0, 1, 4, 5, 6, 7, 8] rfl rfl (by decide) (cells2 := 0) (slots2 := 0) (by decide) (fun u1 H locs w => ?_)
  have w : Wd s G A [(q0, .inr (1, [.int 0, .ref q1, .ref q9, .ref q2, .ref q6, .ref q7, .ref q8, .ref q10, .int 0])), (q1, .inr (2, [.int 0, .int 0, .ref q11, .ref q12, .ref q13, .ref q14, .ref q15, .ref q16, .ref q17, .ref q18, .ref q19, .ref q20, .ref q21, .ref q22, .ref q23, .ref q24, .int 0])), (q4, .inl (G.2.1, 8, .inl (fun _ => 0))), (q5, .inl (G.2.1, 24064, .inl (fun _ => 0))), (q6, .inl (G.2.1, 3008, .inl (fun _ => 0))), (q7, .inl (G.2.1, 3008, .inl (fun _ => 0))), (q8, .inl (G.2.1, 3008, .inl (fun _ => 0))), (q2, .inr (7, [.ref q5, .int 0, .int 0, .int 3008, .ref q3])), (q3, .inl (G.2.1, 8192, .inl (fun _ => (-1))))] H locs := w
  refine lv_aload_n hx hb dX1_begin_24 rfl (lv_at hl 0 rfl) ?_
  refine lv_iconst (v := 0) hx hb dX1_begin_25 (by decide) ?_
  refine r_put C w 0 rfl fl_X1_53 (Nat.le_of_ble_eq_true rfl) rfl rfl dX1_begin_26 (ws2 := [(q0, .inr (1, [.int 0, .ref q1, .ref q9, .ref q2, .ref q6, .ref q7, .ref q8, .ref q10, .int 0])), (q1, .inr (2, [.int 0, .int 0, .ref q11, .ref q12, .ref q13, .ref q14, .ref q15, .ref q16, .ref q17, .ref q18, .ref q19, .ref q20, .ref q21, .ref q22, .ref q23, .ref q24, .int 0])), (q4, .inl (G.2.1, 8, .inl (fun _ => 0))), (q5, .inl (G.2.1, 24064, .inl (fun _ => 0))), (q6, .inl (G.2.1, 3008, .inl (fun _ => 0))), (q7, .inl (G.2.1, 3008, .inl (fun _ => 0))), (q8, .inl (G.2.1, 3008, .inl (fun _ => 0))), (q2, .inr (7, [.ref q5, .int 0, .int 0, .int 3008, .ref q3])), (q3, .inl (G.2.1, 8192, .inl (fun _ => (-1))))]) rfl (fun H locs w => ?_)
  refine lv_aload_n hx hb dX1_begin_29 rfl (lv_at hl 0 rfl) ?_
  refine r_get C w 0 rfl fr_X1_24 rfl dX1_begin_30 ?_
  refine lv_aload_n hx hb dX1_begin_33 rfl (lv_at hl 2 rfl) ?_
  refine fin_i C w (run_V C w mv_X1_56 (k111_enter C.b0 q2 q3 q4 q5 H.size) [7, 8, 2, 3] rfl rfl 7 rfl rfl (by decide) rfl hl.1 rfl (Nat.le_of_ble_eq_true rfl) dX1_begin_34 (cells2 := 0) (slots2 := 0) (by decide)) [7, 8, 2, 3] [0, 1, 4, 5, 6] rfl rfl (by decide) (cells2 := 0) (slots2 := 0) (by decide) (fun u2 H locs w => ?_)
  have w : Wd s G A [(q0, .inr (1, [.int 0, .ref q1, .ref q9, .ref q2, .ref q6, .ref q7, .ref q8, .ref q10, .int 0])), (q1, .inr (2, [.int 0, .int 0, .ref q11, .ref q12, .ref q13, .ref q14, .ref q15, .ref q16, .ref q17, .ref q18, .ref q19, .ref q20, .ref q21, .ref q22, .ref q23, .ref q24, .int 0])), (q6, .inl (G.2.1, 3008, .inl (fun _ => 0))), (q7, .inl (G.2.1, 3008, .inl (fun _ => 0))), (q8, .inl (G.2.1, 3008, .inl (fun _ => 0))), (q2, .inr (7, [.ref q5, .int 0, .int 1, .int 3008, .ref q3])), (q3, .inl (G.2.1, 8192, .inl (upd (fun _ => (-1)) 7 0))), (q4, .inl (G.2.1, 8, .inl (fun _ => 0))), (q5, .inl (G.2.1, 24064, .inl (fun _ => 0)))] H locs := w
  refine lv_pop hx hb dX1_begin_37 rfl ?_
  refine lv_aload_n hx hb dX1_begin_38 rfl (lv_at hl 0 rfl) ?_
  refine r_get C w 0 rfl fr_X1_28 rfl dX1_begin_39 ?_
  refine lv_iconst (v := 0) hx hb dX1_begin_42 (by decide) ?_
  refine lv_iconst (v := 0) hx hb dX1_begin_43 (by decide) ?_
  refine r_iast C w 2 rfl (IX.of (k := 0) (by decide +kernel)) (g := (fun _ => 0)) (upd_c _ _) dX1_begin_44 (ws2 := [(q0, .inr (1, [.int 0, .ref q1, .ref q9, .ref q2, .ref q6, .ref q7, .ref q8, .ref q10, .int 0])), (q1, .inr (2, [.int 0, .int 0, .ref q11, .ref q12, .ref q13, .ref q14, .ref q15, .ref q16, .ref q17, .ref q18, .ref q19, .ref q20, .ref q21, .ref q22, .ref q23, .ref q24, .int 0])), (q6, .inl (G.2.1, 3008, .inl (fun _ => 0))), (q7, .inl (G.2.1, 3008, .inl (fun _ => 0))), (q8, .inl (G.2.1, 3008, .inl (fun _ => 0))), (q2, .inr (7, [.ref q5, .int 0, .int 1, .int 3008, .ref q3])), (q3, .inl (G.2.1, 8192, .inl (upd (fun _ => (-1)) 7 0))), (q4, .inl (G.2.1, 8, .inl (fun _ => 0))), (q5, .inl (G.2.1, 24064, .inl (fun _ => 0)))]) rfl (fun H locs w => ?_)
  refine lv_aload_n hx hb dX1_begin_45 rfl (lv_at hl 0 rfl) ?_
  refine r_get C w 0 rfl fr_X1_31 rfl dX1_begin_46 ?_
  refine lv_iconst (v := 0) hx hb dX1_begin_49 (by decide) ?_
  refine lv_iconst (v := (-1)) hx hb dX1_begin_50 (by decide) ?_
  refine r_iast C w 3 rfl (IX.of (k := 0) (by decide +kernel)) (g := (upd (fun _ => 0) 0 (-1))) rfl dX1_begin_51 (ws2 := [(q0, .inr (1, [.int 0, .ref q1, .ref q9, .ref q2, .ref q6, .ref q7, .ref q8, .ref q10, .int 0])), (q1, .inr (2, [.int 0, .int 0, .ref q11, .ref q12, .ref q13, .ref q14, .ref q15, .ref q16, .ref q17, .ref q18, .ref q19, .ref q20, .ref q21, .ref q22, .ref q23, .ref q24, .int 0])), (q6, .inl (G.2.1, 3008, .inl (fun _ => 0))), (q7, .inl (G.2.1, 3008, .inl (upd (fun _ => 0) 0 (-1)))), (q8, .inl (G.2.1, 3008, .inl (fun _ => 0))), (q2, .inr (7, [.ref q5, .int 0, .int 1, .int 3008, .ref q3])), (q3, .inl (G.2.1, 8192, .inl (upd (fun _ => (-1)) 7 0))), (q4, .inl (G.2.1, 8, .inl (fun _ => 0))), (q5, .inl (G.2.1, 24064, .inl (fun _ => 0)))]) rfl (fun H locs w => ?_)
  refine lv_aload_n hx hb dX1_begin_52 rfl (lv_at hl 0 rfl) ?_
  refine r_get C w 0 rfl fr_X1_34 rfl dX1_begin_53 ?_
  refine lv_iconst (v := 0) hx hb dX1_begin_56 (by decide) ?_
  refine lv_iconst (v := (-1)) hx hb dX1_begin_57 (by decide) ?_
  refine r_iast C w 4 rfl (IX.of (k := 0) (by decide +kernel)) (g := (upd (fun _ => 0) 0 (-1))) rfl dX1_begin_58 (ws2 := [(q0, .inr (1, [.int 0, .ref q1, .ref q9, .ref q2, .ref q6, .ref q7, .ref q8, .ref q10, .int 0])), (q1, .inr (2, [.int 0, .int 0, .ref q11, .ref q12, .ref q13, .ref q14, .ref q15, .ref q16, .ref q17, .ref q18, .ref q19, .ref q20, .ref q21, .ref q22, .ref q23, .ref q24, .int 0])), (q6, .inl (G.2.1, 3008, .inl (fun _ => 0))), (q7, .inl (G.2.1, 3008, .inl (upd (fun _ => 0) 0 (-1)))), (q8, .inl (G.2.1, 3008, .inl (upd (fun _ => 0) 0 (-1)))), (q2, .inr (7, [.ref q5, .int 0, .int 1, .int 3008, .ref q3])), (q3, .inl (G.2.1, 8192, .inl (upd (fun _ => (-1)) 7 0))), (q4, .inl (G.2.1, 8, .inl (fun _ => 0))), (q5, .inl (G.2.1, 24064, .inl (fun _ => 0)))]) rfl (fun H locs w => ?_)
  exact e_v C hr w (fun _ => 0) [0, 1, 5, 6, 7, 8, 2, 3, 4] rfl rfl dX1_begin_59 (by decide) (by decide)
set_option maxRecDepth 100000 in
set_option maxHeartbeats 4000000 in
theorem k113_explore {l : Launch} {s0 : State} {a0 : Array Value} {G : GT} (b0 : B0 l s0 a0 G) (q0 q1 q2 q3 q4 q5 q6 q7 q8 q9 q10 q11 q12 q13 q14 q15 q16 q17 q18 q19 q20 q21 q22 q23 : Nat) (x0 : Int32) (h0 : ¬ x0 < 1) (sz : Nat) : Kv l s0 G yX1_explore cX1_explore 3 none { frames := 0, cells := 0, slots := 0, locals := 0 } [.ref q0, .int x0] [(q0, .inr (1, [.int 0, .ref q2, .ref q3, .ref q1, .ref q4, .ref q5, .ref q6, .ref q7, .int 0])), (q1, .inr (7, [.ref q8, .int 0, .int 1, .int 3008, .ref q9])), (q2, .inr (2, [.int 0, .int 0, .ref q10, .ref q11, .ref q12, .ref q13, .ref q14, .ref q15, .ref q16, .ref q17, .ref q18, .ref q19, .ref q20, .ref q21, .ref q22, .ref q23, .int 0]))] sz (fun u => [(q0, .inr (1, [.int 0, .ref q2, .ref q3, .ref q1, .ref q4, .ref q5, .ref q6, .ref q7, .int 1])), (q1, .inr (7, [.ref q8, .int 0, .int 1, .int 3008, .ref q9])), (q2, .inr (2, [.int 0, .int 0, .ref q10, .ref q11, .ref q12, .ref q13, .ref q14, .ref q15, .ref q16, .ref q17, .ref q18, .ref q19, .ref q20, .ref q21, .ref q22, .ref q23, .int 0]))]) := by
  refine Kv.of b0 (own := RX1) (nm := "explore") [(0, .ref q0), (1, .int x0)] rfl rfl (by decide +kernel) (Nat.le_of_ble_eq_true rfl) rfl ?_
  intro p e s m below meth c A C hr H locs w ls hl
  have hx := C.hx
  have hb := C.hb
  refine lv_aload_n hx hb dX1_explore_0 rfl (lv_at hl 0 rfl) ?_
  refine r_get C w 0 rfl fr_X1_53 rfl dX1_explore_1 ?_
  refine lv_aload_n hx hb dX1_explore_4 rfl (lv_at hl 0 rfl) ?_
  refine r_get C w 0 rfl fr_X1_24 rfl dX1_explore_5 ?_
  refine r_get C w 1 rfl fr_X1_60 rfl dX1_explore_8 ?_
  refine lv_icmp_ge (tgt := 80) hx hb dX1_explore_11 (by decide) (fun h => absurd h (by decide)) (fun _ => ?_)
  refine lv_aload_n hx hb dX1_explore_14 rfl (lv_at hl 0 rfl) ?_
  refine r_get C w 0 rfl fr_X1_24 rfl dX1_explore_15 ?_
  refine r_get C w 1 rfl fr_X1_60 rfl dX1_explore_18 ?_
  refine lv_iload_n hx hb dX1_explore_21 rfl (lv_at hl 1 rfl) ?_
  refine lv_icmp_gt (tgt := 80) hx hb dX1_explore_22 (by decide) (fun h => absurd h h0) (fun _ => ?_)
  refine lv_iconst (v := 0) hx hb dX1_explore_25 (by decide) ?_
  refine lv_istore_n (lv' := [(2, .int 0), (0, .ref q0), (1, .int x0)]) hx hb dX1_explore_26 rfl hl (by decide) rfl (fun ls hl => ?_)
  refine lv_iload_n hx hb dX1_explore_27 rfl (lv_at hl 0 rfl) ?_
  refine lv_aload_n hx hb dX1_explore_28 rfl (lv_at hl 1 rfl) ?_
  refine r_get C w 0 rfl fr_X1_40 rfl dX1_explore_29 ?_
  refine r_get C w 2 rfl fr_X1_63 rfl dX1_explore_32 ?_
  refine lv_icmp_ge (tgt := 67) hx hb dX1_explore_35 (by decide) (fun _ => ?_) (fun h => absurd (by decide) h)
  refine lv_aload_n hx hb dX1_explore_67 rfl (lv_at hl 1 rfl) ?_
  refine lv_dup hx hb dX1_explore_68 rfl ?_
  refine r_get C w 0 rfl fr_X1_53 rfl dX1_explore_69 ?_
  refine lv_iconst (v := 1) hx hb dX1_explore_72 (by decide) ?_
  refine lv_iadd hx hb dX1_explore_73 ?_
  refine z_i (v := 1) (by decide +kernel) ?_
  refine r_put C w 0 rfl fl_X1_53 (Nat.le_of_ble_eq_true rfl) rfl rfl dX1_explore_74 (ws2 := [(q0, .inr (1, [.int 0, .ref q2, .ref q3, .ref q1, .ref q4, .ref q5, .ref q6, .ref q7, .int 1])), (q1, .inr (7, [.ref q8, .int 0, .int 1, .int 3008, .ref q9])), (q2, .inr (2, [.int 0, .int 0, .ref q10, .ref q11, .ref q12, .ref q13, .ref q14, .ref q15, .ref q16, .ref q17, .ref q18, .ref q19, .ref q20, .ref q21, .ref q22, .ref q23, .int 0]))]) rfl (fun H locs w => ?_)
  refine lv_goto (tgt := 0) hx hb dX1_explore_77 (by decide) ?_
  refine lv_aload_n hx hb dX1_explore_0 rfl (lv_at hl 1 rfl) ?_
  refine r_get C w 0 rfl fr_X1_53 rfl dX1_explore_1 ?_
  refine lv_aload_n hx hb dX1_explore_4 rfl (lv_at hl 1 rfl) ?_
  refine r_get C w 0 rfl fr_X1_24 rfl dX1_explore_5 ?_
  refine r_get C w 1 rfl fr_X1_60 rfl dX1_explore_8 ?_
  refine lv_icmp_ge (tgt := 80) hx hb dX1_explore_11 (by decide) (fun _ => ?_) (fun h => absurd (by decide) h)
  exact e_v C hr w (fun _ => 0) [0, 1, 2] rfl rfl dX1_explore_80 (by decide) (by decide)
set_option maxRecDepth 100000 in
set_option maxHeartbeats 4000000 in
theorem k114_explored {l : Launch} {s0 : State} {a0 : Array Value} {G : GT} (b0 : B0 l s0 a0 G) (q0 q1 q2 q3 q4 q5 q6 q7 q8 q9 q10 q11 q12 q13 q14 q15 q16 q17 q18 q19 q20 q21 q22 q23 q24 q25 q26 q27 : Nat) (x0 : Int32) (h0 : ¬ x0 < 1) (sz : Nat) : Kr l s0 G yX11_explored cX11_explored 2 (some (.object "TokenHall$Graph")) { frames := 3, cells := 9, slots := 65366, locals := 147 } [.ref q0, .int x0] [(q0, .inr (11, [.ref q4, .ref q5, .ref q1, .ref q6, .ref q7, .ref q8, .ref q9, .ref q10, .ref q2, .ref q11, .int 0, .int (-1), .int 0, .int 0, .null, .null, .null, .null, .null])), (q1, .inr (5, [.ref q3, .ref q12, .ref q13, .int 0])), (q2, .inr (2, [.int 0, .int 0, .ref q14, .ref q15, .ref q16, .ref q17, .ref q18, .ref q19, .ref q20, .ref q21, .ref q22, .ref q23, .ref q24, .ref q25, .ref q26, .ref q27, .int 0])), (q3, .inl (G.2.1, 8, .inl (fun _ => 0)))] sz (fun u => (u 0)) (fun u => [(q0, .inr (11, [.ref q4, .ref q5, .ref q1, .ref q6, .ref q7, .ref q8, .ref q9, .ref q10, .ref q2, .ref q11, .int 0, .int (-1), .int 0, .int 0, .ref (u 0), .null, .null, .null, .null])), (q1, .inr (5, [.ref q3, .ref q12, .ref q13, .int 0])), (q2, .inr (2, [.int 0, .int 0, .ref q14, .ref q15, .ref q16, .ref q17, .ref q18, .ref q19, .ref q20, .ref q21, .ref q22, .ref q23, .ref q24, .ref q25, .ref q26, .ref q27, .int 0])), (q3, .inl (G.2.1, 8, .inl (fun _ => 0))), ((u 0), .inr (1, [.int 0, .ref q2, .ref (u 1), .ref (u 2), .ref (u 5), .ref (u 6), .ref (u 7), .ref (u 8), .int 1])), ((u 1), .inl (G.2.1, 24064, .inl (fun _ => 0))), ((u 2), .inr (7, [.ref (u 3), .int 0, .int 1, .int 3008, .ref (u 4)])), ((u 3), .inl (G.2.1, 24064, .inl (fun _ => 0))), ((u 4), .inl (G.2.1, 8192, .inl (upd (fun _ => (-1)) 7 0))), ((u 5), .inl (G.2.1, 3008, .inl (fun _ => 0))), ((u 6), .inl (G.2.1, 3008, .inl (upd (fun _ => 0) 0 (-1)))), ((u 7), .inl (G.2.1, 3008, .inl (upd (fun _ => 0) 0 (-1)))), ((u 8), .inl (G.2.1, 8, .inl (fun _ => 0)))]) := by
  refine Kr.of b0 (own := RX11) (nm := "explored") [(0, .ref q0), (1, .int x0)] rfl rfl (by decide +kernel) (Nat.le_of_ble_eq_true rfl) rfl ?_
  intro p e s m below meth c A C hr H locs w ls hl
  have hx := C.hx
  have hb := C.hb
  refine lv_aload_n hx hb dX11_explored_0 rfl (lv_at hl 0 rfl) ?_
  refine r_get C w 0 rfl fr_X11_370 rfl dX11_explored_1 ?_
  refine lv_ifnonnullN hx hb dX11_explored_4 ?_
  refine lv_aload_n hx hb dX11_explored_7 rfl (lv_at hl 0 rfl) ?_
  refine r_new C w (cells2 := 1) (slots2 := 9) no_X11_169 ⟨by decide, by decide, by decide, by decide⟩ dX11_explored_8 (fun q1 H w => ?_)
  have w : Wd s G A [(q0, .inr (11, [.ref q4, .ref q5, .ref q1, .ref q6, .ref q7, .ref q8, .ref q9, .ref q10, .ref q2, .ref q11, .int 0, .int (-1), .int 0, .int 0, .null, .null, .null, .null, .null])), (q1, .inr (5, [.ref q3, .ref q12, .ref q13, .int 0])), (q2, .inr (2, [.int 0, .int 0, .ref q14, .ref q15, .ref q16, .ref q17, .ref q18, .ref q19, .ref q20, .ref q21, .ref q22, .ref q23, .ref q24, .ref q25, .ref q26, .ref q27, .int 0])), (q3, .inl (G.2.1, 8, .inl (fun _ => 0))), (q1, .inr (1, [.int 0, .null, .null, .null, .null, .null, .null, .null, .int 0]))] H locs := w
  refine lv_dup hx hb dX11_explored_11 rfl ?_
  refine fin_v C w (run_N C w mn_X11_374 (k108_init C.b0 q1 H.size) [4] rfl rfl (by decide) rfl hl.1 rfl (Nat.le_of_ble_eq_true rfl) dX11_explored_12 (cells2 := 9) (slots2 := 65366) (by decide)) [4] [0, 1, 2, 3] rfl rfl (by decide) (cells2 := 9) (slots2 := 65366) (by decide) (fun u2 H locs w => ?_)
  have w : Wd s G A [(q0, .inr (11, [.ref q4, .ref q5, .ref q1, .ref q6, .ref q7, .ref q8, .ref q9, .ref q10, .ref q2, .ref q11, .int 0, .int (-1), .int 0, .int 0, .null, .null, .null, .null, .null])), (q1, .inr (5, [.ref q3, .ref q12, .ref q13, .int 0])), (q2, .inr (2, [.int 0, .int 0, .ref q14, .ref q15, .ref q16, .ref q17, .ref q18, .ref q19, .ref q20, .ref q21, .ref q22, .ref q23, .ref q24, .ref q25, .ref q26, .ref q27, .int 0])), (q3, .inl (G.2.1, 8, .inl (fun _ => 0))), (q1, .inr (1, [.int (-1), .null, .ref (u2 0), .ref (u2 1), .ref (u2 4), .ref (u2 5), .ref (u2 6), .ref (u2 7), .int 0])), ((u2 0), .inl (G.2.1, 24064, .inl (fun _ => 0))), ((u2 1), .inr (7, [.ref (u2 2), .int 0, .int 0, .int 3008, .ref (u2 3)])), ((u2 2), .inl (G.2.1, 24064, .inl (fun _ => 0))), ((u2 3), .inl (G.2.1, 8192, .inl (fun _ => 0))), ((u2 4), .inl (G.2.1, 3008, .inl (fun _ => 0))), ((u2 5), .inl (G.2.1, 3008, .inl (fun _ => 0))), ((u2 6), .inl (G.2.1, 3008, .inl (fun _ => 0))), ((u2 7), .inl (G.2.1, 8, .inl (fun _ => 0)))] H locs := w
  refine r_put C w 0 rfl fl_X11_370 (Nat.le_of_ble_eq_true rfl) rfl rfl dX11_explored_15 (ws2 := [(q0, .inr (11, [.ref q4, .ref q5, .ref q1, .ref q6, .ref q7, .ref q8, .ref q9, .ref q10, .ref q2, .ref q11, .int 0, .int (-1), .int 0, .int 0, .ref q1, .null, .null, .null, .null])), (q1, .inr (5, [.ref q3, .ref q12, .ref q13, .int 0])), (q2, .inr (2, [.int 0, .int 0, .ref q14, .ref q15, .ref q16, .ref q17, .ref q18, .ref q19, .ref q20, .ref q21, .ref q22, .ref q23, .ref q24, .ref q25, .ref q26, .ref q27, .int 0])), (q3, .inl (G.2.1, 8, .inl (fun _ => 0))), (q1, .inr (1, [.int (-1), .null, .ref (u2 0), .ref (u2 1), .ref (u2 4), .ref (u2 5), .ref (u2 6), .ref (u2 7), .int 0])), ((u2 0), .inl (G.2.1, 24064, .inl (fun _ => 0))), ((u2 1), .inr (7, [.ref (u2 2), .int 0, .int 0, .int 3008, .ref (u2 3)])), ((u2 2), .inl (G.2.1, 24064, .inl (fun _ => 0))), ((u2 3), .inl (G.2.1, 8192, .inl (fun _ => 0))), ((u2 4), .inl (G.2.1, 3008, .inl (fun _ => 0))), ((u2 5), .inl (G.2.1, 3008, .inl (fun _ => 0))), ((u2 6), .inl (G.2.1, 3008, .inl (fun _ => 0))), ((u2 7), .inl (G.2.1, 8, .inl (fun _ => 0)))]) rfl (fun H locs w => ?_)
  refine lv_aload_n hx hb dX11_explored_18 rfl (lv_at hl 0 rfl) ?_
  refine r_get C w 0 rfl fr_X11_370 rfl dX11_explored_19 ?_
  refine r_get C w 4 rfl fr_X11_375 rfl dX11_explored_22 ?_
  refine lv_aload_n hx hb dX11_explored_25 rfl (lv_at hl 0 rfl) ?_
  refine r_get C w 0 rfl fr_X11_95 rfl dX11_explored_26 ?_
  refine lv_icmp_eq (tgt := 54) hx hb dX11_explored_29 (by decide) (fun h => absurd h (by decide)) (fun _ => ?_)
  refine lv_aload_n hx hb dX11_explored_32 rfl (lv_at hl 0 rfl) ?_
  refine r_get C w 0 rfl fr_X11_370 rfl dX11_explored_33 ?_
  refine lv_aload_n hx hb dX11_explored_36 rfl (lv_at hl 0 rfl) ?_
  refine r_get C w 0 rfl fr_X11_54 rfl dX11_explored_37 ?_
  refine lv_aload_n hx hb dX11_explored_40 rfl (lv_at hl 0 rfl) ?_
  refine r_get C w 0 rfl fr_X11_23 rfl dX11_explored_41 ?_
  refine r_get C w 1 rfl fr_X11_129 rfl dX11_explored_44 ?_
  refine lv_aload_n hx hb dX11_explored_47 rfl (lv_at hl 0 rfl) ?_
  refine r_get C w 0 rfl fr_X11_95 rfl dX11_explored_48 ?_
  refine fin_v C w (run_V C w mv_X11_376 (k112_begin C.b0 q1 q2 (u2 1) (u2 3) q3 (u2 2) (u2 4) (u2 5) (u2 6) (u2 0) (u2 7) q14 q15 q16 q17 q18 q19 q20 q21 q22 q23 q24 q25 q26 q27 H.size) [4, 2, 6, 8, 3, 7, 9, 10, 11] rfl rfl 4 rfl rfl (by decide) rfl hl.1 rfl (Nat.le_of_ble_eq_true rfl) dX11_explored_51 (cells2 := 9) (slots2 := 65366) (by decide)) [4, 2, 6, 8, 3, 7, 9, 10, 11] [0, 1, 5, 12] rfl rfl (by decide) (cells2 := 9) (slots2 := 65366) (by decide) (fun u3 H locs w => ?_)
  have w : Wd s G A [(q0, .inr (11, [.ref q4, .ref q5, .ref q1, .ref q6, .ref q7, .ref q8, .ref q9, .ref q10, .ref q2, .ref q11, .int 0, .int (-1), .int 0, .int 0, .ref q1, .null, .null, .null, .null])), (q1, .inr (5, [.ref q3, .ref q12, .ref q13, .int 0])), ((u2 0), .inl (G.2.1, 24064, .inl (fun _ => 0))), ((u2 7), .inl (G.2.1, 8, .inl (fun _ => 0))), (q1, .inr (1, [.int 0, .ref q2, .ref (u2 0), .ref (u2 1), .ref (u2 4), .ref (u2 5), .ref (u2 6), .ref (u2 7), .int 0])), (q2, .inr (2, [.int 0, .int 0, .ref q14, .ref q15, .ref q16, .ref q17, .ref q18, .ref q19, .ref q20, .ref q21, .ref q22, .ref q23, .ref q24, .ref q25, .ref q26, .ref q27, .int 0])), ((u2 1), .inr (7, [.ref (u2 2), .int 0, .int 1, .int 3008, .ref (u2 3)])), ((u2 3), .inl (G.2.1, 8192, .inl (upd (fun _ => (-1)) 7 0))), (q3, .inl (G.2.1, 8, .inl (fun _ => 0))), ((u2 2), .inl (G.2.1, 24064, .inl (fun _ => 0))), ((u2 4), .inl (G.2.1, 3008, .inl (fun _ => 0))), ((u2 5), .inl (G.2.1, 3008, .inl (upd (fun _ => 0) 0 (-1)))), ((u2 6), .inl (G.2.1, 3008, .inl (upd (fun _ => 0) 0 (-1))))] H locs := w
  refine lv_aload_n hx hb dX11_explored_54 rfl (lv_at hl 0 rfl) ?_
  refine r_get C w 0 rfl fr_X11_370 rfl dX11_explored_55 ?_
  refine lv_iload_n hx hb dX11_explored_58 rfl (lv_at hl 1 rfl) ?_
  refine fin_v C w (run_V C w mv_X11_378 (k113_explore C.b0 q1 (u2 1) q2 (u2 0) (u2 4) (u2 5) (u2 6) (u2 7) (u2 2) (u2 3) q14 q15 q16 q17 q18 q19 q20 q21 q22 q23 q24 q25 q26 q27 x0 h0 H.size) [4, 6, 5] rfl rfl 4 rfl rfl (by decide) rfl hl.1 rfl (Nat.le_of_ble_eq_true rfl) dX11_explored_59 (cells2 := 9) (slots2 := 65366) (by decide)) [4, 6, 5] [0, 1, 2, 3, 7, 8, 9, 10, 11, 12] rfl rfl (by decide) (cells2 := 9) (slots2 := 65366) (by decide) (fun u4 H locs w => ?_)
  have w : Wd s G A [(q0, .inr (11, [.ref q4, .ref q5, .ref q1, .ref q6, .ref q7, .ref q8, .ref q9, .ref q10, .ref q2, .ref q11, .int 0, .int (-1), .int 0, .int 0, .ref q1, .null, .null, .null, .null])), (q1, .inr (5, [.ref q3, .ref q12, .ref q13, .int 0])), ((u2 0), .inl (G.2.1, 24064, .inl (fun _ => 0))), ((u2 7), .inl (G.2.1, 8, .inl (fun _ => 0))), ((u2 3), .inl (G.2.1, 8192, .inl (upd (fun _ => (-1)) 7 0))), (q3, .inl (G.2.1, 8, .inl (fun _ => 0))), ((u2 2), .inl (G.2.1, 24064, .inl (fun _ => 0))), ((u2 4), .inl (G.2.1, 3008, .inl (fun _ => 0))), ((u2 5), .inl (G.2.1, 3008, .inl (upd (fun _ => 0) 0 (-1)))), ((u2 6), .inl (G.2.1, 3008, .inl (upd (fun _ => 0) 0 (-1)))), (q1, .inr (1, [.int 0, .ref q2, .ref (u2 0), .ref (u2 1), .ref (u2 4), .ref (u2 5), .ref (u2 6), .ref (u2 7), .int 1])), ((u2 1), .inr (7, [.ref (u2 2), .int 0, .int 1, .int 3008, .ref (u2 3)])), (q2, .inr (2, [.int 0, .int 0, .ref q14, .ref q15, .ref q16, .ref q17, .ref q18, .ref q19, .ref q20, .ref q21, .ref q22, .ref q23, .ref q24, .ref q25, .ref q26, .ref q27, .int 0]))] H locs := w
  refine lv_aload_n hx hb dX11_explored_62 rfl (lv_at hl 0 rfl) ?_
  refine r_get C w 0 rfl fr_X11_370 rfl dX11_explored_63 ?_
  exact e_r C hr w (fun k => [q1, (u2 0), (u2 1), (u2 2), (u2 3), (u2 4), (u2 5), (u2 6), (u2 7)].getD k 0) [0, 1, 12, 5, 10, 2, 11, 6, 4, 7, 8, 9, 3] rfl rfl rfl dX11_explored_66 (by decide) (by decide)
set_option maxRecDepth 100000 in
set_option maxHeartbeats 4000000 in
theorem k115_isBeyond {l : Launch} {s0 : State} {a0 : Array Value} {G : GT} (b0 : B0 l s0 a0 G) (q0 q1 q2 q3 q4 q5 q6 q7 q8 q9 : Nat) (x0 : Int32) (h0 : ¬ x0 < 1) (sz : Nat) : Ki l s0 G yX1_isBeyond cX1_isBeyond 2 (some .boolean) { frames := 0, cells := 0, slots := 0, locals := 0 } [.ref q0, .int x0] [(q0, .inr (1, [.int 0, .ref q2, .ref q3, .ref q1, .ref q4, .ref q5, .ref q6, .ref q7, .int 1])), (q1, .inr (7, [.ref q8, .int 0, .int 1, .int 3008, .ref q9]))] sz 0 (fun u => [(q0, .inr (1, [.int 0, .ref q2, .ref q3, .ref q1, .ref q4, .ref q5, .ref q6, .ref q7, .int 1])), (q1, .inr (7, [.ref q8, .int 0, .int 1, .int 3008, .ref q9]))]) := by
  refine Ki.of b0 (own := RX1) (nm := "isBeyond") [(0, .ref q0), (1, .int x0)] rfl rfl (by decide +kernel) (Nat.le_of_ble_eq_true rfl) rfl ?_
  intro p e s m below meth c A C hr H locs w ls hl
  have hx := C.hx
  have hb := C.hb
  refine lv_aload_n hx hb dX1_isBeyond_0 rfl (lv_at hl 0 rfl) ?_
  refine r_get C w 0 rfl fr_X1_24 rfl dX1_isBeyond_1 ?_
  refine r_get C w 1 rfl fr_X1_60 rfl dX1_isBeyond_4 ?_
  refine lv_iload_n hx hb dX1_isBeyond_7 rfl (lv_at hl 1 rfl) ?_
  refine lv_icmp_le (tgt := 15) hx hb dX1_isBeyond_8 (by decide) (fun _ => ?_) (fun h => absurd (Int32.not_lt.mp h0) h)
  refine lv_iconst (v := 0) hx hb dX1_isBeyond_15 (by decide) ?_
  exact e_i C hr w (fun _ => 0) [0, 1] rfl rfl (by decide) dX1_isBeyond_16 (by decide) (by decide)
set_option maxRecDepth 100000 in
set_option maxHeartbeats 4000000 in
theorem k116_size {l : Launch} {s0 : State} {a0 : Array Value} {G : GT} (b0 : B0 l s0 a0 G) (q0 q1 q2 q3 q4 q5 q6 q7 q8 q9 : Nat) (sz : Nat) : Ki l s0 G yX1_size cX1_size 1 (some .int) { frames := 0, cells := 0, slots := 0, locals := 0 } [.ref q0] [(q0, .inr (1, [.int 0, .ref q2, .ref q3, .ref q1, .ref q4, .ref q5, .ref q6, .ref q7, .int 1])), (q1, .inr (7, [.ref q8, .int 0, .int 1, .int 3008, .ref q9]))] sz 1 (fun u => [(q0, .inr (1, [.int 0, .ref q2, .ref q3, .ref q1, .ref q4, .ref q5, .ref q6, .ref q7, .int 1])), (q1, .inr (7, [.ref q8, .int 0, .int 1, .int 3008, .ref q9]))]) := by
  refine Ki.of b0 (own := RX1) (nm := "size") [(0, .ref q0)] rfl rfl (by decide +kernel) (Nat.le_of_ble_eq_true rfl) rfl ?_
  intro p e s m below meth c A C hr H locs w ls hl
  have hx := C.hx
  have hb := C.hb
  refine lv_aload_n hx hb dX1_size_0 rfl (lv_at hl 0 rfl) ?_
  refine r_get C w 0 rfl fr_X1_24 rfl dX1_size_1 ?_
  refine r_get C w 1 rfl fr_X1_60 rfl dX1_size_4 ?_
  exact e_i C hr w (fun _ => 0) [0, 1] rfl rfl rfl dX1_size_7 (by decide) (by decide)
set_option maxRecDepth 100000 in
set_option maxHeartbeats 4000000 in
theorem k117_states {l : Launch} {s0 : State} {a0 : Array Value} {G : GT} (b0 : B0 l s0 a0 G) (q0 q1 q2 q3 q4 q5 q6 q7 q8 q9 q10 q11 q12 q13 q14 q15 q16 q17 q18 q19 q20 q21 q22 q23 q24 q25 q26 q27 : Nat) (x0 : Int32) (h0 : ¬ 3000 < x0) (h1 : ¬ x0 < 1) (sz : Nat) : Ki l s0 G yX11_states cX11_states 3 (some .int) { frames := 4, cells := 9, slots := 65366, locals := 168 } [.ref q0, .int x0] [(q0, .inr (11, [.ref q4, .ref q5, .ref q1, .ref q6, .ref q7, .ref q8, .ref q9, .ref q10, .ref q2, .ref q11, .int 0, .int (-1), .int 0, .int 0, .null, .null, .null, .null, .null])), (q1, .inr (5, [.ref q3, .ref q12, .ref q13, .int 0])), (q2, .inr (2, [.int 0, .int 0, .ref q14, .ref q15, .ref q16, .ref q17, .ref q18, .ref q19, .ref q20, .ref q21, .ref q22, .ref q23, .ref q24, .ref q25, .ref q26, .ref q27, .int 0])), (q3, .inl (G.2.1, 8, .inl (fun _ => 0)))] sz 1 (fun u => [(q0, .inr (11, [.ref q4, .ref q5, .ref q1, .ref q6, .ref q7, .ref q8, .ref q9, .ref q10, .ref q2, .ref q11, .int 0, .int (-1), .int 0, .int 0, .ref (u 0), .null, .null, .null, .null])), (q1, .inr (5, [.ref q3, .ref q12, .ref q13, .int 0])), (q2, .inr (2, [.int 0, .int 0, .ref q14, .ref q15, .ref q16, .ref q17, .ref q18, .ref q19, .ref q20, .ref q21, .ref q22, .ref q23, .ref q24, .ref q25, .ref q26, .ref q27, .int 0])), (q3, .inl (G.2.1, 8, .inl (fun _ => 0))), ((u 0), .inr (1, [.int 0, .ref q2, .ref (u 1), .ref (u 2), .ref (u 5), .ref (u 6), .ref (u 7), .ref (u 8), .int 1])), ((u 1), .inl (G.2.1, 24064, .inl (fun _ => 0))), ((u 2), .inr (7, [.ref (u 3), .int 0, .int 1, .int 3008, .ref (u 4)])), ((u 3), .inl (G.2.1, 24064, .inl (fun _ => 0))), ((u 4), .inl (G.2.1, 8192, .inl (upd (fun _ => (-1)) 7 0))), ((u 5), .inl (G.2.1, 3008, .inl (fun _ => 0))), ((u 6), .inl (G.2.1, 3008, .inl (upd (fun _ => 0) 0 (-1)))), ((u 7), .inl (G.2.1, 3008, .inl (upd (fun _ => 0) 0 (-1)))), ((u 8), .inl (G.2.1, 8, .inl (fun _ => 0)))]) := by
  refine Ki.of b0 (own := RX11) (nm := "states") [(0, .ref q0), (1, .int x0)] rfl rfl (by decide +kernel) (Nat.le_of_ble_eq_true rfl) rfl ?_
  intro p e s m below meth c A C hr H locs w ls hl
  have hx := C.hx
  have hb := C.hb
  refine lv_iload_n hx hb dX11_states_0 rfl (lv_at hl 1 rfl) ?_
  refine fin_v C w (run_S C w ms_X11_161 (k106_needMost C.b0 x0 h0 h1 H.size) [] rfl rfl (by decide) rfl hl.1 rfl (Nat.le_of_ble_eq_true rfl) dX11_states_1 (cells2 := 0) (slots2 := 0) (by decide)) [] [0, 1, 2, 3] rfl rfl (by decide) (cells2 := 0) (slots2 := 0) (by decide) (fun u1 H locs w => ?_)
  have w : Wd s G A [(q0, .inr (11, [.ref q4, .ref q5, .ref q1, .ref q6, .ref q7, .ref q8, .ref q9, .ref q10, .ref q2, .ref q11, .int 0, .int (-1), .int 0, .int 0, .null, .null, .null, .null, .null])), (q1, .inr (5, [.ref q3, .ref q12, .ref q13, .int 0])), (q2, .inr (2, [.int 0, .int 0, .ref q14, .ref q15, .ref q16, .ref q17, .ref q18, .ref q19, .ref q20, .ref q21, .ref q22, .ref q23, .ref q24, .ref q25, .ref q26, .ref q27, .int 0])), (q3, .inl (G.2.1, 8, .inl (fun _ => 0)))] H locs := w
  refine lv_aload_n hx hb dX11_states_4 rfl (lv_at hl 0 rfl) ?_
  refine lv_iload_n hx hb dX11_states_5 rfl (lv_at hl 1 rfl) ?_
  refine fin_r C w (run_V C w mv_X11_164 (k114_explored C.b0 q0 q1 q2 q3 q4 q5 q6 q7 q8 q9 q10 q11 q12 q13 q14 q15 q16 q17 q18 q19 q20 q21 q22 q23 q24 q25 q26 q27 x0 h1 H.size) [0, 1, 2, 3] rfl rfl 0 rfl rfl (by decide) rfl hl.1 rfl (Nat.le_of_ble_eq_true rfl) dX11_states_6 (cells2 := 9) (slots2 := 65366) (by decide)) [0, 1, 2, 3] [] rfl rfl (by decide) (cells2 := 9) (slots2 := 65366) (by decide) (fun u2 H locs w => ?_)
  have w : Wd s G A [(q0, .inr (11, [.ref q4, .ref q5, .ref q1, .ref q6, .ref q7, .ref q8, .ref q9, .ref q10, .ref q2, .ref q11, .int 0, .int (-1), .int 0, .int 0, .ref (u2 0), .null, .null, .null, .null])), (q1, .inr (5, [.ref q3, .ref q12, .ref q13, .int 0])), (q2, .inr (2, [.int 0, .int 0, .ref q14, .ref q15, .ref q16, .ref q17, .ref q18, .ref q19, .ref q20, .ref q21, .ref q22, .ref q23, .ref q24, .ref q25, .ref q26, .ref q27, .int 0])), (q3, .inl (G.2.1, 8, .inl (fun _ => 0))), ((u2 0), .inr (1, [.int 0, .ref q2, .ref (u2 1), .ref (u2 2), .ref (u2 5), .ref (u2 6), .ref (u2 7), .ref (u2 8), .int 1])), ((u2 1), .inl (G.2.1, 24064, .inl (fun _ => 0))), ((u2 2), .inr (7, [.ref (u2 3), .int 0, .int 1, .int 3008, .ref (u2 4)])), ((u2 3), .inl (G.2.1, 24064, .inl (fun _ => 0))), ((u2 4), .inl (G.2.1, 8192, .inl (upd (fun _ => (-1)) 7 0))), ((u2 5), .inl (G.2.1, 3008, .inl (fun _ => 0))), ((u2 6), .inl (G.2.1, 3008, .inl (upd (fun _ => 0) 0 (-1)))), ((u2 7), .inl (G.2.1, 3008, .inl (upd (fun _ => 0) 0 (-1)))), ((u2 8), .inl (G.2.1, 8, .inl (fun _ => 0)))] H locs := w
  refine lv_astore_n (lv' := [(2, .ref (u2 0)), (0, .ref q0), (1, .int x0)]) hx hb dX11_states_9 rfl hl (by decide) rfl (fun ls hl => ?_)
  refine lv_aload_n hx hb dX11_states_10 rfl (lv_at hl 0 rfl) ?_
  refine lv_iload_n hx hb dX11_states_11 rfl (lv_at hl 2 rfl) ?_
  refine fin_i C w (run_V C w mv_X11_168 (k115_isBeyond C.b0 (u2 0) (u2 2) q2 (u2 1) (u2 5) (u2 6) (u2 7) (u2 8) (u2 3) (u2 4) x0 h1 H.size) [4, 6] rfl rfl 4 rfl rfl (by decide) rfl hl.1 rfl (Nat.le_of_ble_eq_true rfl) dX11_states_12 (cells2 := 9) (slots2 := 65366) (by decide)) [4, 6] [0, 1, 2, 3, 5, 7, 8, 9, 10, 11, 12] rfl rfl (by decide) (cells2 := 9) (slots2 := 65366) (by decide) (fun u3 H locs w => ?_)
  have w : Wd s G A [(q0, .inr (11, [.ref q4, .ref q5, .ref q1, .ref q6, .ref q7, .ref q8, .ref q9, .ref q10, .ref q2, .ref q11, .int 0, .int (-1), .int 0, .int 0, .ref (u2 0), .null, .null, .null, .null])), (q1, .inr (5, [.ref q3, .ref q12, .ref q13, .int 0])), (q2, .inr (2, [.int 0, .int 0, .ref q14, .ref q15, .ref q16, .ref q17, .ref q18, .ref q19, .ref q20, .ref q21, .ref q22, .ref q23, .ref q24, .ref q25, .ref q26, .ref q27, .int 0])), (q3, .inl (G.2.1, 8, .inl (fun _ => 0))), ((u2 1), .inl (G.2.1, 24064, .inl (fun _ => 0))), ((u2 3), .inl (G.2.1, 24064, .inl (fun _ => 0))), ((u2 4), .inl (G.2.1, 8192, .inl (upd (fun _ => (-1)) 7 0))), ((u2 5), .inl (G.2.1, 3008, .inl (fun _ => 0))), ((u2 6), .inl (G.2.1, 3008, .inl (upd (fun _ => 0) 0 (-1)))), ((u2 7), .inl (G.2.1, 3008, .inl (upd (fun _ => 0) 0 (-1)))), ((u2 8), .inl (G.2.1, 8, .inl (fun _ => 0))), ((u2 0), .inr (1, [.int 0, .ref q2, .ref (u2 1), .ref (u2 2), .ref (u2 5), .ref (u2 6), .ref (u2 7), .ref (u2 8), .int 1])), ((u2 2), .inr (7, [.ref (u2 3), .int 0, .int 1, .int 3008, .ref (u2 4)]))] H locs := w
  refine lv_if_eq (tgt := 23) hx hb dX11_states_15 (by decide) (fun _ => ?_) (fun h => absurd (by decide) h)
  refine lv_aload_n hx hb dX11_states_23 rfl (lv_at hl 0 rfl) ?_
  refine fin_i C w (run_V C w mv_X11_173 (k116_size C.b0 (u2 0) (u2 2) q2 (u2 1) (u2 5) (u2 6) (u2 7) (u2 8) (u2 3) (u2 4) H.size) [11, 12] rfl rfl 11 rfl rfl (by decide) rfl hl.1 rfl (Nat.le_of_ble_eq_true rfl) dX11_states_24 (cells2 := 9) (slots2 := 65366) (by decide)) [11, 12] [0, 1, 2, 3, 4, 5, 6, 7, 8, 9, 10] rfl rfl (by decide) (cells2 := 9) (slots2 := 65366) (by decide) (fun u4 H locs w => ?_)
  have w : Wd s G A [(q0, .inr (11, [.ref q4, .ref q5, .ref q1, .ref q6, .ref q7, .ref q8, .ref q9, .ref q10, .ref q2, .ref q11, .int 0, .int (-1), .int 0, .int 0, .ref (u2 0), .null, .null, .null, .null])), (q1, .inr (5, [.ref q3, .ref q12, .ref q13, .int 0])), (q2, .inr (2, [.int 0, .int 0, .ref q14, .ref q15, .ref q16, .ref q17, .ref q18, .ref q19, .ref q20, .ref q21, .ref q22, .ref q23, .ref q24, .ref q25, .ref q26, .ref q27, .int 0])), (q3, .inl (G.2.1, 8, .inl (fun _ => 0))), ((u2 1), .inl (G.2.1, 24064, .inl (fun _ => 0))), ((u2 3), .inl (G.2.1, 24064, .inl (fun _ => 0))), ((u2 4), .inl (G.2.1, 8192, .inl (upd (fun _ => (-1)) 7 0))), ((u2 5), .inl (G.2.1, 3008, .inl (fun _ => 0))), ((u2 6), .inl (G.2.1, 3008, .inl (upd (fun _ => 0) 0 (-1)))), ((u2 7), .inl (G.2.1, 3008, .inl (upd (fun _ => 0) 0 (-1)))), ((u2 8), .inl (G.2.1, 8, .inl (fun _ => 0))), ((u2 0), .inr (1, [.int 0, .ref q2, .ref (u2 1), .ref (u2 2), .ref (u2 5), .ref (u2 6), .ref (u2 7), .ref (u2 8), .int 1])), ((u2 2), .inr (7, [.ref (u2 3), .int 0, .int 1, .int 3008, .ref (u2 4)]))] H locs := w
  exact e_i C hr w (fun k => [(u2 0), (u2 1), (u2 2), (u2 3), (u2 4), (u2 5), (u2 6), (u2 7), (u2 8)].getD k 0) [0, 1, 2, 3, 11, 4, 12, 5, 6, 7, 8, 9, 10] rfl rfl rfl dX11_states_27 (by decide) (by decide)
set_option maxRecDepth 100000 in
set_option maxHeartbeats 4000000 in
theorem k118_states {l : Launch} {s0 : State} {a0 : Array Value} {G : GT} (b0 : B0 l s0 a0 G) (q0 q1 q2 q3 q4 q5 q6 q7 q8 q9 q10 q11 q12 q13 q14 q15 q16 q17 q18 q19 q20 q21 q22 q23 q24 q25 q26 q27 q28 : Nat) (x0 : Int32) (h0 : ¬ 3000 < x0) (h1 : ¬ x0 < 1) (sz : Nat) : Kh l s0 G yL_states cL_states 4 (some .int) [(0, 9, 12, 13)] { frames := 5, cells := 9, slots := 65366, locals := 190 } [.ref q0, .int x0, .ref q4] [(q0, .inr (11, [.ref q5, .ref q6, .ref q1, .ref q7, .ref q8, .ref q9, .ref q10, .ref q11, .ref q2, .ref q12, .int 0, .int (-1), .int 0, .int 0, .null, .null, .null, .null, .null])), (q1, .inr (5, [.ref q3, .ref q13, .ref q14, .int 0])), (q2, .inr (2, [.int 0, .int 0, .ref q15, .ref q16, .ref q17, .ref q18, .ref q19, .ref q20, .ref q21, .ref q22, .ref q23, .ref q24, .ref q25, .ref q26, .ref q27, .ref q28, .int 0])), (q3, .inl (G.2.1, 8, .inl (fun _ => 0))), (q4, .inl (G.2.2.1, 1, .inr (.inl (fun _ => 0))))] sz 0 (fun u => [(q0, .inr (11, [.ref q5, .ref q6, .ref q1, .ref q7, .ref q8, .ref q9, .ref q10, .ref q11, .ref q2, .ref q12, .int 0, .int (-1), .int 0, .int 0, .ref (u 0), .null, .null, .null, .null])), (q1, .inr (5, [.ref q3, .ref q13, .ref q14, .int 0])), (q2, .inr (2, [.int 0, .int 0, .ref q15, .ref q16, .ref q17, .ref q18, .ref q19, .ref q20, .ref q21, .ref q22, .ref q23, .ref q24, .ref q25, .ref q26, .ref q27, .ref q28, .int 0])), (q3, .inl (G.2.1, 8, .inl (fun _ => 0))), (q4, .inl (G.2.2.1, 1, .inr (.inl (vp_updL (fun _ => 0) 0 1)))), ((u 0), .inr (1, [.int 0, .ref q2, .ref (u 1), .ref (u 2), .ref (u 5), .ref (u 6), .ref (u 7), .ref (u 8), .int 1])), ((u 1), .inl (G.2.1, 24064, .inl (fun _ => 0))), ((u 2), .inr (7, [.ref (u 3), .int 0, .int 1, .int 3008, .ref (u 4)])), ((u 3), .inl (G.2.1, 24064, .inl (fun _ => 0))), ((u 4), .inl (G.2.1, 8192, .inl (upd (fun _ => (-1)) 7 0))), ((u 5), .inl (G.2.1, 3008, .inl (fun _ => 0))), ((u 6), .inl (G.2.1, 3008, .inl (upd (fun _ => 0) 0 (-1)))), ((u 7), .inl (G.2.1, 3008, .inl (upd (fun _ => 0) 0 (-1)))), ((u 8), .inl (G.2.1, 8, .inl (fun _ => 0)))]) := by
  refine Kh.of b0 (own := RL) (nm := "states") [(0, .ref q0), (1, .int x0), (2, .ref q4)] rfl rfl (by decide +kernel) (Nat.le_of_ble_eq_true rfl) rfl ?_
  intro p e s m below meth c A C hr ht H locs w ls hl
  have hx := C.hx
  have hb := C.hb
  refine lv_aload_n hx hb dL_states_0 rfl (lv_at hl 2 rfl) ?_
  refine lv_iconst (v := 0) hx hb dL_states_1 (by decide) ?_
  refine lv_aload_n hx hb dL_states_2 rfl (lv_at hl 0 rfl) ?_
  refine lv_iload_n hx hb dL_states_3 rfl (lv_at hl 1 rfl) ?_
  refine fin_i C w (run_V C w mv_L_45 (k117_states C.b0 q0 q1 q2 q3 q5 q6 q7 q8 q9 q10 q11 q12 q13 q14 q15 q16 q17 q18 q19 q20 q21 q22 q23 q24 q25 q26 q27 q28 x0 h0 h1 H.size) [0, 1, 2, 3] rfl rfl 0 rfl rfl (by decide) rfl hl.1 rfl (Nat.le_of_ble_eq_true rfl) dL_states_4 (cells2 := 9) (slots2 := 65366) (by decide)) [0, 1, 2, 3] [4] rfl rfl (by decide) (cells2 := 9) (slots2 := 65366) (by decide) (fun u1 H locs w => ?_)
  have w : Wd s G A [(q4, .inl (G.2.2.1, 1, .inr (.inl (fun _ => 0)))), (q0, .inr (11, [.ref q5, .ref q6, .ref q1, .ref q7, .ref q8, .ref q9, .ref q10, .ref q11, .ref q2, .ref q12, .int 0, .int (-1), .int 0, .int 0, .ref (u1 0), .null, .null, .null, .null])), (q1, .inr (5, [.ref q3, .ref q13, .ref q14, .int 0])), (q2, .inr (2, [.int 0, .int 0, .ref q15, .ref q16, .ref q17, .ref q18, .ref q19, .ref q20, .ref q21, .ref q22, .ref q23, .ref q24, .ref q25, .ref q26, .ref q27, .ref q28, .int 0])), (q3, .inl (G.2.1, 8, .inl (fun _ => 0))), ((u1 0), .inr (1, [.int 0, .ref q2, .ref (u1 1), .ref (u1 2), .ref (u1 5), .ref (u1 6), .ref (u1 7), .ref (u1 8), .int 1])), ((u1 1), .inl (G.2.1, 24064, .inl (fun _ => 0))), ((u1 2), .inr (7, [.ref (u1 3), .int 0, .int 1, .int 3008, .ref (u1 4)])), ((u1 3), .inl (G.2.1, 24064, .inl (fun _ => 0))), ((u1 4), .inl (G.2.1, 8192, .inl (upd (fun _ => (-1)) 7 0))), ((u1 5), .inl (G.2.1, 3008, .inl (fun _ => 0))), ((u1 6), .inl (G.2.1, 3008, .inl (upd (fun _ => 0) 0 (-1)))), ((u1 7), .inl (G.2.1, 3008, .inl (upd (fun _ => 0) 0 (-1)))), ((u1 8), .inl (G.2.1, 8, .inl (fun _ => 0)))] H locs := w
  refine lv_i2l (v := 1) hx hb dL_states_7 (by decide +kernel) ?_
  refine r_last C w 0 rfl (IX.of (k := 0) (by decide +kernel)) (g := (vp_updL (fun _ => 0) 0 1)) rfl dL_states_8 (ws2 := [(q4, .inl (G.2.2.1, 1, .inr (.inl (vp_updL (fun _ => 0) 0 1)))), (q0, .inr (11, [.ref q5, .ref q6, .ref q1, .ref q7, .ref q8, .ref q9, .ref q10, .ref q11, .ref q2, .ref q12, .int 0, .int (-1), .int 0, .int 0, .ref (u1 0), .null, .null, .null, .null])), (q1, .inr (5, [.ref q3, .ref q13, .ref q14, .int 0])), (q2, .inr (2, [.int 0, .int 0, .ref q15, .ref q16, .ref q17, .ref q18, .ref q19, .ref q20, .ref q21, .ref q22, .ref q23, .ref q24, .ref q25, .ref q26, .ref q27, .ref q28, .int 0])), (q3, .inl (G.2.1, 8, .inl (fun _ => 0))), ((u1 0), .inr (1, [.int 0, .ref q2, .ref (u1 1), .ref (u1 2), .ref (u1 5), .ref (u1 6), .ref (u1 7), .ref (u1 8), .int 1])), ((u1 1), .inl (G.2.1, 24064, .inl (fun _ => 0))), ((u1 2), .inr (7, [.ref (u1 3), .int 0, .int 1, .int 3008, .ref (u1 4)])), ((u1 3), .inl (G.2.1, 24064, .inl (fun _ => 0))), ((u1 4), .inl (G.2.1, 8192, .inl (upd (fun _ => (-1)) 7 0))), ((u1 5), .inl (G.2.1, 3008, .inl (fun _ => 0))), ((u1 6), .inl (G.2.1, 3008, .inl (upd (fun _ => 0) 0 (-1)))), ((u1 7), .inl (G.2.1, 3008, .inl (upd (fun _ => 0) 0 (-1)))), ((u1 8), .inl (G.2.1, 8, .inl (fun _ => 0)))]) rfl (fun H locs w => ?_)
  refine lv_goto (tgt := 15) hx hb dL_states_9 (by decide) ?_
  refine lv_iconst (v := 0) hx hb dL_states_15 (by decide) ?_
  exact e_i C hr w (fun k => [(u1 0), (u1 1), (u1 2), (u1 3), (u1 4), (u1 5), (u1 6), (u1 7), (u1 8)].getD k 0) [1, 2, 3, 4, 0, 5, 6, 7, 8, 9, 10, 11, 12, 13] rfl rfl rfl dL_states_16 (by decide) (by decide)
set_option maxRecDepth 100000 in
set_option maxHeartbeats 4000000 in
theorem k119_within {l : Launch} {s0 : State} {a0 : Array Value} {G : GT} (b0 : B0 l s0 a0 G) (x0 : Int32) (h0 : ¬ 3000 < x0) (h1 : ¬ x0 < 1) (sz : Nat) : Ki l s0 G yX12_within cX12_within 3 (some .boolean) { frames := 0, cells := 0, slots := 0, locals := 0 } [.int x0, .int 1, .int 3000] [] sz 1 (fun u => []) := by
  refine Ki.of b0 (own := RX12) (nm := "within") [(0, .int x0), (1, .int 1), (2, .int 3000)] rfl rfl (by decide +kernel) (Nat.le_of_ble_eq_true rfl) rfl ?_
  intro p e s m below meth c A C hr H locs w ls hl
  have hx := C.hx
  have hb := C.hb
  refine lv_iload_n hx hb dX12_within_0 rfl (lv_at hl 0 rfl) ?_
  refine lv_iload_n hx hb dX12_within_1 rfl (lv_at hl 1 rfl) ?_
  refine lv_icmp_lt (tgt := 14) hx hb dX12_within_2 (by decide) (fun h => absurd h h1) (fun _ => ?_)
  refine lv_iload_n hx hb dX12_within_5 rfl (lv_at hl 0 rfl) ?_
  refine lv_iload_n hx hb dX12_within_6 rfl (lv_at hl 2 rfl) ?_
  refine lv_icmp_gt (tgt := 14) hx hb dX12_within_7 (by decide) (fun h => absurd h h0) (fun _ => ?_)
  refine lv_iconst (v := 1) hx hb dX12_within_10 (by decide) ?_
  refine lv_goto (tgt := 15) hx hb dX12_within_11 (by decide) ?_
  exact e_i C hr w (fun _ => 0) [] rfl rfl (by decide) dX12_within_15 (by decide) (by decide)
set_option maxRecDepth 100000 in
set_option maxHeartbeats 4000000 in
theorem k120_isMost {l : Launch} {s0 : State} {a0 : Array Value} {G : GT} (b0 : B0 l s0 a0 G) (q0 q1 q2 q3 q4 q5 q6 q7 q8 q9 q10 q11 q12 q13 q14 q15 q16 q17 q18 q19 q20 q21 q22 q23 q24 q25 q26 q27 q28 q29 q30 q31 q32 q33 q34 q35 q36 q37 q38 q39 q40 q41 q42 : Nat) (x0 : Int32) (h0 : ¬ 3000 < x0) (h1 : ¬ x0 < 1) (sz : Nat) : Ki l s0 G yX12_isMost cX12_isMost 3 (some .boolean) { frames := 1, cells := 0, slots := 0, locals := 22 } [.ref q0, .int x0, .int 1] [(q0, .inr (12, [.int 0, .int 0, .int 0, .int 0, .int 0, .int 0, .int 0, .int (-1), .ref q1, .ref q2, .ref q3, .int 0, .ref q4, .ref q5, .ref q6, .ref q7, .ref q8, .ref q9, .ref q10, .int 0, .ref q11, .ref q12, .ref q13, .ref q14, .ref q15, .ref q16, .ref q17, .int 0, .int (-1), .int 0, .ref q18, .ref q19, .ref q20, .ref q21, .ref q22, .ref q23, .ref q24, .ref q25, .int 0, .ref q26, .ref q27, .ref q28, .ref q29, .ref q30, .int 0, .ref q31, .ref q32, .ref q33, .ref q34, .int 0, .ref q35, .ref q36, .ref q37, .ref q38, .int 0, .int 0, .ref q39, .ref q40, .ref q41, .ref q42]))] sz 1 (fun u => [(q0, .inr (12, [.int 0, .int 0, .int 0, .int 0, .int 0, .int 0, .int 0, .int (-1), .ref q1, .ref q2, .ref q3, .int 0, .ref q4, .ref q5, .ref q6, .ref q7, .ref q8, .ref q9, .ref q10, .int 0, .ref q11, .ref q12, .ref q13, .ref q14, .ref q15, .ref q16, .ref q17, .int 0, .int (-1), .int 0, .ref q18, .ref q19, .ref q20, .ref q21, .ref q22, .ref q23, .ref q24, .ref q25, .int 0, .ref q26, .ref q27, .ref q28, .ref q29, .ref q30, .int 0, .ref q31, .ref q32, .ref q33, .ref q34, .int 0, .ref q35, .ref q36, .ref q37, .ref q38, .int 0, .int 0, .ref q39, .ref q40, .ref q41, .ref q42]))]) := by
  refine Ki.of b0 (own := RX12) (nm := "isMost") [(0, .ref q0), (1, .int x0), (2, .int 1)] rfl rfl (by decide +kernel) (Nat.le_of_ble_eq_true rfl) rfl ?_
  intro p e s m below meth c A C hr H locs w ls hl
  have hx := C.hx
  have hb := C.hb
  refine lv_aload_n hx hb dX12_isMost_0 rfl (lv_at hl 0 rfl) ?_
  refine lv_iload_n hx hb dX12_isMost_1 rfl (lv_at hl 1 rfl) ?_
  refine lv_iconst (v := 1) hx hb dX12_isMost_2 (by decide) ?_
  refine lv_sipush (v := 3000) hx hb dX12_isMost_3 (by decide) ?_
  refine fin_i C w (run_S C w ms_X12_289 (k119_within C.b0 x0 h0 h1 H.size) [] rfl rfl (by decide) rfl hl.1 rfl (Nat.le_of_ble_eq_true rfl) dX12_isMost_6 (cells2 := 0) (slots2 := 0) (by decide)) [] [0] rfl rfl (by decide) (cells2 := 0) (slots2 := 0) (by decide) (fun u1 H locs w => ?_)
  have w : Wd s G A [(q0, .inr (12, [.int 0, .int 0, .int 0, .int 0, .int 0, .int 0, .int 0, .int (-1), .ref q1, .ref q2, .ref q3, .int 0, .ref q4, .ref q5, .ref q6, .ref q7, .ref q8, .ref q9, .ref q10, .int 0, .ref q11, .ref q12, .ref q13, .ref q14, .ref q15, .ref q16, .ref q17, .int 0, .int (-1), .int 0, .ref q18, .ref q19, .ref q20, .ref q21, .ref q22, .ref q23, .ref q24, .ref q25, .int 0, .ref q26, .ref q27, .ref q28, .ref q29, .ref q30, .int 0, .ref q31, .ref q32, .ref q33, .ref q34, .int 0, .ref q35, .ref q36, .ref q37, .ref q38, .int 0, .int 0, .ref q39, .ref q40, .ref q41, .ref q42]))] H locs := w
  refine lv_iload_n hx hb dX12_isMost_9 rfl (lv_at hl 2 rfl) ?_
  refine fin_i C w (run_V C w mv_X12_267 (k32_may C.b0 q0 q1 q2 q3 q4 q5 q6 q7 q8 q9 q10 q11 q12 q13 q14 q15 q16 q17 q18 q19 q20 q21 q22 q23 q24 q25 q26 q27 q28 q29 q30 q31 q32 q33 q34 q35 q36 q37 q38 q39 q40 q41 q42 H.size) [0] rfl rfl 0 rfl rfl (by decide) rfl hl.1 rfl (Nat.le_of_ble_eq_true rfl) dX12_isMost_10 (cells2 := 0) (slots2 := 0) (by decide)) [0] [] rfl rfl (by decide) (cells2 := 0) (slots2 := 0) (by decide) (fun u2 H locs w => ?_)
  have w : Wd s G A [(q0, .inr (12, [.int 0, .int 0, .int 0, .int 0, .int 0, .int 0, .int 0, .int (-1), .ref q1, .ref q2, .ref q3, .int 0, .ref q4, .ref q5, .ref q6, .ref q7, .ref q8, .ref q9, .ref q10, .int 0, .ref q11, .ref q12, .ref q13, .ref q14, .ref q15, .ref q16, .ref q17, .int 0, .int (-1), .int 0, .ref q18, .ref q19, .ref q20, .ref q21, .ref q22, .ref q23, .ref q24, .ref q25, .int 0, .ref q26, .ref q27, .ref q28, .ref q29, .ref q30, .int 0, .ref q31, .ref q32, .ref q33, .ref q34, .int 0, .ref q35, .ref q36, .ref q37, .ref q38, .int 0, .int 0, .ref q39, .ref q40, .ref q41, .ref q42]))] H locs := w
  exact e_i C hr w (fun _ => 0) [0] rfl rfl (by decide) dX12_isMost_13 (by decide) (by decide)
set_option maxRecDepth 100000 in
set_option maxHeartbeats 4000000 in
theorem k121_chainOf {l : Launch} {s0 : State} {a0 : Array Value} {G : GT} (b0 : B0 l s0 a0 G) (q0 : Nat) (sz : Nat) : Ki l s0 G yX12_chainOf cX12_chainOf 4 (some .int) { frames := 0, cells := 0, slots := 0, locals := 0 } [.ref q0, .int 0] [(q0, .inl (G.2.1, 8, .inl (fun _ => 0)))] sz 0 (fun u => [(q0, .inl (G.2.1, 8, .inl (fun _ => 0)))]) := by
  refine Ki.of b0 (own := RX12) (nm := "chainOf") [(0, .ref q0), (1, .int 0)] rfl rfl (by decide +kernel) (Nat.le_of_ble_eq_true rfl) rfl ?_
  intro p e s m below meth c A C hr H locs w ls hl
  have hx := C.hx
  have hb := C.hb
  refine lv_iconst (v := 0) hx hb dX12_chainOf_0 (by decide) ?_
  refine lv_istore_n (lv' := [(2, .int 0), (0, .ref q0), (1, .int 0)]) hx hb dX12_chainOf_1 rfl hl (by decide) rfl (fun ls hl => ?_)
  refine lv_iconst (v := 0) hx hb dX12_chainOf_2 (by decide) ?_
  refine lv_istore_n (lv' := [(3, .int 0), (2, .int 0), (0, .ref q0), (1, .int 0)]) hx hb dX12_chainOf_3 rfl hl (by decide) rfl (fun ls hl => ?_)
  refine lv_iload_n hx hb dX12_chainOf_4 rfl (lv_at hl 0 rfl) ?_
  refine lv_bipush (v := 8) hx hb dX12_chainOf_5 (by decide) ?_
  refine lv_icmp_ge (tgt := 28) hx hb dX12_chainOf_7 (by decide) (fun h => absurd h (by decide)) (fun _ => ?_)
  refine lv_sipush (v := 131) hx hb dX12_chainOf_10 (by decide) ?_
  refine lv_iload_n hx hb dX12_chainOf_13 rfl (lv_at hl 1 rfl) ?_
  refine lv_imul hx hb dX12_chainOf_14 ?_
  refine z_i (v := 0) (by decide +kernel) ?_
  refine lv_aload_n hx hb dX12_chainOf_15 rfl (lv_at hl 2 rfl) ?_
  refine lv_iload_n hx hb dX12_chainOf_16 rfl (lv_at hl 3 rfl) ?_
  refine lv_iload_n hx hb dX12_chainOf_17 rfl (lv_at hl 0 rfl) ?_
  refine lv_iadd hx hb dX12_chainOf_18 ?_
  refine z_i (v := 0) (by decide +kernel) ?_
  refine r_iald C w 0 rfl (IX.of (k := 0) (by decide +kernel)) (v := 0) rfl dX12_chainOf_19 ?_
  refine lv_iadd hx hb dX12_chainOf_20 ?_
  refine z_i (v := 0) (by decide +kernel) ?_
  refine lv_istore_n (lv' := [(2, .int 0), (3, .int 0), (0, .ref q0), (1, .int 0)]) hx hb dX12_chainOf_21 rfl hl (by decide) rfl (fun ls hl => ?_)
  refine lv_iinc (v := 1) (lv' := [(3, .int 1), (2, .int 0), (0, .ref q0), (1, .int 0)]) hx hb dX12_chainOf_22 hl (k := 1) rfl (by decide +kernel) (by decide) rfl (fun ls hl => ?_)
  refine lv_goto (tgt := 4) hx hb dX12_chainOf_25 (by decide) ?_
  refine lv_iload_n hx hb dX12_chainOf_4 rfl (lv_at hl 0 rfl) ?_
  refine lv_bipush (v := 8) hx hb dX12_chainOf_5 (by decide) ?_
  refine lv_icmp_ge (tgt := 28) hx hb dX12_chainOf_7 (by decide) (fun h => absurd h (by decide)) (fun _ => ?_)
  refine lv_sipush (v := 131) hx hb dX12_chainOf_10 (by decide) ?_
  refine lv_iload_n hx hb dX12_chainOf_13 rfl (lv_at hl 1 rfl) ?_
  refine lv_imul hx hb dX12_chainOf_14 ?_
  refine z_i (v := 0) (by decide +kernel) ?_
  refine lv_aload_n hx hb dX12_chainOf_15 rfl (lv_at hl 2 rfl) ?_
  refine lv_iload_n hx hb dX12_chainOf_16 rfl (lv_at hl 3 rfl) ?_
  refine lv_iload_n hx hb dX12_chainOf_17 rfl (lv_at hl 0 rfl) ?_
  refine lv_iadd hx hb dX12_chainOf_18 ?_
  refine z_i (v := 1) (by decide +kernel) ?_
  refine r_iald C w 0 rfl (IX.of (k := 1) (by decide +kernel)) (v := 0) rfl dX12_chainOf_19 ?_
  refine lv_iadd hx hb dX12_chainOf_20 ?_
  refine z_i (v := 0) (by decide +kernel) ?_
  refine lv_istore_n (lv' := [(2, .int 0), (3, .int 1), (0, .ref q0), (1, .int 0)]) hx hb dX12_chainOf_21 rfl hl (by decide) rfl (fun ls hl => ?_)
  refine lv_iinc (v := 2) (lv' := [(3, .int 2), (2, .int 0), (0, .ref q0), (1, .int 0)]) hx hb dX12_chainOf_22 hl (k := 1) rfl (by decide +kernel) (by decide) rfl (fun ls hl => ?_)
  refine lv_goto (tgt := 4) hx hb dX12_chainOf_25 (by decide) ?_
  refine lv_iload_n hx hb dX12_chainOf_4 rfl (lv_at hl 0 rfl) ?_
  refine lv_bipush (v := 8) hx hb dX12_chainOf_5 (by decide) ?_
  refine lv_icmp_ge (tgt := 28) hx hb dX12_chainOf_7 (by decide) (fun h => absurd h (by decide)) (fun _ => ?_)
  refine lv_sipush (v := 131) hx hb dX12_chainOf_10 (by decide) ?_
  refine lv_iload_n hx hb dX12_chainOf_13 rfl (lv_at hl 1 rfl) ?_
  refine lv_imul hx hb dX12_chainOf_14 ?_
  refine z_i (v := 0) (by decide +kernel) ?_
  refine lv_aload_n hx hb dX12_chainOf_15 rfl (lv_at hl 2 rfl) ?_
  refine lv_iload_n hx hb dX12_chainOf_16 rfl (lv_at hl 3 rfl) ?_
  refine lv_iload_n hx hb dX12_chainOf_17 rfl (lv_at hl 0 rfl) ?_
  refine lv_iadd hx hb dX12_chainOf_18 ?_
  refine z_i (v := 2) (by decide +kernel) ?_
  refine r_iald C w 0 rfl (IX.of (k := 2) (by decide +kernel)) (v := 0) rfl dX12_chainOf_19 ?_
  refine lv_iadd hx hb dX12_chainOf_20 ?_
  refine z_i (v := 0) (by decide +kernel) ?_
  refine lv_istore_n (lv' := [(2, .int 0), (3, .int 2), (0, .ref q0), (1, .int 0)]) hx hb dX12_chainOf_21 rfl hl (by decide) rfl (fun ls hl => ?_)
  refine lv_iinc (v := 3) (lv' := [(3, .int 3), (2, .int 0), (0, .ref q0), (1, .int 0)]) hx hb dX12_chainOf_22 hl (k := 1) rfl (by decide +kernel) (by decide) rfl (fun ls hl => ?_)
  refine lv_goto (tgt := 4) hx hb dX12_chainOf_25 (by decide) ?_
  refine lv_iload_n hx hb dX12_chainOf_4 rfl (lv_at hl 0 rfl) ?_
  refine lv_bipush (v := 8) hx hb dX12_chainOf_5 (by decide) ?_
  refine lv_icmp_ge (tgt := 28) hx hb dX12_chainOf_7 (by decide) (fun h => absurd h (by decide)) (fun _ => ?_)
  refine lv_sipush (v := 131) hx hb dX12_chainOf_10 (by decide) ?_
  refine lv_iload_n hx hb dX12_chainOf_13 rfl (lv_at hl 1 rfl) ?_
  refine lv_imul hx hb dX12_chainOf_14 ?_
  refine z_i (v := 0) (by decide +kernel) ?_
  refine lv_aload_n hx hb dX12_chainOf_15 rfl (lv_at hl 2 rfl) ?_
  refine lv_iload_n hx hb dX12_chainOf_16 rfl (lv_at hl 3 rfl) ?_
  refine lv_iload_n hx hb dX12_chainOf_17 rfl (lv_at hl 0 rfl) ?_
  refine lv_iadd hx hb dX12_chainOf_18 ?_
  refine z_i (v := 3) (by decide +kernel) ?_
  refine r_iald C w 0 rfl (IX.of (k := 3) (by decide +kernel)) (v := 0) rfl dX12_chainOf_19 ?_
  refine lv_iadd hx hb dX12_chainOf_20 ?_
  refine z_i (v := 0) (by decide +kernel) ?_
  refine lv_istore_n (lv' := [(2, .int 0), (3, .int 3), (0, .ref q0), (1, .int 0)]) hx hb dX12_chainOf_21 rfl hl (by decide) rfl (fun ls hl => ?_)
  refine lv_iinc (v := 4) (lv' := [(3, .int 4), (2, .int 0), (0, .ref q0), (1, .int 0)]) hx hb dX12_chainOf_22 hl (k := 1) rfl (by decide +kernel) (by decide) rfl (fun ls hl => ?_)
  refine lv_goto (tgt := 4) hx hb dX12_chainOf_25 (by decide) ?_
  refine lv_iload_n hx hb dX12_chainOf_4 rfl (lv_at hl 0 rfl) ?_
  refine lv_bipush (v := 8) hx hb dX12_chainOf_5 (by decide) ?_
  refine lv_icmp_ge (tgt := 28) hx hb dX12_chainOf_7 (by decide) (fun h => absurd h (by decide)) (fun _ => ?_)
  refine lv_sipush (v := 131) hx hb dX12_chainOf_10 (by decide) ?_
  refine lv_iload_n hx hb dX12_chainOf_13 rfl (lv_at hl 1 rfl) ?_
  refine lv_imul hx hb dX12_chainOf_14 ?_
  refine z_i (v := 0) (by decide +kernel) ?_
  refine lv_aload_n hx hb dX12_chainOf_15 rfl (lv_at hl 2 rfl) ?_
  refine lv_iload_n hx hb dX12_chainOf_16 rfl (lv_at hl 3 rfl) ?_
  refine lv_iload_n hx hb dX12_chainOf_17 rfl (lv_at hl 0 rfl) ?_
  refine lv_iadd hx hb dX12_chainOf_18 ?_
  refine z_i (v := 4) (by decide +kernel) ?_
  refine r_iald C w 0 rfl (IX.of (k := 4) (by decide +kernel)) (v := 0) rfl dX12_chainOf_19 ?_
  refine lv_iadd hx hb dX12_chainOf_20 ?_
  refine z_i (v := 0) (by decide +kernel) ?_
  refine lv_istore_n (lv' := [(2, .int 0), (3, .int 4), (0, .ref q0), (1, .int 0)]) hx hb dX12_chainOf_21 rfl hl (by decide) rfl (fun ls hl => ?_)
  refine lv_iinc (v := 5) (lv' := [(3, .int 5), (2, .int 0), (0, .ref q0), (1, .int 0)]) hx hb dX12_chainOf_22 hl (k := 1) rfl (by decide +kernel) (by decide) rfl (fun ls hl => ?_)
  refine lv_goto (tgt := 4) hx hb dX12_chainOf_25 (by decide) ?_
  refine lv_iload_n hx hb dX12_chainOf_4 rfl (lv_at hl 0 rfl) ?_
  refine lv_bipush (v := 8) hx hb dX12_chainOf_5 (by decide) ?_
  refine lv_icmp_ge (tgt := 28) hx hb dX12_chainOf_7 (by decide) (fun h => absurd h (by decide)) (fun _ => ?_)
  refine lv_sipush (v := 131) hx hb dX12_chainOf_10 (by decide) ?_
  refine lv_iload_n hx hb dX12_chainOf_13 rfl (lv_at hl 1 rfl) ?_
  refine lv_imul hx hb dX12_chainOf_14 ?_
  refine z_i (v := 0) (by decide +kernel) ?_
  refine lv_aload_n hx hb dX12_chainOf_15 rfl (lv_at hl 2 rfl) ?_
  refine lv_iload_n hx hb dX12_chainOf_16 rfl (lv_at hl 3 rfl) ?_
  refine lv_iload_n hx hb dX12_chainOf_17 rfl (lv_at hl 0 rfl) ?_
  refine lv_iadd hx hb dX12_chainOf_18 ?_
  refine z_i (v := 5) (by decide +kernel) ?_
  refine r_iald C w 0 rfl (IX.of (k := 5) (by decide +kernel)) (v := 0) rfl dX12_chainOf_19 ?_
  refine lv_iadd hx hb dX12_chainOf_20 ?_
  refine z_i (v := 0) (by decide +kernel) ?_
  refine lv_istore_n (lv' := [(2, .int 0), (3, .int 5), (0, .ref q0), (1, .int 0)]) hx hb dX12_chainOf_21 rfl hl (by decide) rfl (fun ls hl => ?_)
  refine lv_iinc (v := 6) (lv' := [(3, .int 6), (2, .int 0), (0, .ref q0), (1, .int 0)]) hx hb dX12_chainOf_22 hl (k := 1) rfl (by decide +kernel) (by decide) rfl (fun ls hl => ?_)
  refine lv_goto (tgt := 4) hx hb dX12_chainOf_25 (by decide) ?_
  refine lv_iload_n hx hb dX12_chainOf_4 rfl (lv_at hl 0 rfl) ?_
  refine lv_bipush (v := 8) hx hb dX12_chainOf_5 (by decide) ?_
  refine lv_icmp_ge (tgt := 28) hx hb dX12_chainOf_7 (by decide) (fun h => absurd h (by decide)) (fun _ => ?_)
  refine lv_sipush (v := 131) hx hb dX12_chainOf_10 (by decide) ?_
  refine lv_iload_n hx hb dX12_chainOf_13 rfl (lv_at hl 1 rfl) ?_
  refine lv_imul hx hb dX12_chainOf_14 ?_
  refine z_i (v := 0) (by decide +kernel) ?_
  refine lv_aload_n hx hb dX12_chainOf_15 rfl (lv_at hl 2 rfl) ?_
  refine lv_iload_n hx hb dX12_chainOf_16 rfl (lv_at hl 3 rfl) ?_
  refine lv_iload_n hx hb dX12_chainOf_17 rfl (lv_at hl 0 rfl) ?_
  refine lv_iadd hx hb dX12_chainOf_18 ?_
  refine z_i (v := 6) (by decide +kernel) ?_
  refine r_iald C w 0 rfl (IX.of (k := 6) (by decide +kernel)) (v := 0) rfl dX12_chainOf_19 ?_
  refine lv_iadd hx hb dX12_chainOf_20 ?_
  refine z_i (v := 0) (by decide +kernel) ?_
  refine lv_istore_n (lv' := [(2, .int 0), (3, .int 6), (0, .ref q0), (1, .int 0)]) hx hb dX12_chainOf_21 rfl hl (by decide) rfl (fun ls hl => ?_)
  refine lv_iinc (v := 7) (lv' := [(3, .int 7), (2, .int 0), (0, .ref q0), (1, .int 0)]) hx hb dX12_chainOf_22 hl (k := 1) rfl (by decide +kernel) (by decide) rfl (fun ls hl => ?_)
  refine lv_goto (tgt := 4) hx hb dX12_chainOf_25 (by decide) ?_
  refine lv_iload_n hx hb dX12_chainOf_4 rfl (lv_at hl 0 rfl) ?_
  refine lv_bipush (v := 8) hx hb dX12_chainOf_5 (by decide) ?_
  refine lv_icmp_ge (tgt := 28) hx hb dX12_chainOf_7 (by decide) (fun h => absurd h (by decide)) (fun _ => ?_)
  refine lv_sipush (v := 131) hx hb dX12_chainOf_10 (by decide) ?_
  refine lv_iload_n hx hb dX12_chainOf_13 rfl (lv_at hl 1 rfl) ?_
  refine lv_imul hx hb dX12_chainOf_14 ?_
  refine z_i (v := 0) (by decide +kernel) ?_
  refine lv_aload_n hx hb dX12_chainOf_15 rfl (lv_at hl 2 rfl) ?_
  refine lv_iload_n hx hb dX12_chainOf_16 rfl (lv_at hl 3 rfl) ?_
  refine lv_iload_n hx hb dX12_chainOf_17 rfl (lv_at hl 0 rfl) ?_
  refine lv_iadd hx hb dX12_chainOf_18 ?_
  refine z_i (v := 7) (by decide +kernel) ?_
  refine r_iald C w 0 rfl (IX.of (k := 7) (by decide +kernel)) (v := 0) rfl dX12_chainOf_19 ?_
  refine lv_iadd hx hb dX12_chainOf_20 ?_
  refine z_i (v := 0) (by decide +kernel) ?_
  refine lv_istore_n (lv' := [(2, .int 0), (3, .int 7), (0, .ref q0), (1, .int 0)]) hx hb dX12_chainOf_21 rfl hl (by decide) rfl (fun ls hl => ?_)
  refine lv_iinc (v := 8) (lv' := [(3, .int 8), (2, .int 0), (0, .ref q0), (1, .int 0)]) hx hb dX12_chainOf_22 hl (k := 1) rfl (by decide +kernel) (by decide) rfl (fun ls hl => ?_)
  refine lv_goto (tgt := 4) hx hb dX12_chainOf_25 (by decide) ?_
  refine lv_iload_n hx hb dX12_chainOf_4 rfl (lv_at hl 0 rfl) ?_
  refine lv_bipush (v := 8) hx hb dX12_chainOf_5 (by decide) ?_
  refine lv_icmp_ge (tgt := 28) hx hb dX12_chainOf_7 (by decide) (fun _ => ?_) (fun h => absurd (by decide) h)
  refine lv_iload_n hx hb dX12_chainOf_28 rfl (lv_at hl 1 rfl) ?_
  refine lv_iload_n hx hb dX12_chainOf_29 rfl (lv_at hl 1 rfl) ?_
  refine lv_bipush (v := 15) hx hb dX12_chainOf_30 (by decide) ?_
  refine lv_iushr (v := 0) hx hb dX12_chainOf_32 (by decide +kernel) ?_
  refine lv_ixor hx hb dX12_chainOf_33 ?_
  refine z_i (v := 0) (by decide +kernel) ?_
  refine lv_sipush (v := 4095) hx hb dX12_chainOf_34 (by decide) ?_
  refine lv_iand hx hb dX12_chainOf_37 ?_
  refine z_i (v := 0) (by decide +kernel) ?_
  exact e_i C hr w (fun _ => 0) [0] rfl rfl rfl dX12_chainOf_38 (by decide) (by decide)
set_option maxRecDepth 100000 in
set_option maxHeartbeats 4000000 in
theorem k122_come {l : Launch} {s0 : State} {a0 : Array Value} {G : GT} (b0 : B0 l s0 a0 G) (q0 q1 q2 q3 q4 q5 q6 q7 q8 q9 q10 q11 q12 q13 q14 q15 q16 q17 q18 q19 q20 q21 q22 q23 q24 q25 q26 q27 q28 q29 q30 q31 q32 q33 q34 q35 q36 q37 q38 q39 q40 q41 q42 : Nat) (sz : Nat) : Ki l s0 G yX12_come cX12_come 6 (some .int) { frames := 1, cells := 0, slots := 0, locals := 23 } [.ref q0, .ref q1, .int (-1), .int (-1)] [(q0, .inr (12, [.int 0, .int 0, .int 0, .int 0, .int 0, .int 0, .int 0, .int (-1), .ref q7, .ref q8, .ref q9, .int 0, .ref q10, .ref q11, .ref q12, .ref q13, .ref q14, .ref q15, .ref q16, .int 0, .ref q1, .ref q2, .ref q17, .ref q5, .ref q6, .ref q3, .ref q4, .int 0, .int (-1), .int 0, .ref q18, .ref q19, .ref q20, .ref q21, .ref q22, .ref q23, .ref q24, .ref q25, .int 0, .ref q26, .ref q27, .ref q28, .ref q29, .ref q30, .int 0, .ref q31, .ref q32, .ref q33, .ref q34, .int 0, .ref q35, .ref q36, .ref q37, .ref q38, .int 0, .int 0, .ref q39, .ref q40, .ref q41, .ref q42])), (q1, .inl (G.2.1, 8, .inl (fun _ => 0))), (q2, .inl (G.2.1, 24008, .inl (fun _ => 0))), (q3, .inl (G.2.1, 4096, .inl (fun _ => (-1)))), (q4, .inl (G.2.1, 3000, .inl (fun _ => 0))), (q5, .inl (G.2.1, 3000, .inl (fun _ => 0))), (q6, .inl (G.2.1, 3000, .inl (fun _ => 0)))] sz 0 (fun u => [(q0, .inr (12, [.int 0, .int 0, .int 0, .int 0, .int 0, .int 0, .int 0, .int (-1), .ref q7, .ref q8, .ref q9, .int 0, .ref q10, .ref q11, .ref q12, .ref q13, .ref q14, .ref q15, .ref q16, .int 0, .ref q1, .ref q2, .ref q17, .ref q5, .ref q6, .ref q3, .ref q4, .int 1, .int (-1), .int 0, .ref q18, .ref q19, .ref q20, .ref q21, .ref q22, .ref q23, .ref q24, .ref q25, .int 0, .ref q26, .ref q27, .ref q28, .ref q29, .ref q30, .int 0, .ref q31, .ref q32, .ref q33, .ref q34, .int 0, .ref q35, .ref q36, .ref q37, .ref q38, .int 0, .int 0, .ref q39, .ref q40, .ref q41, .ref q42])), (q1, .inl (G.2.1, 8, .inl (fun _ => 0))), (q2, .inl (G.2.1, 24008, .inl (fun _ => 0))), (q3, .inl (G.2.1, 4096, .inl (upd (fun _ => (-1)) 0 0))), (q4, .inl (G.2.1, 3000, .inl (upd (fun _ => 0) 0 (-1)))), (q5, .inl (G.2.1, 3000, .inl (upd (fun _ => 0) 0 (-1)))), (q6, .inl (G.2.1, 3000, .inl (upd (fun _ => 0) 0 (-1))))]) := by
  refine Ki.of b0 (own := RX12) (nm := "come") [(0, .ref q0), (1, .ref q1), (2, .int (-1)), (3, .int (-1))] rfl rfl (by decide +kernel) (Nat.le_of_ble_eq_true rfl) rfl ?_
  intro p e s m below meth c A C hr H locs w ls hl
  have hx := C.hx
  have hb := C.hb
  refine lv_aload_n hx hb dX12_come_0 rfl (lv_at hl 0 rfl) ?_
  refine r_get C w 0 rfl fr_X12_322 rfl dX12_come_1 ?_
  refine lv_istore (lv' := [(4, .int 0), (0, .ref q0), (1, .ref q1), (2, .int (-1)), (3, .int (-1))]) hx hb dX12_come_4 hl (by decide) rfl (fun ls hl => ?_)
  refine lv_iconst (v := 0) hx hb dX12_come_6 (by decide) ?_
  refine lv_istore (lv' := [(5, .int 0), (4, .int 0), (0, .ref q0), (1, .ref q1), (2, .int (-1)), (3, .int (-1))]) hx hb dX12_come_7 hl (by decide) rfl (fun ls hl => ?_)
  refine lv_iload hx hb dX12_come_9 (lv_at hl 0 rfl) ?_
  refine lv_bipush (v := 8) hx hb dX12_come_11 (by decide) ?_
  refine lv_icmp_ge (tgt := 39) hx hb dX12_come_13 (by decide) (fun h => absurd h (by decide)) (fun _ => ?_)
  refine lv_aload_n hx hb dX12_come_16 rfl (lv_at hl 2 rfl) ?_
  refine r_get C w 0 rfl fr_X12_50 rfl dX12_come_17 ?_
  refine lv_bipush (v := 8) hx hb dX12_come_20 (by decide) ?_
  refine lv_iload hx hb dX12_come_22 (lv_at hl 1 rfl) ?_
  refine lv_imul hx hb dX12_come_24 ?_
  refine z_i (v := 0) (by decide +kernel) ?_
  refine lv_iload hx hb dX12_come_25 (lv_at hl 0 rfl) ?_
  refine lv_iadd hx hb dX12_come_27 ?_
  refine z_i (v := 0) (by decide +kernel) ?_
  refine lv_aload_n hx hb dX12_come_28 rfl (lv_at hl 3 rfl) ?_
  refine lv_iload hx hb dX12_come_29 (lv_at hl 0 rfl) ?_
  refine r_iald C w 1 rfl (IX.of (k := 0) (by decide +kernel)) (v := 0) rfl dX12_come_31 ?_
  refine r_iast C w 2 rfl (IX.of (k := 0) (by decide +kernel)) (g := (fun _ => 0)) (upd_c _ _) dX12_come_32 (ws2 := [(q0, .inr (12, [.int 0, .int 0, .int 0, .int 0, .int 0, .int 0, .int 0, .int (-1), .ref q7, .ref q8, .ref q9, .int 0, .ref q10, .ref q11, .ref q12, .ref q13, .ref q14, .ref q15, .ref q16, .int 0, .ref q1, .ref q2, .ref q17, .ref q5, .ref q6, .ref q3, .ref q4, .int 0, .int (-1), .int 0, .ref q18, .ref q19, .ref q20, .ref q21, .ref q22, .ref q23, .ref q24, .ref q25, .int 0, .ref q26, .ref q27, .ref q28, .ref q29, .ref q30, .int 0, .ref q31, .ref q32, .ref q33, .ref q34, .int 0, .ref q35, .ref q36, .ref q37, .ref q38, .int 0, .int 0, .ref q39, .ref q40, .ref q41, .ref q42])), (q1, .inl (G.2.1, 8, .inl (fun _ => 0))), (q2, .inl (G.2.1, 24008, .inl (fun _ => 0))), (q3, .inl (G.2.1, 4096, .inl (fun _ => (-1)))), (q4, .inl (G.2.1, 3000, .inl (fun _ => 0))), (q5, .inl (G.2.1, 3000, .inl (fun _ => 0))), (q6, .inl (G.2.1, 3000, .inl (fun _ => 0)))]) rfl (fun H locs w => ?_)
  refine lv_iinc (v := 1) (lv' := [(5, .int 1), (4, .int 0), (0, .ref q0), (1, .ref q1), (2, .int (-1)), (3, .int (-1))]) hx hb dX12_come_33 hl (k := 0) rfl (by decide +kernel) (by decide) rfl (fun ls hl => ?_)
  refine lv_goto (tgt := 9) hx hb dX12_come_36 (by decide) ?_
  refine lv_iload hx hb dX12_come_9 (lv_at hl 0 rfl) ?_
  refine lv_bipush (v := 8) hx hb dX12_come_11 (by decide) ?_
  refine lv_icmp_ge (tgt := 39) hx hb dX12_come_13 (by decide) (fun h => absurd h (by decide)) (fun _ => ?_)
  refine lv_aload_n hx hb dX12_come_16 rfl (lv_at hl 2 rfl) ?_
  refine r_get C w 0 rfl fr_X12_50 rfl dX12_come_17 ?_
  refine lv_bipush (v := 8) hx hb dX12_come_20 (by decide) ?_
  refine lv_iload hx hb dX12_come_22 (lv_at hl 1 rfl) ?_
  refine lv_imul hx hb dX12_come_24 ?_
  refine z_i (v := 0) (by decide +kernel) ?_
  refine lv_iload hx hb dX12_come_25 (lv_at hl 0 rfl) ?_
  refine lv_iadd hx hb dX12_come_27 ?_
  refine z_i (v := 1) (by decide +kernel) ?_
  refine lv_aload_n hx hb dX12_come_28 rfl (lv_at hl 3 rfl) ?_
  refine lv_iload hx hb dX12_come_29 (lv_at hl 0 rfl) ?_
  refine r_iald C w 1 rfl (IX.of (k := 1) (by decide +kernel)) (v := 0) rfl dX12_come_31 ?_
  refine r_iast C w 2 rfl (IX.of (k := 1) (by decide +kernel)) (g := (fun _ => 0)) (upd_c _ _) dX12_come_32 (ws2 := [(q0, .inr (12, [.int 0, .int 0, .int 0, .int 0, .int 0, .int 0, .int 0, .int (-1), .ref q7, .ref q8, .ref q9, .int 0, .ref q10, .ref q11, .ref q12, .ref q13, .ref q14, .ref q15, .ref q16, .int 0, .ref q1, .ref q2, .ref q17, .ref q5, .ref q6, .ref q3, .ref q4, .int 0, .int (-1), .int 0, .ref q18, .ref q19, .ref q20, .ref q21, .ref q22, .ref q23, .ref q24, .ref q25, .int 0, .ref q26, .ref q27, .ref q28, .ref q29, .ref q30, .int 0, .ref q31, .ref q32, .ref q33, .ref q34, .int 0, .ref q35, .ref q36, .ref q37, .ref q38, .int 0, .int 0, .ref q39, .ref q40, .ref q41, .ref q42])), (q1, .inl (G.2.1, 8, .inl (fun _ => 0))), (q2, .inl (G.2.1, 24008, .inl (fun _ => 0))), (q3, .inl (G.2.1, 4096, .inl (fun _ => (-1)))), (q4, .inl (G.2.1, 3000, .inl (fun _ => 0))), (q5, .inl (G.2.1, 3000, .inl (fun _ => 0))), (q6, .inl (G.2.1, 3000, .inl (fun _ => 0)))]) rfl (fun H locs w => ?_)
  refine lv_iinc (v := 2) (lv' := [(5, .int 2), (4, .int 0), (0, .ref q0), (1, .ref q1), (2, .int (-1)), (3, .int (-1))]) hx hb dX12_come_33 hl (k := 0) rfl (by decide +kernel) (by decide) rfl (fun ls hl => ?_)
  refine lv_goto (tgt := 9) hx hb dX12_come_36 (by decide) ?_
  refine lv_iload hx hb dX12_come_9 (lv_at hl 0 rfl) ?_
  refine lv_bipush (v := 8) hx hb dX12_come_11 (by decide) ?_
  refine lv_icmp_ge (tgt := 39) hx hb dX12_come_13 (by decide) (fun h => absurd h (by decide)) (fun _ => ?_)
  refine lv_aload_n hx hb dX12_come_16 rfl (lv_at hl 2 rfl) ?_
  refine r_get C w 0 rfl fr_X12_50 rfl dX12_come_17 ?_
  refine lv_bipush (v := 8) hx hb dX12_come_20 (by decide) ?_
  refine lv_iload hx hb dX12_come_22 (lv_at hl 1 rfl) ?_
  refine lv_imul hx hb dX12_come_24 ?_
  refine z_i (v := 0) (by decide +kernel) ?_
  refine lv_iload hx hb dX12_come_25 (lv_at hl 0 rfl) ?_
  refine lv_iadd hx hb dX12_come_27 ?_
  refine z_i (v := 2) (by decide +kernel) ?_
  refine lv_aload_n hx hb dX12_come_28 rfl (lv_at hl 3 rfl) ?_
  refine lv_iload hx hb dX12_come_29 (lv_at hl 0 rfl) ?_
  refine r_iald C w 1 rfl (IX.of (k := 2) (by decide +kernel)) (v := 0) rfl dX12_come_31 ?_
  refine r_iast C w 2 rfl (IX.of (k := 2) (by decide +kernel)) (g := (fun _ => 0)) (upd_c _ _) dX12_come_32 (ws2 := [(q0, .inr (12, [.int 0, .int 0, .int 0, .int 0, .int 0, .int 0, .int 0, .int (-1), .ref q7, .ref q8, .ref q9, .int 0, .ref q10, .ref q11, .ref q12, .ref q13, .ref q14, .ref q15, .ref q16, .int 0, .ref q1, .ref q2, .ref q17, .ref q5, .ref q6, .ref q3, .ref q4, .int 0, .int (-1), .int 0, .ref q18, .ref q19, .ref q20, .ref q21, .ref q22, .ref q23, .ref q24, .ref q25, .int 0, .ref q26, .ref q27, .ref q28, .ref q29, .ref q30, .int 0, .ref q31, .ref q32, .ref q33, .ref q34, .int 0, .ref q35, .ref q36, .ref q37, .ref q38, .int 0, .int 0, .ref q39, .ref q40, .ref q41, .ref q42])), (q1, .inl (G.2.1, 8, .inl (fun _ => 0))), (q2, .inl (G.2.1, 24008, .inl (fun _ => 0))), (q3, .inl (G.2.1, 4096, .inl (fun _ => (-1)))), (q4, .inl (G.2.1, 3000, .inl (fun _ => 0))), (q5, .inl (G.2.1, 3000, .inl (fun _ => 0))), (q6, .inl (G.2.1, 3000, .inl (fun _ => 0)))]) rfl (fun H locs w => ?_)
  refine lv_iinc (v := 3) (lv' := [(5, .int 3), (4, .int 0), (0, .ref q0), (1, .ref q1), (2, .int (-1)), (3, .int (-1))]) hx hb dX12_come_33 hl (k := 0) rfl (by decide +kernel) (by decide) rfl (fun ls hl => ?_)
  refine lv_goto (tgt := 9) hx hb dX12_come_36 (by decide) ?_
  refine lv_iload hx hb dX12_come_9 (lv_at hl 0 rfl) ?_
  refine lv_bipush (v := 8) hx hb dX12_come_11 (by decide) ?_
  refine lv_icmp_ge (tgt := 39) hx hb dX12_come_13 (by decide) (fun h => absurd h (by decide)) (fun _ => ?_)
  refine lv_aload_n hx hb dX12_come_16 rfl (lv_at hl 2 rfl) ?_
  refine r_get C w 0 rfl fr_X12_50 rfl dX12_come_17 ?_
  refine lv_bipush (v := 8) hx hb dX12_come_20 (by decide) ?_
  refine lv_iload hx hb dX12_come_22 (lv_at hl 1 rfl) ?_
  refine lv_imul hx hb dX12_come_24 ?_
  refine z_i (v := 0) (by decide +kernel) ?_
  refine lv_iload hx hb dX12_come_25 (lv_at hl 0 rfl) ?_
  refine lv_iadd hx hb dX12_come_27 ?_
  refine z_i (v := 3) (by decide +kernel) ?_
  refine lv_aload_n hx hb dX12_come_28 rfl (lv_at hl 3 rfl) ?_
  refine lv_iload hx hb dX12_come_29 (lv_at hl 0 rfl) ?_
  refine r_iald C w 1 rfl (IX.of (k := 3) (by decide +kernel)) (v := 0) rfl dX12_come_31 ?_
  refine r_iast C w 2 rfl (IX.of (k := 3) (by decide +kernel)) (g := (fun _ => 0)) (upd_c _ _) dX12_come_32 (ws2 := [(q0, .inr (12, [.int 0, .int 0, .int 0, .int 0, .int 0, .int 0, .int 0, .int (-1), .ref q7, .ref q8, .ref q9, .int 0, .ref q10, .ref q11, .ref q12, .ref q13, .ref q14, .ref q15, .ref q16, .int 0, .ref q1, .ref q2, .ref q17, .ref q5, .ref q6, .ref q3, .ref q4, .int 0, .int (-1), .int 0, .ref q18, .ref q19, .ref q20, .ref q21, .ref q22, .ref q23, .ref q24, .ref q25, .int 0, .ref q26, .ref q27, .ref q28, .ref q29, .ref q30, .int 0, .ref q31, .ref q32, .ref q33, .ref q34, .int 0, .ref q35, .ref q36, .ref q37, .ref q38, .int 0, .int 0, .ref q39, .ref q40, .ref q41, .ref q42])), (q1, .inl (G.2.1, 8, .inl (fun _ => 0))), (q2, .inl (G.2.1, 24008, .inl (fun _ => 0))), (q3, .inl (G.2.1, 4096, .inl (fun _ => (-1)))), (q4, .inl (G.2.1, 3000, .inl (fun _ => 0))), (q5, .inl (G.2.1, 3000, .inl (fun _ => 0))), (q6, .inl (G.2.1, 3000, .inl (fun _ => 0)))]) rfl (fun H locs w => ?_)
  refine lv_iinc (v := 4) (lv' := [(5, .int 4), (4, .int 0), (0, .ref q0), (1, .ref q1), (2, .int (-1)), (3, .int (-1))]) hx hb dX12_come_33 hl (k := 0) rfl (by decide +kernel) (by decide) rfl (fun ls hl => ?_)
  refine lv_goto (tgt := 9) hx hb dX12_come_36 (by decide) ?_
  refine lv_iload hx hb dX12_come_9 (lv_at hl 0 rfl) ?_
  refine lv_bipush (v := 8) hx hb dX12_come_11 (by decide) ?_
  refine lv_icmp_ge (tgt := 39) hx hb dX12_come_13 (by decide) (fun h => absurd h (by decide)) (fun _ => ?_)
  refine lv_aload_n hx hb dX12_come_16 rfl (lv_at hl 2 rfl) ?_
  refine r_get C w 0 rfl fr_X12_50 rfl dX12_come_17 ?_
  refine lv_bipush (v := 8) hx hb dX12_come_20 (by decide) ?_
  refine lv_iload hx hb dX12_come_22 (lv_at hl 1 rfl) ?_
  refine lv_imul hx hb dX12_come_24 ?_
  refine z_i (v := 0) (by decide +kernel) ?_
  refine lv_iload hx hb dX12_come_25 (lv_at hl 0 rfl) ?_
  refine lv_iadd hx hb dX12_come_27 ?_
  refine z_i (v := 4) (by decide +kernel) ?_
  refine lv_aload_n hx hb dX12_come_28 rfl (lv_at hl 3 rfl) ?_
  refine lv_iload hx hb dX12_come_29 (lv_at hl 0 rfl) ?_
  refine r_iald C w 1 rfl (IX.of (k := 4) (by decide +kernel)) (v := 0) rfl dX12_come_31 ?_
  refine r_iast C w 2 rfl (IX.of (k := 4) (by decide +kernel)) (g := (fun _ => 0)) (upd_c _ _) dX12_come_32 (ws2 := [(q0, .inr (12, [.int 0, .int 0, .int 0, .int 0, .int 0, .int 0, .int 0, .int (-1), .ref q7, .ref q8, .ref q9, .int 0, .ref q10, .ref q11, .ref q12, .ref q13, .ref q14, .ref q15, .ref q16, .int 0, .ref q1, .ref q2, .ref q17, .ref q5, .ref q6, .ref q3, .ref q4, .int 0, .int (-1), .int 0, .ref q18, .ref q19, .ref q20, .ref q21, .ref q22, .ref q23, .ref q24, .ref q25, .int 0, .ref q26, .ref q27, .ref q28, .ref q29, .ref q30, .int 0, .ref q31, .ref q32, .ref q33, .ref q34, .int 0, .ref q35, .ref q36, .ref q37, .ref q38, .int 0, .int 0, .ref q39, .ref q40, .ref q41, .ref q42])), (q1, .inl (G.2.1, 8, .inl (fun _ => 0))), (q2, .inl (G.2.1, 24008, .inl (fun _ => 0))), (q3, .inl (G.2.1, 4096, .inl (fun _ => (-1)))), (q4, .inl (G.2.1, 3000, .inl (fun _ => 0))), (q5, .inl (G.2.1, 3000, .inl (fun _ => 0))), (q6, .inl (G.2.1, 3000, .inl (fun _ => 0)))]) rfl (fun H locs w => ?_)
  refine lv_iinc (v := 5) (lv' := [(5, .int 5), (4, .int 0), (0, .ref q0), (1, .ref q1), (2, .int (-1)), (3, .int (-1))]) hx hb dX12_come_33 hl (k := 0) rfl (by decide +kernel) (by decide) rfl (fun ls hl => ?_)
  refine lv_goto (tgt := 9) hx hb dX12_come_36 (by decide) ?_
  refine lv_iload hx hb dX12_come_9 (lv_at hl 0 rfl) ?_
  refine lv_bipush (v := 8) hx hb dX12_come_11 (by decide) ?_
  refine lv_icmp_ge (tgt := 39) hx hb dX12_come_13 (by decide) (fun h => absurd h (by decide)) (fun _ => ?_)
  refine lv_aload_n hx hb dX12_come_16 rfl (lv_at hl 2 rfl) ?_
  refine r_get C w 0 rfl fr_X12_50 rfl dX12_come_17 ?_
  refine lv_bipush (v := 8) hx hb dX12_come_20 (by decide) ?_
  refine lv_iload hx hb dX12_come_22 (lv_at hl 1 rfl) ?_
  refine lv_imul hx hb dX12_come_24 ?_
  refine z_i (v := 0) (by decide +kernel) ?_
  refine lv_iload hx hb dX12_come_25 (lv_at hl 0 rfl) ?_
  refine lv_iadd hx hb dX12_come_27 ?_
  refine z_i (v := 5) (by decide +kernel) ?_
  refine lv_aload_n hx hb dX12_come_28 rfl (lv_at hl 3 rfl) ?_
  refine lv_iload hx hb dX12_come_29 (lv_at hl 0 rfl) ?_
  refine r_iald C w 1 rfl (IX.of (k := 5) (by decide +kernel)) (v := 0) rfl dX12_come_31 ?_
  refine r_iast C w 2 rfl (IX.of (k := 5) (by decide +kernel)) (g := (fun _ => 0)) (upd_c _ _) dX12_come_32 (ws2 := [(q0, .inr (12, [.int 0, .int 0, .int 0, .int 0, .int 0, .int 0, .int 0, .int (-1), .ref q7, .ref q8, .ref q9, .int 0, .ref q10, .ref q11, .ref q12, .ref q13, .ref q14, .ref q15, .ref q16, .int 0, .ref q1, .ref q2, .ref q17, .ref q5, .ref q6, .ref q3, .ref q4, .int 0, .int (-1), .int 0, .ref q18, .ref q19, .ref q20, .ref q21, .ref q22, .ref q23, .ref q24, .ref q25, .int 0, .ref q26, .ref q27, .ref q28, .ref q29, .ref q30, .int 0, .ref q31, .ref q32, .ref q33, .ref q34, .int 0, .ref q35, .ref q36, .ref q37, .ref q38, .int 0, .int 0, .ref q39, .ref q40, .ref q41, .ref q42])), (q1, .inl (G.2.1, 8, .inl (fun _ => 0))), (q2, .inl (G.2.1, 24008, .inl (fun _ => 0))), (q3, .inl (G.2.1, 4096, .inl (fun _ => (-1)))), (q4, .inl (G.2.1, 3000, .inl (fun _ => 0))), (q5, .inl (G.2.1, 3000, .inl (fun _ => 0))), (q6, .inl (G.2.1, 3000, .inl (fun _ => 0)))]) rfl (fun H locs w => ?_)
  refine lv_iinc (v := 6) (lv' := [(5, .int 6), (4, .int 0), (0, .ref q0), (1, .ref q1), (2, .int (-1)), (3, .int (-1))]) hx hb dX12_come_33 hl (k := 0) rfl (by decide +kernel) (by decide) rfl (fun ls hl => ?_)
  refine lv_goto (tgt := 9) hx hb dX12_come_36 (by decide) ?_
  refine lv_iload hx hb dX12_come_9 (lv_at hl 0 rfl) ?_
  refine lv_bipush (v := 8) hx hb dX12_come_11 (by decide) ?_
  refine lv_icmp_ge (tgt := 39) hx hb dX12_come_13 (by decide) (fun h => absurd h (by decide)) (fun _ => ?_)
  refine lv_aload_n hx hb dX12_come_16 rfl (lv_at hl 2 rfl) ?_
  refine r_get C w 0 rfl fr_X12_50 rfl dX12_come_17 ?_
  refine lv_bipush (v := 8) hx hb dX12_come_20 (by decide) ?_
  refine lv_iload hx hb dX12_come_22 (lv_at hl 1 rfl) ?_
  refine lv_imul hx hb dX12_come_24 ?_
  refine z_i (v := 0) (by decide +kernel) ?_
  refine lv_iload hx hb dX12_come_25 (lv_at hl 0 rfl) ?_
  refine lv_iadd hx hb dX12_come_27 ?_
  refine z_i (v := 6) (by decide +kernel) ?_
  refine lv_aload_n hx hb dX12_come_28 rfl (lv_at hl 3 rfl) ?_
  refine lv_iload hx hb dX12_come_29 (lv_at hl 0 rfl) ?_
  refine r_iald C w 1 rfl (IX.of (k := 6) (by decide +kernel)) (v := 0) rfl dX12_come_31 ?_
  refine r_iast C w 2 rfl (IX.of (k := 6) (by decide +kernel)) (g := (fun _ => 0)) (upd_c _ _) dX12_come_32 (ws2 := [(q0, .inr (12, [.int 0, .int 0, .int 0, .int 0, .int 0, .int 0, .int 0, .int (-1), .ref q7, .ref q8, .ref q9, .int 0, .ref q10, .ref q11, .ref q12, .ref q13, .ref q14, .ref q15, .ref q16, .int 0, .ref q1, .ref q2, .ref q17, .ref q5, .ref q6, .ref q3, .ref q4, .int 0, .int (-1), .int 0, .ref q18, .ref q19, .ref q20, .ref q21, .ref q22, .ref q23, .ref q24, .ref q25, .int 0, .ref q26, .ref q27, .ref q28, .ref q29, .ref q30, .int 0, .ref q31, .ref q32, .ref q33, .ref q34, .int 0, .ref q35, .ref q36, .ref q37, .ref q38, .int 0, .int 0, .ref q39, .ref q40, .ref q41, .ref q42])), (q1, .inl (G.2.1, 8, .inl (fun _ => 0))), (q2, .inl (G.2.1, 24008, .inl (fun _ => 0))), (q3, .inl (G.2.1, 4096, .inl (fun _ => (-1)))), (q4, .inl (G.2.1, 3000, .inl (fun _ => 0))), (q5, .inl (G.2.1, 3000, .inl (fun _ => 0))), (q6, .inl (G.2.1, 3000, .inl (fun _ => 0)))]) rfl (fun H locs w => ?_)
  refine lv_iinc (v := 7) (lv' := [(5, .int 7), (4, .int 0), (0, .ref q0), (1, .ref q1), (2, .int (-1)), (3, .int (-1))]) hx hb dX12_come_33 hl (k := 0) rfl (by decide +kernel) (by decide) rfl (fun ls hl => ?_)
  refine lv_goto (tgt := 9) hx hb dX12_come_36 (by decide) ?_
  refine lv_iload hx hb dX12_come_9 (lv_at hl 0 rfl) ?_
  refine lv_bipush (v := 8) hx hb dX12_come_11 (by decide) ?_
  refine lv_icmp_ge (tgt := 39) hx hb dX12_come_13 (by decide) (fun h => absurd h (by decide)) (fun _ => ?_)
  refine lv_aload_n hx hb dX12_come_16 rfl (lv_at hl 2 rfl) ?_
  refine r_get C w 0 rfl fr_X12_50 rfl dX12_come_17 ?_
  refine lv_bipush (v := 8) hx hb dX12_come_20 (by decide) ?_
  refine lv_iload hx hb dX12_come_22 (lv_at hl 1 rfl) ?_
  refine lv_imul hx hb dX12_come_24 ?_
  refine z_i (v := 0) (by decide +kernel) ?_
  refine lv_iload hx hb dX12_come_25 (lv_at hl 0 rfl) ?_
  refine lv_iadd hx hb dX12_come_27 ?_
  refine z_i (v := 7) (by decide +kernel) ?_
  refine lv_aload_n hx hb dX12_come_28 rfl (lv_at hl 3 rfl) ?_
  refine lv_iload hx hb dX12_come_29 (lv_at hl 0 rfl) ?_
  refine r_iald C w 1 rfl (IX.of (k := 7) (by decide +kernel)) (v := 0) rfl dX12_come_31 ?_
  refine r_iast C w 2 rfl (IX.of (k := 7) (by decide +kernel)) (g := (fun _ => 0)) (upd_c _ _) dX12_come_32 (ws2 := [(q0, .inr (12, [.int 0, .int 0, .int 0, .int 0, .int 0, .int 0, .int 0, .int (-1), .ref q7, .ref q8, .ref q9, .int 0, .ref q10, .ref q11, .ref q12, .ref q13, .ref q14, .ref q15, .ref q16, .int 0, .ref q1, .ref q2, .ref q17, .ref q5, .ref q6, .ref q3, .ref q4, .int 0, .int (-1), .int 0, .ref q18, .ref q19, .ref q20, .ref q21, .ref q22, .ref q23, .ref q24, .ref q25, .int 0, .ref q26, .ref q27, .ref q28, .ref q29, .ref q30, .int 0, .ref q31, .ref q32, .ref q33, .ref q34, .int 0, .ref q35, .ref q36, .ref q37, .ref q38, .int 0, .int 0, .ref q39, .ref q40, .ref q41, .ref q42])), (q1, .inl (G.2.1, 8, .inl (fun _ => 0))), (q2, .inl (G.2.1, 24008, .inl (fun _ => 0))), (q3, .inl (G.2.1, 4096, .inl (fun _ => (-1)))), (q4, .inl (G.2.1, 3000, .inl (fun _ => 0))), (q5, .inl (G.2.1, 3000, .inl (fun _ => 0))), (q6, .inl (G.2.1, 3000, .inl (fun _ => 0)))]) rfl (fun H locs w => ?_)
  refine lv_iinc (v := 8) (lv' := [(5, .int 8), (4, .int 0), (0, .ref q0), (1, .ref q1), (2, .int (-1)), (3, .int (-1))]) hx hb dX12_come_33 hl (k := 0) rfl (by decide +kernel) (by decide) rfl (fun ls hl => ?_)
  refine lv_goto (tgt := 9) hx hb dX12_come_36 (by decide) ?_
  refine lv_iload hx hb dX12_come_9 (lv_at hl 0 rfl) ?_
  refine lv_bipush (v := 8) hx hb dX12_come_11 (by decide) ?_
  refine lv_icmp_ge (tgt := 39) hx hb dX12_come_13 (by decide) (fun _ => ?_) (fun h => absurd (by decide) h)
  refine lv_aload_n hx hb dX12_come_39 rfl (lv_at hl 3 rfl) ?_
  refine lv_iconst (v := 0) hx hb dX12_come_40 (by decide) ?_
  refine fin_i C w (run_S C w ms_X12_318 (k121_chainOf C.b0 q1 H.size) [1] rfl rfl (by decide) rfl hl.1 rfl (Nat.le_of_ble_eq_true rfl) dX12_come_41 (cells2 := 0) (slots2 := 0) (by decide)) [1] [0, 2, 3, 4, 5, 6] rfl rfl (by decide) (cells2 := 0) (slots2 := 0) (by decide) (fun u1 H locs w => ?_)
  have w : Wd s G A [(q0, .inr (12, [.int 0, .int 0, .int 0, .int 0, .int 0, .int 0, .int 0, .int (-1), .ref q7, .ref q8, .ref q9, .int 0, .ref q10, .ref q11, .ref q12, .ref q13, .ref q14, .ref q15, .ref q16, .int 0, .ref q1, .ref q2, .ref q17, .ref q5, .ref q6, .ref q3, .ref q4, .int 0, .int (-1), .int 0, .ref q18, .ref q19, .ref q20, .ref q21, .ref q22, .ref q23, .ref q24, .ref q25, .int 0, .ref q26, .ref q27, .ref q28, .ref q29, .ref q30, .int 0, .ref q31, .ref q32, .ref q33, .ref q34, .int 0, .ref q35, .ref q36, .ref q37, .ref q38, .int 0, .int 0, .ref q39, .ref q40, .ref q41, .ref q42])), (q2, .inl (G.2.1, 24008, .inl (fun _ => 0))), (q3, .inl (G.2.1, 4096, .inl (fun _ => (-1)))), (q4, .inl (G.2.1, 3000, .inl (fun _ => 0))), (q5, .inl (G.2.1, 3000, .inl (fun _ => 0))), (q6, .inl (G.2.1, 3000, .inl (fun _ => 0))), (q1, .inl (G.2.1, 8, .inl (fun _ => 0)))] H locs := w
  refine lv_istore (lv' := [(5, .int 0), (4, .int 0), (0, .ref q0), (1, .ref q1), (2, .int (-1)), (3, .int (-1))]) hx hb dX12_come_44 hl (by decide) rfl (fun ls hl => ?_)
  refine lv_aload_n hx hb dX12_come_46 rfl (lv_at hl 2 rfl) ?_
  refine r_get C w 0 rfl fr_X12_65 rfl dX12_come_47 ?_
  refine lv_iload hx hb dX12_come_50 (lv_at hl 1 rfl) ?_
  refine lv_aload_n hx hb dX12_come_52 rfl (lv_at hl 2 rfl) ?_
  refine r_get C w 0 rfl fr_X12_62 rfl dX12_come_53 ?_
  refine lv_iload hx hb dX12_come_56 (lv_at hl 0 rfl) ?_
  refine r_iald C w 2 rfl (IX.of (k := 0) (by decide +kernel)) (v := (-1)) rfl dX12_come_58 ?_
  refine r_iast C w 3 rfl (IX.of (k := 0) (by decide +kernel)) (g := (upd (fun _ => 0) 0 (-1))) rfl dX12_come_59 (ws2 := [(q0, .inr (12, [.int 0, .int 0, .int 0, .int 0, .int 0, .int 0, .int 0, .int (-1), .ref q7, .ref q8, .ref q9, .int 0, .ref q10, .ref q11, .ref q12, .ref q13, .ref q14, .ref q15, .ref q16, .int 0, .ref q1, .ref q2, .ref q17, .ref q5, .ref q6, .ref q3, .ref q4, .int 0, .int (-1), .int 0, .ref q18, .ref q19, .ref q20, .ref q21, .ref q22, .ref q23, .ref q24, .ref q25, .int 0, .ref q26, .ref q27, .ref q28, .ref q29, .ref q30, .int 0, .ref q31, .ref q32, .ref q33, .ref q34, .int 0, .ref q35, .ref q36, .ref q37, .ref q38, .int 0, .int 0, .ref q39, .ref q40, .ref q41, .ref q42])), (q2, .inl (G.2.1, 24008, .inl (fun _ => 0))), (q3, .inl (G.2.1, 4096, .inl (fun _ => (-1)))), (q4, .inl (G.2.1, 3000, .inl (upd (fun _ => 0) 0 (-1)))), (q5, .inl (G.2.1, 3000, .inl (fun _ => 0))), (q6, .inl (G.2.1, 3000, .inl (fun _ => 0))), (q1, .inl (G.2.1, 8, .inl (fun _ => 0)))]) rfl (fun H locs w => ?_)
  refine lv_aload_n hx hb dX12_come_60 rfl (lv_at hl 2 rfl) ?_
  refine r_get C w 0 rfl fr_X12_62 rfl dX12_come_61 ?_
  refine lv_iload hx hb dX12_come_64 (lv_at hl 0 rfl) ?_
  refine lv_iload hx hb dX12_come_66 (lv_at hl 1 rfl) ?_
  refine r_iast C w 2 rfl (IX.of (k := 0) (by decide +kernel)) (g := (upd (fun _ => (-1)) 0 0)) rfl dX12_come_68 (ws2 := [(q0, .inr (12, [.int 0, .int 0, .int 0, .int 0, .int 0, .int 0, .int 0, .int (-1), .ref q7, .ref q8, .ref q9, .int 0, .ref q10, .ref q11, .ref q12, .ref q13, .ref q14, .ref q15, .ref q16, .int 0, .ref q1, .ref q2, .ref q17, .ref q5, .ref q6, .ref q3, .ref q4, .int 0, .int (-1), .int 0, .ref q18, .ref q19, .ref q20, .ref q21, .ref q22, .ref q23, .ref q24, .ref q25, .int 0, .ref q26, .ref q27, .ref q28, .ref q29, .ref q30, .int 0, .ref q31, .ref q32, .ref q33, .ref q34, .int 0, .ref q35, .ref q36, .ref q37, .ref q38, .int 0, .int 0, .ref q39, .ref q40, .ref q41, .ref q42])), (q2, .inl (G.2.1, 24008, .inl (fun _ => 0))), (q3, .inl (G.2.1, 4096, .inl (upd (fun _ => (-1)) 0 0))), (q4, .inl (G.2.1, 3000, .inl (upd (fun _ => 0) 0 (-1)))), (q5, .inl (G.2.1, 3000, .inl (fun _ => 0))), (q6, .inl (G.2.1, 3000, .inl (fun _ => 0))), (q1, .inl (G.2.1, 8, .inl (fun _ => 0)))]) rfl (fun H locs w => ?_)
  refine lv_aload_n hx hb dX12_come_69 rfl (lv_at hl 2 rfl) ?_
  refine r_get C w 0 rfl fr_X12_56 rfl dX12_come_70 ?_
  refine lv_iload hx hb dX12_come_73 (lv_at hl 1 rfl) ?_
  refine lv_iload_n hx hb dX12_come_75 rfl (lv_at hl 4 rfl) ?_
  refine r_iast C w 4 rfl (IX.of (k := 0) (by decide +kernel)) (g := (upd (fun _ => 0) 0 (-1))) rfl dX12_come_76 (ws2 := [(q0, .inr (12, [.int 0, .int 0, .int 0, .int 0, .int 0, .int 0, .int 0, .int (-1), .ref q7, .ref q8, .ref q9, .int 0, .ref q10, .ref q11, .ref q12, .ref q13, .ref q14, .ref q15, .ref q16, .int 0, .ref q1, .ref q2, .ref q17, .ref q5, .ref q6, .ref q3, .ref q4, .int 0, .int (-1), .int 0, .ref q18, .ref q19, .ref q20, .ref q21, .ref q22, .ref q23, .ref q24, .ref q25, .int 0, .ref q26, .ref q27, .ref q28, .ref q29, .ref q30, .int 0, .ref q31, .ref q32, .ref q33, .ref q34, .int 0, .ref q35, .ref q36, .ref q37, .ref q38, .int 0, .int 0, .ref q39, .ref q40, .ref q41, .ref q42])), (q2, .inl (G.2.1, 24008, .inl (fun _ => 0))), (q3, .inl (G.2.1, 4096, .inl (upd (fun _ => (-1)) 0 0))), (q4, .inl (G.2.1, 3000, .inl (upd (fun _ => 0) 0 (-1)))), (q5, .inl (G.2.1, 3000, .inl (upd (fun _ => 0) 0 (-1)))), (q6, .inl (G.2.1, 3000, .inl (fun _ => 0))), (q1, .inl (G.2.1, 8, .inl (fun _ => 0)))]) rfl (fun H locs w => ?_)
  refine lv_aload_n hx hb dX12_come_77 rfl (lv_at hl 2 rfl) ?_
  refine r_get C w 0 rfl fr_X12_59 rfl dX12_come_78 ?_
  refine lv_iload hx hb dX12_come_81 (lv_at hl 1 rfl) ?_
  refine lv_iload_n hx hb dX12_come_83 rfl (lv_at hl 5 rfl) ?_
  refine r_iast C w 5 rfl (IX.of (k := 0) (by decide +kernel)) (g := (upd (fun _ => 0) 0 (-1))) rfl dX12_come_84 (ws2 := [(q0, .inr (12, [.int 0, .int 0, .int 0, .int 0, .int 0, .int 0, .int 0, .int (-1), .ref q7, .ref q8, .ref q9, .int 0, .ref q10, .ref q11, .ref q12, .ref q13, .ref q14, .ref q15, .ref q16, .int 0, .ref q1, .ref q2, .ref q17, .ref q5, .ref q6, .ref q3, .ref q4, .int 0, .int (-1), .int 0, .ref q18, .ref q19, .ref q20, .ref q21, .ref q22, .ref q23, .ref q24, .ref q25, .int 0, .ref q26, .ref q27, .ref q28, .ref q29, .ref q30, .int 0, .ref q31, .ref q32, .ref q33, .ref q34, .int 0, .ref q35, .ref q36, .ref q37, .ref q38, .int 0, .int 0, .ref q39, .ref q40, .ref q41, .ref q42])), (q2, .inl (G.2.1, 24008, .inl (fun _ => 0))), (q3, .inl (G.2.1, 4096, .inl (upd (fun _ => (-1)) 0 0))), (q4, .inl (G.2.1, 3000, .inl (upd (fun _ => 0) 0 (-1)))), (q5, .inl (G.2.1, 3000, .inl (upd (fun _ => 0) 0 (-1)))), (q6, .inl (G.2.1, 3000, .inl (upd (fun _ => 0) 0 (-1)))), (q1, .inl (G.2.1, 8, .inl (fun _ => 0)))]) rfl (fun H locs w => ?_)
  refine lv_aload_n hx hb dX12_come_85 rfl (lv_at hl 2 rfl) ?_
  refine lv_dup hx hb dX12_come_86 rfl ?_
  refine r_get C w 0 rfl fr_X12_322 rfl dX12_come_87 ?_
  refine lv_iconst (v := 1) hx hb dX12_come_90 (by decide) ?_
  refine lv_iadd hx hb dX12_come_91 ?_
  refine z_i (v := 1) (by decide +kernel) ?_
  refine r_put C w 0 rfl fl_X12_322 (Nat.le_of_ble_eq_true rfl) rfl rfl dX12_come_92 (ws2 := [(q0, .inr (12, [.int 0, .int 0, .int 0, .int 0, .int 0, .int 0, .int 0, .int (-1), .ref q7, .ref q8, .ref q9, .int 0, .ref q10, .ref q11, .ref q12, .ref q13, .ref q14, .ref q15, .ref q16, .int 0, .ref q1, .ref q2, .ref q17, .ref q5, .ref q6, .ref q3, .ref q4, .int 1, .int (-1), .int 0, .ref q18, .ref q19, .ref q20, .ref q21, .ref q22, .ref q23, .ref q24, .ref q25, .int 0, .ref q26, .ref q27, .ref q28, .ref q29, .ref q30, .int 0, .ref q31, .ref q32, .ref q33, .ref q34, .int 0, .ref q35, .ref q36, .ref q37, .ref q38, .int 0, .int 0, .ref q39, .ref q40, .ref q41, .ref q42])), (q2, .inl (G.2.1, 24008, .inl (fun _ => 0))), (q3, .inl (G.2.1, 4096, .inl (upd (fun _ => (-1)) 0 0))), (q4, .inl (G.2.1, 3000, .inl (upd (fun _ => 0) 0 (-1)))), (q5, .inl (G.2.1, 3000, .inl (upd (fun _ => 0) 0 (-1)))), (q6, .inl (G.2.1, 3000, .inl (upd (fun _ => 0) 0 (-1)))), (q1, .inl (G.2.1, 8, .inl (fun _ => 0)))]) rfl (fun H locs w => ?_)
  refine lv_iload hx hb dX12_come_95 (lv_at hl 1 rfl) ?_
  exact e_i C hr w (fun _ => 0) [0, 6, 1, 2, 3, 4, 5] rfl rfl rfl dX12_come_97 (by decide) (by decide)
set_option maxRecDepth 100000 in
set_option maxHeartbeats 4000000 in
theorem k123_acts {l : Launch} {s0 : State} {a0 : Array Value} {G : GT} (b0 : B0 l s0 a0 G) (q0 q1 q2 q3 q4 q5 q6 q7 q8 q9 q10 q11 q12 q13 q14 q15 q16 q17 q18 q19 q20 q21 q22 q23 q24 q25 q26 q27 q28 q29 q30 q31 q32 q33 q34 q35 q36 q37 q38 q39 q40 q41 q42 : Nat) (sz : Nat) : Ki l s0 G yX12_acts cX12_acts 1 (some .int) { frames := 0, cells := 0, slots := 0, locals := 0 } [.ref q0] [(q0, .inr (12, [.int 0, .int 0, .int 0, .int 0, .int 0, .int 0, .int 0, .int (-1), .ref q2, .ref q1, .ref q3, .int 0, .ref q4, .ref q5, .ref q6, .ref q7, .ref q8, .ref q9, .ref q10, .int 0, .ref q11, .ref q12, .ref q13, .ref q14, .ref q15, .ref q16, .ref q17, .int 1, .int (-1), .int 0, .ref q18, .ref q19, .ref q20, .ref q21, .ref q22, .ref q23, .ref q24, .ref q25, .int 0, .ref q26, .ref q27, .ref q28, .ref q29, .ref q30, .int 0, .ref q31, .ref q32, .ref q33, .ref q34, .int 0, .ref q35, .ref q36, .ref q37, .ref q38, .int 0, .int 0, .ref q39, .ref q40, .ref q41, .ref q42])), (q1, .inl (G.2.1, 242, .inl (fun _ => 0)))] sz 0 (fun u => [(q0, .inr (12, [.int 0, .int 0, .int 0, .int 0, .int 0, .int 0, .int 0, .int (-1), .ref q2, .ref q1, .ref q3, .int 0, .ref q4, .ref q5, .ref q6, .ref q7, .ref q8, .ref q9, .ref q10, .int 0, .ref q11, .ref q12, .ref q13, .ref q14, .ref q15, .ref q16, .ref q17, .int 1, .int (-1), .int 0, .ref q18, .ref q19, .ref q20, .ref q21, .ref q22, .ref q23, .ref q24, .ref q25, .int 0, .ref q26, .ref q27, .ref q28, .ref q29, .ref q30, .int 0, .ref q31, .ref q32, .ref q33, .ref q34, .int 0, .ref q35, .ref q36, .ref q37, .ref q38, .int 0, .int 0, .ref q39, .ref q40, .ref q41, .ref q42])), (q1, .inl (G.2.1, 242, .inl (fun _ => 0)))]) := by
  refine Ki.of b0 (own := RX12) (nm := "acts") [(0, .ref q0)] rfl rfl (by decide +kernel) (Nat.le_of_ble_eq_true rfl) rfl ?_
  intro p e s m below meth c A C hr H locs w ls hl
  have hx := C.hx
  have hb := C.hb
  refine lv_aload_n hx hb dX12_acts_0 rfl (lv_at hl 0 rfl) ?_
  refine r_get C w 0 rfl fr_X12_20 rfl dX12_acts_1 ?_
  refine lv_iconst (v := 1) hx hb dX12_acts_4 (by decide) ?_
  refine r_iald C w 1 rfl (IX.of (k := 1) (by decide +kernel)) (v := 0) rfl dX12_acts_5 ?_
  exact e_i C hr w (fun _ => 0) [0, 1] rfl rfl rfl dX12_acts_6 (by decide) (by decide)
set_option maxRecDepth 100000 in
set_option maxHeartbeats 4000000 in
theorem k124_explores {l : Launch} {s0 : State} {a0 : Array Value} {G : GT} (b0 : B0 l s0 a0 G) (q0 q1 q2 q3 q4 q5 q6 q7 q8 q9 q10 q11 q12 q13 q14 q15 q16 q17 q18 q19 q20 q21 q22 q23 q24 q25 q26 q27 q28 q29 q30 q31 q32 q33 q34 q35 q36 q37 q38 q39 q40 q41 q42 : Nat) (x0 : Int32) (sz : Nat) : Kv l s0 G yX12_explores cX12_explores 5 none { frames := 2, cells := 0, slots := 0, locals := 48 } [.ref q0, .int x0] [(q0, .inr (12, [.int 0, .int 0, .int 0, .int 0, .int 0, .int 0, .int 0, .int (-1), .ref q9, .ref q8, .ref q10, .int 0, .ref q11, .ref q12, .ref q13, .ref q14, .ref q15, .ref q2, .ref q16, .int 0, .ref q3, .ref q4, .ref q17, .ref q6, .ref q7, .ref q1, .ref q5, .int 0, .int (-1), .int 0, .ref q18, .ref q19, .ref q20, .ref q21, .ref q22, .ref q23, .ref q24, .ref q25, .int 0, .ref q26, .ref q27, .ref q28, .ref q29, .ref q30, .int 0, .ref q31, .ref q32, .ref q33, .ref q34, .int 0, .ref q35, .ref q36, .ref q37, .ref q38, .int 0, .int 0, .ref q39, .ref q40, .ref q41, .ref q42])), (q1, .inl (G.2.1, 4096, .inl (fun _ => 0))), (q2, .inl (G.2.1, 57, .inl (fun _ => 0))), (q3, .inl (G.2.1, 8, .inl (fun _ => 0))), (q4, .inl (G.2.1, 24008, .inl (fun _ => 0))), (q5, .inl (G.2.1, 3000, .inl (fun _ => 0))), (q6, .inl (G.2.1, 3000, .inl (fun _ => 0))), (q7, .inl (G.2.1, 3000, .inl (fun _ => 0))), (q8, .inl (G.2.1, 242, .inl (fun _ => 0)))] sz (fun u => [(q0, .inr (12, [.int 0, .int 0, .int 0, .int 0, .int 0, .int 0, .int 0, .int (-1), .ref q9, .ref q8, .ref q10, .int 0, .ref q11, .ref q12, .ref q13, .ref q14, .ref q15, .ref q2, .ref q16, .int 0, .ref q3, .ref q4, .ref q17, .ref q6, .ref q7, .ref q1, .ref q5, .int 1, .int (-1), .int 0, .ref q18, .ref q19, .ref q20, .ref q21, .ref q22, .ref q23, .ref q24, .ref q25, .int 0, .ref q26, .ref q27, .ref q28, .ref q29, .ref q30, .int 0, .ref q31, .ref q32, .ref q33, .ref q34, .int 0, .ref q35, .ref q36, .ref q37, .ref q38, .int 0, .int 0, .ref q39, .ref q40, .ref q41, .ref q42])), (q1, .inl (G.2.1, 4096, .inl (upd (fun _ => (-1)) 0 0))), (q2, .inl (G.2.1, 57, .inl (fun _ => 0))), (q3, .inl (G.2.1, 8, .inl (fun _ => 0))), (q4, .inl (G.2.1, 24008, .inl (fun _ => 0))), (q5, .inl (G.2.1, 3000, .inl (upd (fun _ => 0) 0 (-1)))), (q6, .inl (G.2.1, 3000, .inl (upd (fun _ => 0) 0 (-1)))), (q7, .inl (G.2.1, 3000, .inl (upd (fun _ => 0) 0 (-1)))), (q8, .inl (G.2.1, 242, .inl (fun _ => 0)))]) := by
  refine Kv.of b0 (own := RX12) (nm := "explores") [(0, .ref q0), (1, .int x0)] rfl rfl (by decide +kernel) (Nat.le_of_ble_eq_true rfl) rfl ?_
  intro p e s m below meth c A C hr H locs w ls hl
  have hx := C.hx
  have hb := C.hb
  refine lv_iconst (v := 0) hx hb dX12_explores_0 (by decide) ?_
  refine lv_istore_n (lv' := [(2, .int 0), (0, .ref q0), (1, .int x0)]) hx hb dX12_explores_1 rfl hl (by decide) rfl (fun ls hl => ?_)
  refine lp_fill (h := 2) (N := 4096) (Nv := 4096) (cv := (-1)) (lvr := [(0, .ref q0), (1, .int x0)]) (qo := 0) (qa := 1) C w (lv_sub hl [0, 1, 2] rfl) (by decide) (by decide +kernel) (by decide +kernel) (by decide +kernel) dX12_explores_2 dX12_explores_3 dX12_explores_6 dX12_explores_9 dX12_explores_10 dX12_explores_13 dX12_explores_14 dX12_explores_15 dX12_explores_16 dX12_explores_19 fr_X12_62 rfl rfl rfl (by decide) rfl rfl (by decide) (fun H locs ls w hl => ?_)
  have w : Wd s G A [(q0, .inr (12, [.int 0, .int 0, .int 0, .int 0, .int 0, .int 0, .int 0, .int (-1), .ref q9, .ref q8, .ref q10, .int 0, .ref q11, .ref q12, .ref q13, .ref q14, .ref q15, .ref q2, .ref q16, .int 0, .ref q3, .ref q4, .ref q17, .ref q6, .ref q7, .ref q1, .ref q5, .int 0, .int (-1), .int 0, .ref q18, .ref q19, .ref q20, .ref q21, .ref q22, .ref q23, .ref q24, .ref q25, .int 0, .ref q26, .ref q27, .ref q28, .ref q29, .ref q30, .int 0, .ref q31, .ref q32, .ref q33, .ref q34, .int 0, .ref q35, .ref q36, .ref q37, .ref q38, .int 0, .int 0, .ref q39, .ref q40, .ref q41, .ref q42])), (q1, .inl (G.2.1, 4096, .inl (fun _ => (-1)))), (q2, .inl (G.2.1, 57, .inl (fun _ => 0))), (q3, .inl (G.2.1, 8, .inl (fun _ => 0))), (q4, .inl (G.2.1, 24008, .inl (fun _ => 0))), (q5, .inl (G.2.1, 3000, .inl (fun _ => 0))), (q6, .inl (G.2.1, 3000, .inl (fun _ => 0))), (q7, .inl (G.2.1, 3000, .inl (fun _ => 0))), (q8, .inl (G.2.1, 242, .inl (fun _ => 0)))] H locs := w
  refine lv_aload_n hx hb dX12_explores_22 rfl (lv_at hl 1 rfl) ?_
  refine lv_iconst (v := 0) hx hb dX12_explores_23 (by decide) ?_
  refine r_put C w 0 rfl fl_X12_322 (Nat.le_of_ble_eq_true rfl) rfl rfl dX12_explores_24 (ws2 := [(q0, .inr (12, [.int 0, .int 0, .int 0, .int 0, .int 0, .int 0, .int 0, .int (-1), .ref q9, .ref q8, .ref q10, .int 0, .ref q11, .ref q12, .ref q13, .ref q14, .ref q15, .ref q2, .ref q16, .int 0, .ref q3, .ref q4, .ref q17, .ref q6, .ref q7, .ref q1, .ref q5, .int 0, .int (-1), .int 0, .ref q18, .ref q19, .ref q20, .ref q21, .ref q22, .ref q23, .ref q24, .ref q25, .int 0, .ref q26, .ref q27, .ref q28, .ref q29, .ref q30, .int 0, .ref q31, .ref q32, .ref q33, .ref q34, .int 0, .ref q35, .ref q36, .ref q37, .ref q38, .int 0, .int 0, .ref q39, .ref q40, .ref q41, .ref q42])), (q1, .inl (G.2.1, 4096, .inl (fun _ => (-1)))), (q2, .inl (G.2.1, 57, .inl (fun _ => 0))), (q3, .inl (G.2.1, 8, .inl (fun _ => 0))), (q4, .inl (G.2.1, 24008, .inl (fun _ => 0))), (q5, .inl (G.2.1, 3000, .inl (fun _ => 0))), (q6, .inl (G.2.1, 3000, .inl (fun _ => 0))), (q7, .inl (G.2.1, 3000, .inl (fun _ => 0))), (q8, .inl (G.2.1, 242, .inl (fun _ => 0)))]) rfl (fun H locs w => ?_)
  refine lv_aload_n hx hb dX12_explores_27 rfl (lv_at hl 1 rfl) ?_
  refine lv_iconst (v := 0) hx hb dX12_explores_28 (by decide) ?_
  refine r_put C w 0 rfl fl_X12_325 (Nat.le_of_ble_eq_true rfl) rfl rfl dX12_explores_29 (ws2 := [(q0, .inr (12, [.int 0, .int 0, .int 0, .int 0, .int 0, .int 0, .int 0, .int (-1), .ref q9, .ref q8, .ref q10, .int 0, .ref q11, .ref q12, .ref q13, .ref q14, .ref q15, .ref q2, .ref q16, .int 0, .ref q3, .ref q4, .ref q17, .ref q6, .ref q7, .ref q1, .ref q5, .int 0, .int (-1), .int 0, .ref q18, .ref q19, .ref q20, .ref q21, .ref q22, .ref q23, .ref q24, .ref q25, .int 0, .ref q26, .ref q27, .ref q28, .ref q29, .ref q30, .int 0, .ref q31, .ref q32, .ref q33, .ref q34, .int 0, .ref q35, .ref q36, .ref q37, .ref q38, .int 0, .int 0, .ref q39, .ref q40, .ref q41, .ref q42])), (q1, .inl (G.2.1, 4096, .inl (fun _ => (-1)))), (q2, .inl (G.2.1, 57, .inl (fun _ => 0))), (q3, .inl (G.2.1, 8, .inl (fun _ => 0))), (q4, .inl (G.2.1, 24008, .inl (fun _ => 0))), (q5, .inl (G.2.1, 3000, .inl (fun _ => 0))), (q6, .inl (G.2.1, 3000, .inl (fun _ => 0))), (q7, .inl (G.2.1, 3000, .inl (fun _ => 0))), (q8, .inl (G.2.1, 242, .inl (fun _ => 0)))]) rfl (fun H locs w => ?_)
  refine lv_aload_n hx hb dX12_explores_32 rfl (lv_at hl 1 rfl) ?_
  refine fin_v C w (run_V C w mv_X12_315 (k89_asNow C.b0 q0 q2 q3 q9 q8 q10 q11 q12 q13 q14 q15 q16 q4 q17 q6 q7 q1 q5 q18 q19 q20 q21 q22 q23 q24 q25 q26 q27 q28 q29 q30 q31 q32 q33 q34 q35 q36 q37 q38 q39 q40 q41 q42 H.size) [0, 2, 3] rfl rfl 0 rfl rfl (by decide) rfl hl.1 rfl (Nat.le_of_ble_eq_true rfl) dX12_explores_33 (cells2 := 0) (slots2 := 0) (by decide)) [0, 2, 3] [1, 4, 5, 6, 7, 8] rfl rfl (by decide) (cells2 := 0) (slots2 := 0) (by decide) (fun u1 H locs w => ?_)
  have w : Wd s G A [(q1, .inl (G.2.1, 4096, .inl (fun _ => (-1)))), (q4, .inl (G.2.1, 24008, .inl (fun _ => 0))), (q5, .inl (G.2.1, 3000, .inl (fun _ => 0))), (q6, .inl (G.2.1, 3000, .inl (fun _ => 0))), (q7, .inl (G.2.1, 3000, .inl (fun _ => 0))), (q8, .inl (G.2.1, 242, .inl (fun _ => 0))), (q0, .inr (12, [.int 0, .int 0, .int 0, .int 0, .int 0, .int 0, .int 0, .int (-1), .ref q9, .ref q8, .ref q10, .int 0, .ref q11, .ref q12, .ref q13, .ref q14, .ref q15, .ref q2, .ref q16, .int 0, .ref q3, .ref q4, .ref q17, .ref q6, .ref q7, .ref q1, .ref q5, .int 0, .int (-1), .int 0, .ref q18, .ref q19, .ref q20, .ref q21, .ref q22, .ref q23, .ref q24, .ref q25, .int 0, .ref q26, .ref q27, .ref q28, .ref q29, .ref q30, .int 0, .ref q31, .ref q32, .ref q33, .ref q34, .int 0, .ref q35, .ref q36, .ref q37, .ref q38, .int 0, .int 0, .ref q39, .ref q40, .ref q41, .ref q42])), (q2, .inl (G.2.1, 57, .inl (fun _ => 0))), (q3, .inl (G.2.1, 8, .inl (fun _ => 0)))] H locs := w
  refine lv_aload_n hx hb dX12_explores_36 rfl (lv_at hl 1 rfl) ?_
  refine lv_aload_n hx hb dX12_explores_37 rfl (lv_at hl 1 rfl) ?_
  refine r_get C w 6 rfl fr_X12_47 rfl dX12_explores_38 ?_
  refine lv_iconst (v := (-1)) hx hb dX12_explores_41 (by decide) ?_
  refine lv_iconst (v := (-1)) hx hb dX12_explores_42 (by decide) ?_
  refine fin_i C w (run_V C w mv_X12_329 (k122_come C.b0 q0 q3 q4 q1 q5 q6 q7 q9 q8 q10 q11 q12 q13 q14 q15 q2 q16 q17 q18 q19 q20 q21 q22 q23 q24 q25 q26 q27 q28 q29 q30 q31 q32 q33 q34 q35 q36 q37 q38 q39 q40 q41 q42 H.size) [6, 8, 1, 0, 2, 3, 4] rfl rfl 6 rfl rfl (by decide) rfl hl.1 rfl (Nat.le_of_ble_eq_true rfl) dX12_explores_43 (cells2 := 0) (slots2 := 0) (by decide)) [6, 8, 1, 0, 2, 3, 4] [5, 7] rfl rfl (by decide) (cells2 := 0) (slots2 := 0) (by decide) (fun u2 H locs w => ?_)
  have w : Wd s G A [(q8, .inl (G.2.1, 242, .inl (fun _ => 0))), (q2, .inl (G.2.1, 57, .inl (fun _ => 0))), (q0, .inr (12, [.int 0, .int 0, .int 0, .int 0, .int 0, .int 0, .int 0, .int (-1), .ref q9, .ref q8, .ref q10, .int 0, .ref q11, .ref q12, .ref q13, .ref q14, .ref q15, .ref q2, .ref q16, .int 0, .ref q3, .ref q4, .ref q17, .ref q6, .ref q7, .ref q1, .ref q5, .int 1, .int (-1), .int 0, .ref q18, .ref q19, .ref q20, .ref q21, .ref q22, .ref q23, .ref q24, .ref q25, .int 0, .ref q26, .ref q27, .ref q28, .ref q29, .ref q30, .int 0, .ref q31, .ref q32, .ref q33, .ref q34, .int 0, .ref q35, .ref q36, .ref q37, .ref q38, .int 0, .int 0, .ref q39, .ref q40, .ref q41, .ref q42])), (q3, .inl (G.2.1, 8, .inl (fun _ => 0))), (q4, .inl (G.2.1, 24008, .inl (fun _ => 0))), (q1, .inl (G.2.1, 4096, .inl (upd (fun _ => (-1)) 0 0))), (q5, .inl (G.2.1, 3000, .inl (upd (fun _ => 0) 0 (-1)))), (q6, .inl (G.2.1, 3000, .inl (upd (fun _ => 0) 0 (-1)))), (q7, .inl (G.2.1, 3000, .inl (upd (fun _ => 0) 0 (-1))))] H locs := w
  refine lv_pop hx hb dX12_explores_46 rfl ?_
  refine lv_iconst (v := 0) hx hb dX12_explores_47 (by decide) ?_
  refine lv_istore_n (lv' := [(2, .int 0), (0, .ref q0), (1, .int x0)]) hx hb dX12_explores_48 rfl hl (by decide) rfl (fun ls hl => ?_)
  refine lv_iload_n hx hb dX12_explores_49 rfl (lv_at hl 0 rfl) ?_
  refine lv_aload_n hx hb dX12_explores_50 rfl (lv_at hl 1 rfl) ?_
  refine r_get C w 2 rfl fr_X12_322 rfl dX12_explores_51 ?_
  refine lv_icmp_ge (tgt := 242) hx hb dX12_explores_54 (by decide) (fun h => absurd h (by decide)) (fun _ => ?_)
  refine lv_aload_n hx hb dX12_explores_57 rfl (lv_at hl 1 rfl) ?_
  refine r_get C w 2 rfl fr_X12_325 rfl dX12_explores_58 ?_
  refine lv_if_ne (tgt := 242) hx hb dX12_explores_61 (by decide) (fun h => absurd (by decide) h) (fun _ => ?_)
  refine lv_iconst (v := 0) hx hb dX12_explores_64 (by decide) ?_
  refine lv_istore_n (lv' := [(3, .int 0), (2, .int 0), (0, .ref q0), (1, .int x0)]) hx hb dX12_explores_65 rfl hl (by decide) rfl (fun ls hl => ?_)
  refine lv_iload_n hx hb dX12_explores_66 rfl (lv_at hl 0 rfl) ?_
  refine lv_aload_n hx hb dX12_explores_67 rfl (lv_at hl 2 rfl) ?_
  refine fin_i C w (run_V C w mv_X12_286 (k123_acts C.b0 q0 q8 q9 q10 q11 q12 q13 q14 q15 q2 q16 q3 q4 q17 q6 q7 q1 q5 q18 q19 q20 q21 q22 q23 q24 q25 q26 q27 q28 q29 q30 q31 q32 q33 q34 q35 q36 q37 q38 q39 q40 q41 q42 H.size) [2, 0] rfl rfl 2 rfl rfl (by decide) rfl hl.1 rfl (Nat.le_of_ble_eq_true rfl) dX12_explores_68 (cells2 := 0) (slots2 := 0) (by decide)) [2, 0] [1, 3, 4, 5, 6, 7, 8] rfl rfl (by decide) (cells2 := 0) (slots2 := 0) (by decide) (fun u3 H locs w => ?_)
  have w : Wd s G A [(q2, .inl (G.2.1, 57, .inl (fun _ => 0))), (q3, .inl (G.2.1, 8, .inl (fun _ => 0))), (q4, .inl (G.2.1, 24008, .inl (fun _ => 0))), (q1, .inl (G.2.1, 4096, .inl (upd (fun _ => (-1)) 0 0))), (q5, .inl (G.2.1, 3000, .inl (upd (fun _ => 0) 0 (-1)))), (q6, .inl (G.2.1, 3000, .inl (upd (fun _ => 0) 0 (-1)))), (q7, .inl (G.2.1, 3000, .inl (upd (fun _ => 0) 0 (-1)))), (q0, .inr (12, [.int 0, .int 0, .int 0, .int 0, .int 0, .int 0, .int 0, .int (-1), .ref q9, .ref q8, .ref q10, .int 0, .ref q11, .ref q12, .ref q13, .ref q14, .ref q15, .ref q2, .ref q16, .int 0, .ref q3, .ref q4, .ref q17, .ref q6, .ref q7, .ref q1, .ref q5, .int 1, .int (-1), .int 0, .ref q18, .ref q19, .ref q20, .ref q21, .ref q22, .ref q23, .ref q24, .ref q25, .int 0, .ref q26, .ref q27, .ref q28, .ref q29, .ref q30, .int 0, .ref q31, .ref q32, .ref q33, .ref q34, .int 0, .ref q35, .ref q36, .ref q37, .ref q38, .int 0, .int 0, .ref q39, .ref q40, .ref q41, .ref q42])), (q8, .inl (G.2.1, 242, .inl (fun _ => 0)))] H locs := w
  refine lv_icmp_ge (tgt := 236) hx hb dX12_explores_71 (by decide) (fun _ => ?_) (fun h => absurd (by decide) h)
  refine lv_iinc (v := 1) (lv' := [(2, .int 1), (3, .int 0), (0, .ref q0), (1, .int x0)]) hx hb dX12_explores_236 hl (k := 1) rfl (by decide +kernel) (by decide) rfl (fun ls hl => ?_)
  refine lv_goto (tgt := 49) hx hb dX12_explores_239 (by decide) ?_
  refine lv_iload_n hx hb dX12_explores_49 rfl (lv_at hl 0 rfl) ?_
  refine lv_aload_n hx hb dX12_explores_50 rfl (lv_at hl 2 rfl) ?_
  refine r_get C w 7 rfl fr_X12_322 rfl dX12_explores_51 ?_
  refine lv_icmp_ge (tgt := 242) hx hb dX12_explores_54 (by decide) (fun _ => ?_) (fun h => absurd (by decide) h)
  exact e_v C hr w (fun _ => 0) [7, 3, 0, 1, 2, 4, 5, 6, 8] rfl rfl dX12_explores_242 (by decide) (by decide)
set_option maxRecDepth 100000 in
set_option maxHeartbeats 4000000 in
theorem k125_states {l : Launch} {s0 : State} {a0 : Array Value} {G : GT} (b0 : B0 l s0 a0 G) (q0 q1 q2 q3 q4 q5 q6 q7 q8 q9 q10 q11 q12 q13 q14 q15 q16 q17 q18 q19 q20 q21 q22 q23 q24 q25 q26 q27 q28 q29 q30 q31 q32 q33 q34 q35 q36 q37 q38 q39 q40 q41 q42 : Nat) (x0 : Int32) (h0 : ¬ 3000 < x0) (h1 : ¬ x0 < 1) (sz : Nat) : Ki l s0 G yX12_states cX12_states 2 (some .int) { frames := 3, cells := 0, slots := 0, locals := 72 } [.ref q0, .int x0] [(q0, .inr (12, [.int 0, .int 0, .int 0, .int 0, .int 0, .int 0, .int 0, .int (-1), .ref q9, .ref q8, .ref q10, .int 0, .ref q11, .ref q12, .ref q13, .ref q14, .ref q15, .ref q2, .ref q16, .int 0, .ref q3, .ref q4, .ref q17, .ref q6, .ref q7, .ref q1, .ref q5, .int 0, .int (-1), .int 0, .ref q18, .ref q19, .ref q20, .ref q21, .ref q22, .ref q23, .ref q24, .ref q25, .int 0, .ref q26, .ref q27, .ref q28, .ref q29, .ref q30, .int 0, .ref q31, .ref q32, .ref q33, .ref q34, .int 0, .ref q35, .ref q36, .ref q37, .ref q38, .int 0, .int 0, .ref q39, .ref q40, .ref q41, .ref q42])), (q1, .inl (G.2.1, 4096, .inl (fun _ => 0))), (q2, .inl (G.2.1, 57, .inl (fun _ => 0))), (q3, .inl (G.2.1, 8, .inl (fun _ => 0))), (q4, .inl (G.2.1, 24008, .inl (fun _ => 0))), (q5, .inl (G.2.1, 3000, .inl (fun _ => 0))), (q6, .inl (G.2.1, 3000, .inl (fun _ => 0))), (q7, .inl (G.2.1, 3000, .inl (fun _ => 0))), (q8, .inl (G.2.1, 242, .inl (fun _ => 0)))] sz 1 (fun u => [(q0, .inr (12, [.int 0, .int 0, .int 0, .int 0, .int 0, .int 0, .int 0, .int (-1), .ref q9, .ref q8, .ref q10, .int 0, .ref q11, .ref q12, .ref q13, .ref q14, .ref q15, .ref q2, .ref q16, .int 0, .ref q3, .ref q4, .ref q17, .ref q6, .ref q7, .ref q1, .ref q5, .int 1, .int (-1), .int 0, .ref q18, .ref q19, .ref q20, .ref q21, .ref q22, .ref q23, .ref q24, .ref q25, .int 0, .ref q26, .ref q27, .ref q28, .ref q29, .ref q30, .int 0, .ref q31, .ref q32, .ref q33, .ref q34, .int 0, .ref q35, .ref q36, .ref q37, .ref q38, .int 0, .int 0, .ref q39, .ref q40, .ref q41, .ref q42])), (q1, .inl (G.2.1, 4096, .inl (upd (fun _ => (-1)) 0 0))), (q2, .inl (G.2.1, 57, .inl (fun _ => 0))), (q3, .inl (G.2.1, 8, .inl (fun _ => 0))), (q4, .inl (G.2.1, 24008, .inl (fun _ => 0))), (q5, .inl (G.2.1, 3000, .inl (upd (fun _ => 0) 0 (-1)))), (q6, .inl (G.2.1, 3000, .inl (upd (fun _ => 0) 0 (-1)))), (q7, .inl (G.2.1, 3000, .inl (upd (fun _ => 0) 0 (-1)))), (q8, .inl (G.2.1, 242, .inl (fun _ => 0)))]) := by
  refine Ki.of b0 (own := RX12) (nm := "states") [(0, .ref q0), (1, .int x0)] rfl rfl (by decide +kernel) (Nat.le_of_ble_eq_true rfl) rfl ?_
  intro p e s m below meth c A C hr H locs w ls hl
  have hx := C.hx
  have hb := C.hb
  refine lv_aload_n hx hb dX12_states_0 rfl (lv_at hl 0 rfl) ?_
  refine lv_iconst (v := 0) hx hb dX12_states_1 (by decide) ?_
  refine r_put C w 0 rfl fl_X12_1 (Nat.le_of_ble_eq_true rfl) rfl rfl dX12_states_2 (ws2 := [(q0, .inr (12, [.int 0, .int 0, .int 0, .int 0, .int 0, .int 0, .int 0, .int (-1), .ref q9, .ref q8, .ref q10, .int 0, .ref q11, .ref q12, .ref q13, .ref q14, .ref q15, .ref q2, .ref q16, .int 0, .ref q3, .ref q4, .ref q17, .ref q6, .ref q7, .ref q1, .ref q5, .int 0, .int (-1), .int 0, .ref q18, .ref q19, .ref q20, .ref q21, .ref q22, .ref q23, .ref q24, .ref q25, .int 0, .ref q26, .ref q27, .ref q28, .ref q29, .ref q30, .int 0, .ref q31, .ref q32, .ref q33, .ref q34, .int 0, .ref q35, .ref q36, .ref q37, .ref q38, .int 0, .int 0, .ref q39, .ref q40, .ref q41, .ref q42])), (q1, .inl (G.2.1, 4096, .inl (fun _ => 0))), (q2, .inl (G.2.1, 57, .inl (fun _ => 0))), (q3, .inl (G.2.1, 8, .inl (fun _ => 0))), (q4, .inl (G.2.1, 24008, .inl (fun _ => 0))), (q5, .inl (G.2.1, 3000, .inl (fun _ => 0))), (q6, .inl (G.2.1, 3000, .inl (fun _ => 0))), (q7, .inl (G.2.1, 3000, .inl (fun _ => 0))), (q8, .inl (G.2.1, 242, .inl (fun _ => 0)))]) rfl (fun H locs w => ?_)
  refine lv_aload_n hx hb dX12_states_5 rfl (lv_at hl 0 rfl) ?_
  refine lv_iload_n hx hb dX12_states_6 rfl (lv_at hl 1 rfl) ?_
  refine lv_iconst (v := 1) hx hb dX12_states_7 (by decide) ?_
  refine fin_i C w (run_V C w mv_X12_336 (k120_isMost C.b0 q0 q9 q8 q10 q11 q12 q13 q14 q15 q2 q16 q3 q4 q17 q6 q7 q1 q5 q18 q19 q20 q21 q22 q23 q24 q25 q26 q27 q28 q29 q30 q31 q32 q33 q34 q35 q36 q37 q38 q39 q40 q41 q42 x0 h0 h1 H.size) [0] rfl rfl 0 rfl rfl (by decide) rfl hl.1 rfl (Nat.le_of_ble_eq_true rfl) dX12_states_8 (cells2 := 0) (slots2 := 0) (by decide)) [0] [1, 2, 3, 4, 5, 6, 7, 8] rfl rfl (by decide) (cells2 := 0) (slots2 := 0) (by decide) (fun u1 H locs w => ?_)
  have w : Wd s G A [(q1, .inl (G.2.1, 4096, .inl (fun _ => 0))), (q2, .inl (G.2.1, 57, .inl (fun _ => 0))), (q3, .inl (G.2.1, 8, .inl (fun _ => 0))), (q4, .inl (G.2.1, 24008, .inl (fun _ => 0))), (q5, .inl (G.2.1, 3000, .inl (fun _ => 0))), (q6, .inl (G.2.1, 3000, .inl (fun _ => 0))), (q7, .inl (G.2.1, 3000, .inl (fun _ => 0))), (q8, .inl (G.2.1, 242, .inl (fun _ => 0))), (q0, .inr (12, [.int 0, .int 0, .int 0, .int 0, .int 0, .int 0, .int 0, .int (-1), .ref q9, .ref q8, .ref q10, .int 0, .ref q11, .ref q12, .ref q13, .ref q14, .ref q15, .ref q2, .ref q16, .int 0, .ref q3, .ref q4, .ref q17, .ref q6, .ref q7, .ref q1, .ref q5, .int 0, .int (-1), .int 0, .ref q18, .ref q19, .ref q20, .ref q21, .ref q22, .ref q23, .ref q24, .ref q25, .int 0, .ref q26, .ref q27, .ref q28, .ref q29, .ref q30, .int 0, .ref q31, .ref q32, .ref q33, .ref q34, .int 0, .ref q35, .ref q36, .ref q37, .ref q38, .int 0, .int 0, .ref q39, .ref q40, .ref q41, .ref q42]))] H locs := w
  refine lv_if_ne (tgt := 16) hx hb dX12_states_11 (by decide) (fun _ => ?_) (fun h => h.elim (by decide))
  refine lv_aload_n hx hb dX12_states_16 rfl (lv_at hl 0 rfl) ?_
  refine lv_iload_n hx hb dX12_states_17 rfl (lv_at hl 1 rfl) ?_
  refine fin_v C w (run_V C w mv_X12_339 (k124_explores C.b0 q0 q1 q2 q3 q4 q5 q6 q7 q8 q9 q10 q11 q12 q13 q14 q15 q16 q17 q18 q19 q20 q21 q22 q23 q24 q25 q26 q27 q28 q29 q30 q31 q32 q33 q34 q35 q36 q37 q38 q39 q40 q41 q42 x0 H.size) [8, 0, 1, 2, 3, 4, 5, 6, 7] rfl rfl 8 rfl rfl (by decide) rfl hl.1 rfl (Nat.le_of_ble_eq_true rfl) dX12_states_18 (cells2 := 0) (slots2 := 0) (by decide)) [8, 0, 1, 2, 3, 4, 5, 6, 7] [] rfl rfl (by decide) (cells2 := 0) (slots2 := 0) (by decide) (fun u2 H locs w => ?_)
  have w : Wd s G A [(q0, .inr (12, [.int 0, .int 0, .int 0, .int 0, .int 0, .int 0, .int 0, .int (-1), .ref q9, .ref q8, .ref q10, .int 0, .ref q11, .ref q12, .ref q13, .ref q14, .ref q15, .ref q2, .ref q16, .int 0, .ref q3, .ref q4, .ref q17, .ref q6, .ref q7, .ref q1, .ref q5, .int 1, .int (-1), .int 0, .ref q18, .ref q19, .ref q20, .ref q21, .ref q22, .ref q23, .ref q24, .ref q25, .int 0, .ref q26, .ref q27, .ref q28, .ref q29, .ref q30, .int 0, .ref q31, .ref q32, .ref q33, .ref q34, .int 0, .ref q35, .ref q36, .ref q37, .ref q38, .int 0, .int 0, .ref q39, .ref q40, .ref q41, .ref q42])), (q1, .inl (G.2.1, 4096, .inl (upd (fun _ => (-1)) 0 0))), (q2, .inl (G.2.1, 57, .inl (fun _ => 0))), (q3, .inl (G.2.1, 8, .inl (fun _ => 0))), (q4, .inl (G.2.1, 24008, .inl (fun _ => 0))), (q5, .inl (G.2.1, 3000, .inl (upd (fun _ => 0) 0 (-1)))), (q6, .inl (G.2.1, 3000, .inl (upd (fun _ => 0) 0 (-1)))), (q7, .inl (G.2.1, 3000, .inl (upd (fun _ => 0) 0 (-1)))), (q8, .inl (G.2.1, 242, .inl (fun _ => 0)))] H locs := w
  refine lv_aload_n hx hb dX12_states_21 rfl (lv_at hl 0 rfl) ?_
  refine r_get C w 0 rfl fr_X12_325 rfl dX12_states_22 ?_
  refine lv_if_eq (tgt := 33) hx hb dX12_states_25 (by decide) (fun _ => ?_) (fun h => absurd (by decide) h)
  refine lv_aload_n hx hb dX12_states_33 rfl (lv_at hl 0 rfl) ?_
  refine r_get C w 0 rfl fr_X12_322 rfl dX12_states_34 ?_
  exact e_i C hr w (fun _ => 0) [0, 1, 2, 3, 4, 5, 6, 7, 8] rfl rfl rfl dX12_states_37 (by decide) (by decide)
set_option maxRecDepth 100000 in
set_option maxHeartbeats 4000000 in
theorem k126_thrown {l : Launch} {s0 : State} {a0 : Array Value} {G : GT} (b0 : B0 l s0 a0 G) (q0 q1 q2 q3 q4 q5 q6 q7 q8 q9 q10 q11 q12 q13 q14 q15 q16 q17 q18 q19 q20 q21 q22 q23 q24 q25 q26 q27 q28 q29 q30 q31 q32 q33 q34 q35 q36 q37 q38 q39 q40 q41 q42 : Nat) (sz : Nat) : Ki l s0 G yX12_thrown cX12_thrown 1 (some .int) { frames := 0, cells := 0, slots := 0, locals := 0 } [.ref q0] [(q0, .inr (12, [.int 0, .int 0, .int 0, .int 0, .int 0, .int 0, .int 0, .int (-1), .ref q1, .ref q2, .ref q3, .int 0, .ref q4, .ref q5, .ref q6, .ref q7, .ref q8, .ref q9, .ref q10, .int 0, .ref q11, .ref q12, .ref q13, .ref q14, .ref q15, .ref q16, .ref q17, .int 1, .int (-1), .int 0, .ref q18, .ref q19, .ref q20, .ref q21, .ref q22, .ref q23, .ref q24, .ref q25, .int 0, .ref q26, .ref q27, .ref q28, .ref q29, .ref q30, .int 0, .ref q31, .ref q32, .ref q33, .ref q34, .int 0, .ref q35, .ref q36, .ref q37, .ref q38, .int 0, .int 0, .ref q39, .ref q40, .ref q41, .ref q42]))] sz 0 (fun u => [(q0, .inr (12, [.int 0, .int 0, .int 0, .int 0, .int 0, .int 0, .int 0, .int (-1), .ref q1, .ref q2, .ref q3, .int 0, .ref q4, .ref q5, .ref q6, .ref q7, .ref q8, .ref q9, .ref q10, .int 0, .ref q11, .ref q12, .ref q13, .ref q14, .ref q15, .ref q16, .ref q17, .int 1, .int (-1), .int 0, .ref q18, .ref q19, .ref q20, .ref q21, .ref q22, .ref q23, .ref q24, .ref q25, .int 0, .ref q26, .ref q27, .ref q28, .ref q29, .ref q30, .int 0, .ref q31, .ref q32, .ref q33, .ref q34, .int 0, .ref q35, .ref q36, .ref q37, .ref q38, .int 0, .int 0, .ref q39, .ref q40, .ref q41, .ref q42]))]) := by
  refine Ki.of b0 (own := RX12) (nm := "thrown") [(0, .ref q0)] rfl rfl (by decide +kernel) (Nat.le_of_ble_eq_true rfl) rfl ?_
  intro p e s m below meth c A C hr H locs w ls hl
  have hx := C.hx
  have hb := C.hb
  refine lv_aload_n hx hb dX12_thrown_0 rfl (lv_at hl 0 rfl) ?_
  refine r_get C w 0 rfl fr_X12_1 rfl dX12_thrown_1 ?_
  exact e_i C hr w (fun _ => 0) [0] rfl rfl rfl dX12_thrown_4 (by decide) (by decide)
set_option maxRecDepth 100000 in
set_option maxHeartbeats 4000000 in
theorem k127_state {l : Launch} {s0 : State} {a0 : Array Value} {G : GT} (b0 : B0 l s0 a0 G) (q0 q1 q2 q3 q4 q5 q6 q7 q8 q9 q10 q11 q12 q13 q14 q15 q16 q17 q18 q19 q20 q21 q22 q23 q24 : Nat) (x0 : Int32) (x1 : Int32) (x2 : Int32) (sz : Nat) : Kx l s0 G yX11_state cX11_state 5 (some .int) { frames := 7, cells := 1, slots := 6, locals := 111 } [.ref q0, .int x0, .int x1, .int x2] [(q0, .inr (11, [.ref q2, .ref q3, .ref q4, .ref q5, .ref q6, .ref q7, .ref q8, .ref q9, .ref q1, .ref q10, .int 0, .int (-1), .int 0, .int 0, .null, .null, .null, .null, .null])), (q1, .inr (2, [.int 0, .int 0, .ref q11, .ref q12, .ref q13, .ref q14, .ref q15, .ref q16, .ref q17, .ref q18, .ref q19, .ref q20, .ref q21, .ref q22, .ref q23, .ref q24, .int 0]))] sz "java/lang/IndexOutOfBoundsException" := by
  refine Kx.of b0 (own := RX11) (nm := "state") [(0, .ref q0), (1, .int x0), (2, .int x1), (3, .int x2)] rfl rfl (by decide +kernel) (Nat.le_of_ble_eq_true rfl) rfl ?_
  intro p e s m below meth c A C ht H locs w ls hl
  have hx := C.hx
  have hb := C.hb
  refine lv_aload_n hx hb dX11_state_0 rfl (lv_at hl 0 rfl) ?_
  refine lv_iload_n hx hb dX11_state_1 rfl (lv_at hl 3 rfl) ?_
  refine fin_x C w (run_Vx C w mv_X11_107 (k69_needPlace C.b0 q0 q1 q2 q3 q4 q5 q6 q7 q8 q9 q10 q11 q12 q13 q14 q15 q16 q17 q18 q19 q20 q21 q22 q23 q24 x2 H.size) [0, 1] rfl rfl 0 rfl rfl (by decide) rfl hl.1 rfl (Nat.le_of_ble_eq_true rfl) dX11_state_2 (cells2 := 1) (slots2 := 6) (by decide)) [0, 1] [] rfl rfl (by decide) (cells2 := 1) (slots2 := 6) (by decide) (fun qx2 ce H locs w hce hcv hcl => ?_)
  have w : Wd s G A [(q0, .inr (11, [.ref q2, .ref q3, .ref q4, .ref q5, .ref q6, .ref q7, .ref q8, .ref q9, .ref q1, .ref q10, .int 0, .int (-1), .int 0, .int 0, .null, .null, .null, .null, .null])), (q1, .inr (2, [.int 0, .int 0, .ref q11, .ref q12, .ref q13, .ref q14, .ref q15, .ref q16, .ref q17, .ref q18, .ref q19, .ref q20, .ref q21, .ref q22, .ref q23, .ref q24, .int 0]))] H locs := w
  exact r_out C ht w [0, 1] rfl rfl hce hcv hcl (by decide) (by decide)
set_option maxRecDepth 100000 in
set_option maxHeartbeats 4000000 in
theorem k128_state {l : Launch} {s0 : State} {a0 : Array Value} {G : GT} (b0 : B0 l s0 a0 G) (q0 q1 q2 q3 q4 q5 q6 q7 q8 q9 q10 q11 q12 q13 q14 q15 q16 q17 q18 q19 q20 q21 q22 q23 q24 q25 : Nat) (x0 : Int32) (x1 : Int32) (x2 : Int32) (sz : Nat) : Kh l s0 G yL_state cL_state 6 (some .int) [(0, 12, 15, 24), (0, 12, 19, 13)] { frames := 8, cells := 1, slots := 6, locals := 135 } [.ref q0, .int x0, .int x1, .int x2, .ref q2] [(q0, .inr (11, [.ref q3, .ref q4, .ref q5, .ref q6, .ref q7, .ref q8, .ref q9, .ref q10, .ref q1, .ref q11, .int 0, .int (-1), .int 0, .int 0, .null, .null, .null, .null, .null])), (q1, .inr (2, [.int 0, .int 0, .ref q12, .ref q13, .ref q14, .ref q15, .ref q16, .ref q17, .ref q18, .ref q19, .ref q20, .ref q21, .ref q22, .ref q23, .ref q24, .ref q25, .int 0]))] sz 1 (fun u => [(q0, .inr (11, [.ref q3, .ref q4, .ref q5, .ref q6, .ref q7, .ref q8, .ref q9, .ref q10, .ref q1, .ref q11, .int 0, .int (-1), .int 0, .int 0, .null, .null, .null, .null, .null])), (q1, .inr (2, [.int 0, .int 0, .ref q12, .ref q13, .ref q14, .ref q15, .ref q16, .ref q17, .ref q18, .ref q19, .ref q20, .ref q21, .ref q22, .ref q23, .ref q24, .ref q25, .int 0]))]) := by
  refine Kh.of b0 (own := RL) (nm := "state") [(0, .ref q0), (1, .int x0), (2, .int x1), (3, .int x2), (4, .ref q2)] rfl rfl (by decide +kernel) (Nat.le_of_ble_eq_true rfl) rfl ?_
  intro p e s m below meth c A C hr ht H locs w ls hl
  have hx := C.hx
  have hb := C.hb
  refine lv_aload hx hb dL_state_0 (lv_at hl 4 rfl) ?_
  refine lv_iconst (v := 0) hx hb dL_state_2 (by decide) ?_
  refine lv_aload_n hx hb dL_state_3 rfl (lv_at hl 0 rfl) ?_
  refine lv_iload_n hx hb dL_state_4 rfl (lv_at hl 1 rfl) ?_
  refine lv_iload_n hx hb dL_state_5 rfl (lv_at hl 2 rfl) ?_
  refine lv_iload_n hx hb dL_state_6 rfl (lv_at hl 3 rfl) ?_
  refine fin_x C w (run_Vx C w mv_L_48 (k127_state C.b0 q0 q1 q3 q4 q5 q6 q7 q8 q9 q10 q11 q12 q13 q14 q15 q16 q17 q18 q19 q20 q21 q22 q23 q24 q25 x0 x1 x2 H.size) [0, 1] rfl rfl 0 rfl rfl (by decide) rfl hl.1 rfl (Nat.le_of_ble_eq_true rfl) dL_state_7 (cells2 := 1) (slots2 := 6) (by decide)) [0, 1] [] rfl rfl (by decide) (cells2 := 1) (slots2 := 6) (by decide) (fun qx2 ce H locs w hce hcv hcl => ?_)
  have w : Wd s G A [(q0, .inr (11, [.ref q3, .ref q4, .ref q5, .ref q6, .ref q7, .ref q8, .ref q9, .ref q10, .ref q1, .ref q11, .int 0, .int (-1), .int 0, .int 0, .null, .null, .null, .null, .null])), (q1, .inr (2, [.int 0, .int 0, .ref q12, .ref q13, .ref q14, .ref q15, .ref q16, .ref q17, .ref q18, .ref q19, .ref q20, .ref q21, .ref q22, .ref q23, .ref q24, .ref q25, .int 0]))] H locs := w
  refine r_catch C ht (by decide) (by decide) tl_L_24 tk_java_lang_IndexOutOfBoundsException hce hcv hcl ?_
  refine lv_astore (lv' := [(5, .ref qx2), (0, .ref q0), (1, .int x0), (2, .int x1), (3, .int x2), (4, .ref q2)]) hx hb dL_state_15 hl (by decide) rfl (fun ls hl => ?_)
  refine lv_iconst (v := 1) hx hb dL_state_17 (by decide) ?_
  exact e_i C hr w (fun _ => 0) [0, 1] rfl rfl rfl dL_state_18 (by decide) (by decide)
set_option maxRecDepth 100000 in
set_option maxHeartbeats 4000000 in
theorem k129_state {l : Launch} {s0 : State} {a0 : Array Value} {G : GT} (b0 : B0 l s0 a0 G) (q0 q1 q2 q3 q4 q5 q6 q7 q8 q9 q10 q11 q12 q13 q14 q15 q16 q17 q18 q19 q20 q21 q22 q23 q24 q25 q26 q27 q28 q29 q30 q31 q32 q33 q34 q35 q36 q37 q38 q39 q40 q41 q42 : Nat) (x0 : Int32) (x1 : Int32) (x2 : Int32) (sz : Nat) : Ki l s0 G yX12_state cX12_state 4 (some .int) { frames := 2, cells := 0, slots := 0, locals := 44 } [.ref q0, .int x0, .int x1, .int x2] [(q0, .inr (12, [.int 0, .int 0, .int 0, .int 0, .int 0, .int 0, .int 0, .int (-1), .ref q2, .ref q1, .ref q3, .int 0, .ref q4, .ref q5, .ref q6, .ref q7, .ref q8, .ref q9, .ref q10, .int 0, .ref q11, .ref q12, .ref q13, .ref q14, .ref q15, .ref q16, .ref q17, .int 0, .int (-1), .int 0, .ref q18, .ref q19, .ref q20, .ref q21, .ref q22, .ref q23, .ref q24, .ref q25, .int 0, .ref q26, .ref q27, .ref q28, .ref q29, .ref q30, .int 0, .ref q31, .ref q32, .ref q33, .ref q34, .int 0, .ref q35, .ref q36, .ref q37, .ref q38, .int 0, .int 0, .ref q39, .ref q40, .ref q41, .ref q42])), (q1, .inl (G.2.1, 242, .inl (fun _ => 0)))] sz 0 (fun u => [(q0, .inr (12, [.int 1, .int 0, .int 0, .int 0, .int 0, .int 0, .int 0, .int (-1), .ref q2, .ref q1, .ref q3, .int 0, .ref q4, .ref q5, .ref q6, .ref q7, .ref q8, .ref q9, .ref q10, .int 0, .ref q11, .ref q12, .ref q13, .ref q14, .ref q15, .ref q16, .ref q17, .int 0, .int (-1), .int 0, .ref q18, .ref q19, .ref q20, .ref q21, .ref q22, .ref q23, .ref q24, .ref q25, .int 0, .ref q26, .ref q27, .ref q28, .ref q29, .ref q30, .int 0, .ref q31, .ref q32, .ref q33, .ref q34, .int 0, .ref q35, .ref q36, .ref q37, .ref q38, .int 0, .int 0, .ref q39, .ref q40, .ref q41, .ref q42])), (q1, .inl (G.2.1, 242, .inl (fun _ => 0)))]) := by
  refine Ki.of b0 (own := RX12) (nm := "state") [(0, .ref q0), (1, .int x0), (2, .int x1), (3, .int x2)] rfl rfl (by decide +kernel) (Nat.le_of_ble_eq_true rfl) rfl ?_
  intro p e s m below meth c A C hr H locs w ls hl
  have hx := C.hx
  have hb := C.hb
  refine lv_aload_n hx hb dX12_state_0 rfl (lv_at hl 0 rfl) ?_
  refine lv_iconst (v := 0) hx hb dX12_state_1 (by decide) ?_
  refine r_put C w 0 rfl fl_X12_1 (Nat.le_of_ble_eq_true rfl) rfl rfl dX12_state_2 (ws2 := [(q0, .inr (12, [.int 0, .int 0, .int 0, .int 0, .int 0, .int 0, .int 0, .int (-1), .ref q2, .ref q1, .ref q3, .int 0, .ref q4, .ref q5, .ref q6, .ref q7, .ref q8, .ref q9, .ref q10, .int 0, .ref q11, .ref q12, .ref q13, .ref q14, .ref q15, .ref q16, .ref q17, .int 0, .int (-1), .int 0, .ref q18, .ref q19, .ref q20, .ref q21, .ref q22, .ref q23, .ref q24, .ref q25, .int 0, .ref q26, .ref q27, .ref q28, .ref q29, .ref q30, .int 0, .ref q31, .ref q32, .ref q33, .ref q34, .int 0, .ref q35, .ref q36, .ref q37, .ref q38, .int 0, .int 0, .ref q39, .ref q40, .ref q41, .ref q42])), (q1, .inl (G.2.1, 242, .inl (fun _ => 0)))]) rfl (fun H locs w => ?_)
  refine lv_aload_n hx hb dX12_state_5 rfl (lv_at hl 0 rfl) ?_
  refine lv_iload_n hx hb dX12_state_6 rfl (lv_at hl 3 rfl) ?_
  refine lv_iconst (v := 1) hx hb dX12_state_7 (by decide) ?_
  refine fin_i C w (run_V C w mv_X12_297 (k72_isPlace C.b0 q0 q1 q2 q3 q4 q5 q6 q7 q8 q9 q10 q11 q12 q13 q14 q15 q16 q17 q18 q19 q20 q21 q22 q23 q24 q25 q26 q27 q28 q29 q30 q31 q32 q33 q34 q35 q36 q37 q38 q39 q40 q41 q42 x2 H.size) [0, 1] rfl rfl 0 rfl rfl (by decide) rfl hl.1 rfl (Nat.le_of_ble_eq_true rfl) dX12_state_8 (cells2 := 0) (slots2 := 0) (by decide)) [0, 1] [] rfl rfl (by decide) (cells2 := 0) (slots2 := 0) (by decide) (fun u1 H locs w => ?_)
  have w : Wd s G A [(q0, .inr (12, [.int 1, .int 0, .int 0, .int 0, .int 0, .int 0, .int 0, .int (-1), .ref q2, .ref q1, .ref q3, .int 0, .ref q4, .ref q5, .ref q6, .ref q7, .ref q8, .ref q9, .ref q10, .int 0, .ref q11, .ref q12, .ref q13, .ref q14, .ref q15, .ref q16, .ref q17, .int 0, .int (-1), .int 0, .ref q18, .ref q19, .ref q20, .ref q21, .ref q22, .ref q23, .ref q24, .ref q25, .int 0, .ref q26, .ref q27, .ref q28, .ref q29, .ref q30, .int 0, .ref q31, .ref q32, .ref q33, .ref q34, .int 0, .ref q35, .ref q36, .ref q37, .ref q38, .int 0, .int 0, .ref q39, .ref q40, .ref q41, .ref q42])), (q1, .inl (G.2.1, 242, .inl (fun _ => 0)))] H locs := w
  refine lv_if_eq (tgt := 23) hx hb dX12_state_11 (by decide) (fun _ => ?_) (fun h => absurd (by decide) h)
  refine lv_iconst (v := 0) hx hb dX12_state_23 (by decide) ?_
  exact e_i C hr w (fun _ => 0) [0, 1] rfl rfl rfl dX12_state_24 (by decide) (by decide)
set_option maxRecDepth 100000 in
set_option maxHeartbeats 4000000 in
theorem k130_dead {l : Launch} {s0 : State} {a0 : Array Value} {G : GT} (b0 : B0 l s0 a0 G) (q0 : Nat) (x0 : Int32) (x1 : Int32) (h0 : x0 < 1) (sz : Nat) : Kx l s0 G yX11_dead cX11_dead 4 (some .int) { frames := 8, cells := 1, slots := 6, locals := 132 } [.ref q0, .int x0, .int x1] [] sz "java/lang/IllegalArgumentException" := by
  refine Kx.of b0 (own := RX11) (nm := "dead") [(0, .ref q0), (1, .int x0), (2, .int x1)] rfl rfl (by decide +kernel) (Nat.le_of_ble_eq_true rfl) rfl ?_
  intro p e s m below meth c A C ht H locs w ls hl
  have hx := C.hx
  have hb := C.hb
  refine lv_iload_n hx hb dX11_dead_0 rfl (lv_at hl 1 rfl) ?_
  refine fin_x C w (run_Sx C w ms_X11_161 (k92_needMost C.b0 x0 h0 H.size) [] rfl rfl (by decide) rfl hl.1 rfl (Nat.le_of_ble_eq_true rfl) dX11_dead_1 (cells2 := 1) (slots2 := 6) (by decide)) [] [] rfl rfl (by decide) (cells2 := 1) (slots2 := 6) (by decide) (fun qx2 ce H locs w hce hcv hcl => ?_)
  have w : Wd s G A [] H locs := w
  exact r_out C ht w [] rfl rfl hce hcv hcl (by decide) (by decide)
set_option maxRecDepth 100000 in
set_option maxHeartbeats 4000000 in
theorem k131_dead {l : Launch} {s0 : State} {a0 : Array Value} {G : GT} (b0 : B0 l s0 a0 G) (q0 q1 q2 q3 q4 q5 q6 q7 q8 q9 q10 q11 : Nat) (x0 : Int32) (x1 : Int32) (h0 : x0 < 1) (sz : Nat) : Kh l s0 G yL_dead cL_dead 5 (some .int) [(0, 10, 13, 13)] { frames := 9, cells := 1, slots := 6, locals := 155 } [.ref q0, .int x0, .int x1, .ref q1] [(q0, .inr (11, [.ref q2, .ref q3, .ref q4, .ref q5, .ref q6, .ref q7, .ref q8, .ref q9, .ref q10, .ref q11, .int 0, .int (-1), .int 0, .int 0, .null, .null, .null, .null, .null]))] sz 1 (fun u => [(q0, .inr (11, [.ref q2, .ref q3, .ref q4, .ref q5, .ref q6, .ref q7, .ref q8, .ref q9, .ref q10, .ref q11, .int 0, .int (-1), .int 0, .int 0, .null, .null, .null, .null, .null]))]) := by
  refine Kh.of b0 (own := RL) (nm := "dead") [(0, .ref q0), (1, .int x0), (2, .int x1), (3, .ref q1)] rfl rfl (by decide +kernel) (Nat.le_of_ble_eq_true rfl) rfl ?_
  intro p e s m below meth c A C hr ht H locs w ls hl
  have hx := C.hx
  have hb := C.hb
  refine lv_aload_n hx hb dL_dead_0 rfl (lv_at hl 3 rfl) ?_
  refine lv_iconst (v := 0) hx hb dL_dead_1 (by decide) ?_
  refine lv_aload_n hx hb dL_dead_2 rfl (lv_at hl 0 rfl) ?_
  refine lv_iload_n hx hb dL_dead_3 rfl (lv_at hl 1 rfl) ?_
  refine lv_iload_n hx hb dL_dead_4 rfl (lv_at hl 2 rfl) ?_
  refine fin_x C w (run_Vx C w mv_L_51 (k130_dead C.b0 q0 x0 x1 h0 H.size) [] rfl rfl 0 rfl rfl (by decide) rfl hl.1 rfl (Nat.le_of_ble_eq_true rfl) dL_dead_5 (cells2 := 1) (slots2 := 6) (by decide)) [] [0] rfl rfl (by decide) (cells2 := 1) (slots2 := 6) (by decide) (fun qx2 ce H locs w hce hcv hcl => ?_)
  have w : Wd s G A [(q0, .inr (11, [.ref q2, .ref q3, .ref q4, .ref q5, .ref q6, .ref q7, .ref q8, .ref q9, .ref q10, .ref q11, .int 0, .int (-1), .int 0, .int 0, .null, .null, .null, .null, .null]))] H locs := w
  refine r_catch C ht (by decide) (by decide) tl_L_13 tk_java_lang_IllegalArgumentException hce hcv hcl ?_
  refine lv_astore (lv' := [(4, .ref qx2), (0, .ref q0), (1, .int x0), (2, .int x1), (3, .ref q1)]) hx hb dL_dead_13 hl (by decide) rfl (fun ls hl => ?_)
  refine lv_iconst (v := 1) hx hb dL_dead_15 (by decide) ?_
  exact e_i C hr w (fun _ => 0) [0] rfl rfl rfl dL_dead_16 (by decide) (by decide)
set_option maxRecDepth 100000 in
set_option maxHeartbeats 4000000 in
theorem k132_dead {l : Launch} {s0 : State} {a0 : Array Value} {G : GT} (b0 : B0 l s0 a0 G) (q0 q1 q2 q3 q4 q5 q6 q7 q8 q9 q10 q11 q12 q13 q14 q15 q16 q17 q18 q19 q20 q21 q22 q23 q24 q25 q26 q27 q28 q29 q30 q31 q32 q33 q34 q35 q36 q37 q38 q39 q40 q41 q42 : Nat) (x0 : Int32) (x1 : Int32) (h0 : x0 < 1) (sz : Nat) : Ki l s0 G yX12_dead cX12_dead 5 (some .int) { frames := 2, cells := 0, slots := 0, locals := 44 } [.ref q0, .int x0, .int x1] [(q0, .inr (12, [.int 0, .int 0, .int 0, .int 0, .int 0, .int 0, .int 0, .int (-1), .ref q1, .ref q2, .ref q3, .int 0, .ref q4, .ref q5, .ref q6, .ref q7, .ref q8, .ref q9, .ref q10, .int 0, .ref q11, .ref q12, .ref q13, .ref q14, .ref q15, .ref q16, .ref q17, .int 0, .int (-1), .int 0, .ref q18, .ref q19, .ref q20, .ref q21, .ref q22, .ref q23, .ref q24, .ref q25, .int 0, .ref q26, .ref q27, .ref q28, .ref q29, .ref q30, .int 0, .ref q31, .ref q32, .ref q33, .ref q34, .int 0, .ref q35, .ref q36, .ref q37, .ref q38, .int 0, .int 0, .ref q39, .ref q40, .ref q41, .ref q42]))] sz 0 (fun u => [(q0, .inr (12, [.int 1, .int 0, .int 0, .int 0, .int 0, .int 0, .int 0, .int (-1), .ref q1, .ref q2, .ref q3, .int 0, .ref q4, .ref q5, .ref q6, .ref q7, .ref q8, .ref q9, .ref q10, .int 0, .ref q11, .ref q12, .ref q13, .ref q14, .ref q15, .ref q16, .ref q17, .int 0, .int (-1), .int 0, .ref q18, .ref q19, .ref q20, .ref q21, .ref q22, .ref q23, .ref q24, .ref q25, .int 0, .ref q26, .ref q27, .ref q28, .ref q29, .ref q30, .int 0, .ref q31, .ref q32, .ref q33, .ref q34, .int 0, .ref q35, .ref q36, .ref q37, .ref q38, .int 0, .int 0, .ref q39, .ref q40, .ref q41, .ref q42]))]) := by
  refine Ki.of b0 (own := RX12) (nm := "dead") [(0, .ref q0), (1, .int x0), (2, .int x1)] rfl rfl (by decide +kernel) (Nat.le_of_ble_eq_true rfl) rfl ?_
  intro p e s m below meth c A C hr H locs w ls hl
  have hx := C.hx
  have hb := C.hb
  refine lv_aload_n hx hb dX12_dead_0 rfl (lv_at hl 0 rfl) ?_
  refine lv_iconst (v := 0) hx hb dX12_dead_1 (by decide) ?_
  refine r_put C w 0 rfl fl_X12_1 (Nat.le_of_ble_eq_true rfl) rfl rfl dX12_dead_2 (ws2 := [(q0, .inr (12, [.int 0, .int 0, .int 0, .int 0, .int 0, .int 0, .int 0, .int (-1), .ref q1, .ref q2, .ref q3, .int 0, .ref q4, .ref q5, .ref q6, .ref q7, .ref q8, .ref q9, .ref q10, .int 0, .ref q11, .ref q12, .ref q13, .ref q14, .ref q15, .ref q16, .ref q17, .int 0, .int (-1), .int 0, .ref q18, .ref q19, .ref q20, .ref q21, .ref q22, .ref q23, .ref q24, .ref q25, .int 0, .ref q26, .ref q27, .ref q28, .ref q29, .ref q30, .int 0, .ref q31, .ref q32, .ref q33, .ref q34, .int 0, .ref q35, .ref q36, .ref q37, .ref q38, .int 0, .int 0, .ref q39, .ref q40, .ref q41, .ref q42]))]) rfl (fun H locs w => ?_)
  refine lv_aload_n hx hb dX12_dead_5 rfl (lv_at hl 0 rfl) ?_
  refine lv_iload_n hx hb dX12_dead_6 rfl (lv_at hl 1 rfl) ?_
  refine lv_iconst (v := 1) hx hb dX12_dead_7 (by decide) ?_
  refine fin_i C w (run_V C w mv_X12_336 (k96_isMost C.b0 q0 q1 q2 q3 q4 q5 q6 q7 q8 q9 q10 q11 q12 q13 q14 q15 q16 q17 q18 q19 q20 q21 q22 q23 q24 q25 q26 q27 q28 q29 q30 q31 q32 q33 q34 q35 q36 q37 q38 q39 q40 q41 q42 x0 h0 H.size) [0] rfl rfl 0 rfl rfl (by decide) rfl hl.1 rfl (Nat.le_of_ble_eq_true rfl) dX12_dead_8 (cells2 := 0) (slots2 := 0) (by decide)) [0] [] rfl rfl (by decide) (cells2 := 0) (slots2 := 0) (by decide) (fun u1 H locs w => ?_)
  have w : Wd s G A [(q0, .inr (12, [.int 1, .int 0, .int 0, .int 0, .int 0, .int 0, .int 0, .int (-1), .ref q1, .ref q2, .ref q3, .int 0, .ref q4, .ref q5, .ref q6, .ref q7, .ref q8, .ref q9, .ref q10, .int 0, .ref q11, .ref q12, .ref q13, .ref q14, .ref q15, .ref q16, .ref q17, .int 0, .int (-1), .int 0, .ref q18, .ref q19, .ref q20, .ref q21, .ref q22, .ref q23, .ref q24, .ref q25, .int 0, .ref q26, .ref q27, .ref q28, .ref q29, .ref q30, .int 0, .ref q31, .ref q32, .ref q33, .ref q34, .int 0, .ref q35, .ref q36, .ref q37, .ref q38, .int 0, .int 0, .ref q39, .ref q40, .ref q41, .ref q42]))] H locs := w
  refine lv_if_ne (tgt := 16) hx hb dX12_dead_11 (by decide) (fun h => absurd (by decide) h) (fun _ => ?_)
  refine lv_iconst (v := 0) hx hb dX12_dead_14 (by decide) ?_
  exact e_i C hr w (fun _ => 0) [0] rfl rfl rfl dX12_dead_15 (by decide) (by decide)
set_option maxRecDepth 100000 in
set_option maxHeartbeats 4000000 in
theorem k133_dead {l : Launch} {s0 : State} {a0 : Array Value} {G : GT} (b0 : B0 l s0 a0 G) (q0 : Nat) (x0 : Int32) (x1 : Int32) (h0 : 3000 < x0) (h1 : ¬ x0 < 1) (sz : Nat) : Kx l s0 G yX11_dead cX11_dead 4 (some .int) { frames := 8, cells := 1, slots := 6, locals := 132 } [.ref q0, .int x0, .int x1] [] sz "java/lang/IllegalArgumentException" := by
  refine Kx.of b0 (own := RX11) (nm := "dead") [(0, .ref q0), (1, .int x0), (2, .int x1)] rfl rfl (by decide +kernel) (Nat.le_of_ble_eq_true rfl) rfl ?_
  intro p e s m below meth c A C ht H locs w ls hl
  have hx := C.hx
  have hb := C.hb
  refine lv_iload_n hx hb dX11_dead_0 rfl (lv_at hl 1 rfl) ?_
  refine fin_x C w (run_Sx C w ms_X11_161 (k99_needMost C.b0 x0 h0 h1 H.size) [] rfl rfl (by decide) rfl hl.1 rfl (Nat.le_of_ble_eq_true rfl) dX11_dead_1 (cells2 := 1) (slots2 := 6) (by decide)) [] [] rfl rfl (by decide) (cells2 := 1) (slots2 := 6) (by decide) (fun qx2 ce H locs w hce hcv hcl => ?_)
  have w : Wd s G A [] H locs := w
  exact r_out C ht w [] rfl rfl hce hcv hcl (by decide) (by decide)
set_option maxRecDepth 100000 in
set_option maxHeartbeats 4000000 in
theorem k134_dead {l : Launch} {s0 : State} {a0 : Array Value} {G : GT} (b0 : B0 l s0 a0 G) (q0 q1 q2 q3 q4 q5 q6 q7 q8 q9 q10 q11 : Nat) (x0 : Int32) (x1 : Int32) (h0 : 3000 < x0) (h1 : ¬ x0 < 1) (sz : Nat) : Kh l s0 G yL_dead cL_dead 5 (some .int) [(0, 10, 13, 13)] { frames := 9, cells := 1, slots := 6, locals := 155 } [.ref q0, .int x0, .int x1, .ref q1] [(q0, .inr (11, [.ref q2, .ref q3, .ref q4, .ref q5, .ref q6, .ref q7, .ref q8, .ref q9, .ref q10, .ref q11, .int 0, .int (-1), .int 0, .int 0, .null, .null, .null, .null, .null]))] sz 1 (fun u => [(q0, .inr (11, [.ref q2, .ref q3, .ref q4, .ref q5, .ref q6, .ref q7, .ref q8, .ref q9, .ref q10, .ref q11, .int 0, .int (-1), .int 0, .int 0, .null, .null, .null, .null, .null]))]) := by
  refine Kh.of b0 (own := RL) (nm := "dead") [(0, .ref q0), (1, .int x0), (2, .int x1), (3, .ref q1)] rfl rfl (by decide +kernel) (Nat.le_of_ble_eq_true rfl) rfl ?_
  intro p e s m below meth c A C hr ht H locs w ls hl
  have hx := C.hx
  have hb := C.hb
  refine lv_aload_n hx hb dL_dead_0 rfl (lv_at hl 3 rfl) ?_
  refine lv_iconst (v := 0) hx hb dL_dead_1 (by decide) ?_
  refine lv_aload_n hx hb dL_dead_2 rfl (lv_at hl 0 rfl) ?_
  refine lv_iload_n hx hb dL_dead_3 rfl (lv_at hl 1 rfl) ?_
  refine lv_iload_n hx hb dL_dead_4 rfl (lv_at hl 2 rfl) ?_
  refine fin_x C w (run_Vx C w mv_L_51 (k133_dead C.b0 q0 x0 x1 h0 h1 H.size) [] rfl rfl 0 rfl rfl (by decide) rfl hl.1 rfl (Nat.le_of_ble_eq_true rfl) dL_dead_5 (cells2 := 1) (slots2 := 6) (by decide)) [] [0] rfl rfl (by decide) (cells2 := 1) (slots2 := 6) (by decide) (fun qx2 ce H locs w hce hcv hcl => ?_)
  have w : Wd s G A [(q0, .inr (11, [.ref q2, .ref q3, .ref q4, .ref q5, .ref q6, .ref q7, .ref q8, .ref q9, .ref q10, .ref q11, .int 0, .int (-1), .int 0, .int 0, .null, .null, .null, .null, .null]))] H locs := w
  refine r_catch C ht (by decide) (by decide) tl_L_13 tk_java_lang_IllegalArgumentException hce hcv hcl ?_
  refine lv_astore (lv' := [(4, .ref qx2), (0, .ref q0), (1, .int x0), (2, .int x1), (3, .ref q1)]) hx hb dL_dead_13 hl (by decide) rfl (fun ls hl => ?_)
  refine lv_iconst (v := 1) hx hb dL_dead_15 (by decide) ?_
  exact e_i C hr w (fun _ => 0) [0] rfl rfl rfl dL_dead_16 (by decide) (by decide)
set_option maxRecDepth 100000 in
set_option maxHeartbeats 4000000 in
theorem k135_dead {l : Launch} {s0 : State} {a0 : Array Value} {G : GT} (b0 : B0 l s0 a0 G) (q0 q1 q2 q3 q4 q5 q6 q7 q8 q9 q10 q11 q12 q13 q14 q15 q16 q17 q18 q19 q20 q21 q22 q23 q24 q25 q26 q27 q28 q29 q30 q31 q32 q33 q34 q35 q36 q37 q38 q39 q40 q41 q42 : Nat) (x0 : Int32) (x1 : Int32) (h0 : 3000 < x0) (h1 : ¬ x0 < 1) (sz : Nat) : Ki l s0 G yX12_dead cX12_dead 5 (some .int) { frames := 2, cells := 0, slots := 0, locals := 44 } [.ref q0, .int x0, .int x1] [(q0, .inr (12, [.int 0, .int 0, .int 0, .int 0, .int 0, .int 0, .int 0, .int (-1), .ref q1, .ref q2, .ref q3, .int 0, .ref q4, .ref q5, .ref q6, .ref q7, .ref q8, .ref q9, .ref q10, .int 0, .ref q11, .ref q12, .ref q13, .ref q14, .ref q15, .ref q16, .ref q17, .int 0, .int (-1), .int 0, .ref q18, .ref q19, .ref q20, .ref q21, .ref q22, .ref q23, .ref q24, .ref q25, .int 0, .ref q26, .ref q27, .ref q28, .ref q29, .ref q30, .int 0, .ref q31, .ref q32, .ref q33, .ref q34, .int 0, .ref q35, .ref q36, .ref q37, .ref q38, .int 0, .int 0, .ref q39, .ref q40, .ref q41, .ref q42]))] sz 0 (fun u => [(q0, .inr (12, [.int 1, .int 0, .int 0, .int 0, .int 0, .int 0, .int 0, .int (-1), .ref q1, .ref q2, .ref q3, .int 0, .ref q4, .ref q5, .ref q6, .ref q7, .ref q8, .ref q9, .ref q10, .int 0, .ref q11, .ref q12, .ref q13, .ref q14, .ref q15, .ref q16, .ref q17, .int 0, .int (-1), .int 0, .ref q18, .ref q19, .ref q20, .ref q21, .ref q22, .ref q23, .ref q24, .ref q25, .int 0, .ref q26, .ref q27, .ref q28, .ref q29, .ref q30, .int 0, .ref q31, .ref q32, .ref q33, .ref q34, .int 0, .ref q35, .ref q36, .ref q37, .ref q38, .int 0, .int 0, .ref q39, .ref q40, .ref q41, .ref q42]))]) := by
  refine Ki.of b0 (own := RX12) (nm := "dead") [(0, .ref q0), (1, .int x0), (2, .int x1)] rfl rfl (by decide +kernel) (Nat.le_of_ble_eq_true rfl) rfl ?_
  intro p e s m below meth c A C hr H locs w ls hl
  have hx := C.hx
  have hb := C.hb
  refine lv_aload_n hx hb dX12_dead_0 rfl (lv_at hl 0 rfl) ?_
  refine lv_iconst (v := 0) hx hb dX12_dead_1 (by decide) ?_
  refine r_put C w 0 rfl fl_X12_1 (Nat.le_of_ble_eq_true rfl) rfl rfl dX12_dead_2 (ws2 := [(q0, .inr (12, [.int 0, .int 0, .int 0, .int 0, .int 0, .int 0, .int 0, .int (-1), .ref q1, .ref q2, .ref q3, .int 0, .ref q4, .ref q5, .ref q6, .ref q7, .ref q8, .ref q9, .ref q10, .int 0, .ref q11, .ref q12, .ref q13, .ref q14, .ref q15, .ref q16, .ref q17, .int 0, .int (-1), .int 0, .ref q18, .ref q19, .ref q20, .ref q21, .ref q22, .ref q23, .ref q24, .ref q25, .int 0, .ref q26, .ref q27, .ref q28, .ref q29, .ref q30, .int 0, .ref q31, .ref q32, .ref q33, .ref q34, .int 0, .ref q35, .ref q36, .ref q37, .ref q38, .int 0, .int 0, .ref q39, .ref q40, .ref q41, .ref q42]))]) rfl (fun H locs w => ?_)
  refine lv_aload_n hx hb dX12_dead_5 rfl (lv_at hl 0 rfl) ?_
  refine lv_iload_n hx hb dX12_dead_6 rfl (lv_at hl 1 rfl) ?_
  refine lv_iconst (v := 1) hx hb dX12_dead_7 (by decide) ?_
  refine fin_i C w (run_V C w mv_X12_336 (k103_isMost C.b0 q0 q1 q2 q3 q4 q5 q6 q7 q8 q9 q10 q11 q12 q13 q14 q15 q16 q17 q18 q19 q20 q21 q22 q23 q24 q25 q26 q27 q28 q29 q30 q31 q32 q33 q34 q35 q36 q37 q38 q39 q40 q41 q42 x0 h0 h1 H.size) [0] rfl rfl 0 rfl rfl (by decide) rfl hl.1 rfl (Nat.le_of_ble_eq_true rfl) dX12_dead_8 (cells2 := 0) (slots2 := 0) (by decide)) [0] [] rfl rfl (by decide) (cells2 := 0) (slots2 := 0) (by decide) (fun u1 H locs w => ?_)
  have w : Wd s G A [(q0, .inr (12, [.int 1, .int 0, .int 0, .int 0, .int 0, .int 0, .int 0, .int (-1), .ref q1, .ref q2, .ref q3, .int 0, .ref q4, .ref q5, .ref q6, .ref q7, .ref q8, .ref q9, .ref q10, .int 0, .ref q11, .ref q12, .ref q13, .ref q14, .ref q15, .ref q16, .ref q17, .int 0, .int (-1), .int 0, .ref q18, .ref q19, .ref q20, .ref q21, .ref q22, .ref q23, .ref q24, .ref q25, .int 0, .ref q26, .ref q27, .ref q28, .ref q29, .ref q30, .int 0, .ref q31, .ref q32, .ref q33, .ref q34, .int 0, .ref q35, .ref q36, .ref q37, .ref q38, .int 0, .int 0, .ref q39, .ref q40, .ref q41, .ref q42]))] H locs := w
  refine lv_if_ne (tgt := 16) hx hb dX12_dead_11 (by decide) (fun h => absurd (by decide) h) (fun _ => ?_)
  refine lv_iconst (v := 0) hx hb dX12_dead_14 (by decide) ?_
  exact e_i C hr w (fun _ => 0) [0] rfl rfl rfl dX12_dead_15 (by decide) (by decide)
set_option maxRecDepth 100000 in
set_option maxHeartbeats 4000000 in
theorem k136_isDead {l : Launch} {s0 : State} {a0 : Array Value} {G : GT} (b0 : B0 l s0 a0 G) (q0 q1 q2 q3 q4 q5 q6 q7 q8 q9 q10 q11 q12 q13 q14 q15 q16 q17 q18 q19 q20 q21 : Nat) (sz : Nat) : Ki l s0 G yX1_isDead cX1_isDead 3 (some .boolean) { frames := 0, cells := 0, slots := 0, locals := 0 } [.ref q0, .int 0] [(q0, .inr (1, [.int 0, .ref q1, .ref q2, .ref q3, .ref q4, .ref q5, .ref q6, .ref q7, .int 1])), (q1, .inr (2, [.int 0, .int 0, .ref q8, .ref q9, .ref q10, .ref q11, .ref q12, .ref q13, .ref q14, .ref q15, .ref q16, .ref q17, .ref q18, .ref q19, .ref q20, .ref q21, .int 0]))] sz 1 (fun u => [(q0, .inr (1, [.int 0, .ref q1, .ref q2, .ref q3, .ref q4, .ref q5, .ref q6, .ref q7, .int 1])), (q1, .inr (2, [.int 0, .int 0, .ref q8, .ref q9, .ref q10, .ref q11, .ref q12, .ref q13, .ref q14, .ref q15, .ref q16, .ref q17, .ref q18, .ref q19, .ref q20, .ref q21, .int 0]))]) := by
  refine Ki.of b0 (own := RX1) (nm := "isDead") [(0, .ref q0), (1, .int 0)] rfl rfl (by decide +kernel) (Nat.le_of_ble_eq_true rfl) rfl ?_
  intro p e s m below meth c A C hr H locs w ls hl
  have hx := C.hx
  have hb := C.hb
  refine lv_iconst (v := 0) hx hb dX1_isDead_0 (by decide) ?_
  refine lv_istore_n (lv' := [(2, .int 0), (0, .ref q0), (1, .int 0)]) hx hb dX1_isDead_1 rfl hl (by decide) rfl (fun ls hl => ?_)
  refine lv_iload_n hx hb dX1_isDead_2 rfl (lv_at hl 0 rfl) ?_
  refine lv_aload_n hx hb dX1_isDead_3 rfl (lv_at hl 1 rfl) ?_
  refine r_get C w 0 rfl fr_X1_40 rfl dX1_isDead_4 ?_
  refine r_get C w 1 rfl fr_X1_63 rfl dX1_isDead_7 ?_
  refine lv_icmp_ge (tgt := 36) hx hb dX1_isDead_10 (by decide) (fun _ => ?_) (fun h => absurd (by decide) h)
  refine lv_iconst (v := 1) hx hb dX1_isDead_36 (by decide) ?_
  exact e_i C hr w (fun _ => 0) [0, 1] rfl rfl (by decide) dX1_isDead_37 (by decide) (by decide)
set_option maxRecDepth 100000 in
set_option maxHeartbeats 4000000 in
theorem k137_deadState {l : Launch} {s0 : State} {a0 : Array Value} {G : GT} (b0 : B0 l s0 a0 G) (q0 q1 q2 q3 q4 q5 q6 q7 q8 q9 q10 q11 q12 q13 q14 q15 q16 q17 q18 q19 q20 q21 q22 q23 : Nat) (x0 : Int32) (h0 : 0 = x0) (sz : Nat) : Ki l s0 G yX1_deadState cX1_deadState 4 (some .int) { frames := 1, cells := 0, slots := 0, locals := 22 } [.ref q0, .int x0] [(q0, .inr (1, [.int 0, .ref q2, .ref q3, .ref q1, .ref q4, .ref q5, .ref q6, .ref q7, .int 1])), (q1, .inr (7, [.ref q8, .int 0, .int 1, .int 3008, .ref q9])), (q2, .inr (2, [.int 0, .int 0, .ref q10, .ref q11, .ref q12, .ref q13, .ref q14, .ref q15, .ref q16, .ref q17, .ref q18, .ref q19, .ref q20, .ref q21, .ref q22, .ref q23, .int 0]))] sz 0 (fun u => [(q0, .inr (1, [.int 0, .ref q2, .ref q3, .ref q1, .ref q4, .ref q5, .ref q6, .ref q7, .int 1])), (q1, .inr (7, [.ref q8, .int 0, .int 1, .int 3008, .ref q9])), (q2, .inr (2, [.int 0, .int 0, .ref q10, .ref q11, .ref q12, .ref q13, .ref q14, .ref q15, .ref q16, .ref q17, .ref q18, .ref q19, .ref q20, .ref q21, .ref q22, .ref q23, .int 0]))]) := by
  refine Ki.of b0 (own := RX1) (nm := "deadState") [(0, .ref q0), (1, .int x0)] rfl rfl (by decide +kernel) (Nat.le_of_ble_eq_true rfl) rfl ?_
  intro p e s m below meth c A C hr H locs w ls hl
  have hx := C.hx
  have hb := C.hb
  refine lv_iconst (v := 0) hx hb dX1_deadState_0 (by decide) ?_
  refine lv_istore_n (lv' := [(2, .int 0), (0, .ref q0), (1, .int x0)]) hx hb dX1_deadState_1 rfl hl (by decide) rfl (fun ls hl => ?_)
  refine lv_iconst (v := 0) hx hb dX1_deadState_2 (by decide) ?_
  refine lv_istore_n (lv' := [(3, .int 0), (2, .int 0), (0, .ref q0), (1, .int x0)]) hx hb dX1_deadState_3 rfl hl (by decide) rfl (fun ls hl => ?_)
  refine lv_iload_n hx hb dX1_deadState_4 rfl (lv_at hl 0 rfl) ?_
  refine lv_aload_n hx hb dX1_deadState_5 rfl (lv_at hl 2 rfl) ?_
  refine r_get C w 0 rfl fr_X1_24 rfl dX1_deadState_6 ?_
  refine r_get C w 1 rfl fr_X1_60 rfl dX1_deadState_9 ?_
  refine lv_icmp_ge (tgt := 39) hx hb dX1_deadState_12 (by decide) (fun h => absurd h (by decide)) (fun _ => ?_)
  refine lv_aload_n hx hb dX1_deadState_15 rfl (lv_at hl 2 rfl) ?_
  refine lv_iload_n hx hb dX1_deadState_16 rfl (lv_at hl 0 rfl) ?_
  refine fin_i C w (run_V C w mv_X1_90 (k136_isDead C.b0 q0 q2 q3 q1 q4 q5 q6 q7 q10 q11 q12 q13 q14 q15 q16 q17 q18 q19 q20 q21 q22 q23 H.size) [0, 2] rfl rfl 0 rfl rfl (by decide) rfl hl.1 rfl (Nat.le_of_ble_eq_true rfl) dX1_deadState_17 (cells2 := 0) (slots2 := 0) (by decide)) [0, 2] [1] rfl rfl (by decide) (cells2 := 0) (slots2 := 0) (by decide) (fun u1 H locs w => ?_)
  have w : Wd s G A [(q1, .inr (7, [.ref q8, .int 0, .int 1, .int 3008, .ref q9])), (q0, .inr (1, [.int 0, .ref q2, .ref q3, .ref q1, .ref q4, .ref q5, .ref q6, .ref q7, .int 1])), (q2, .inr (2, [.int 0, .int 0, .ref q10, .ref q11, .ref q12, .ref q13, .ref q14, .ref q15, .ref q16, .ref q17, .ref q18, .ref q19, .ref q20, .ref q21, .ref q22, .ref q23, .int 0]))] H locs := w
  refine lv_if_eq (tgt := 33) hx hb dX1_deadState_20 (by decide) (fun h => absurd h (by decide)) (fun _ => ?_)
  refine lv_iload_n hx hb dX1_deadState_23 rfl (lv_at hl 1 rfl) ?_
  refine lv_iload_n hx hb dX1_deadState_24 rfl (lv_at hl 3 rfl) ?_
  refine lv_icmp_ne (tgt := 30) hx hb dX1_deadState_25 (by decide) (fun h => absurd h0 h) (fun _ => ?_)
  refine lv_iload_n hx hb dX1_deadState_28 rfl (lv_at hl 0 rfl) ?_
  exact e_i C hr w (fun _ => 0) [1, 0, 2] rfl rfl rfl dX1_deadState_29 (by decide) (by decide)
set_option maxRecDepth 100000 in
set_option maxHeartbeats 4000000 in
theorem k138_dead {l : Launch} {s0 : State} {a0 : Array Value} {G : GT} (b0 : B0 l s0 a0 G) (q0 q1 q2 q3 q4 q5 q6 q7 q8 q9 q10 q11 q12 q13 q14 q15 q16 q17 q18 q19 q20 q21 q22 q23 q24 q25 q26 q27 : Nat) (x0 : Int32) (x1 : Int32) (h0 : 0 = x1) (h1 : ¬ 3000 < x0) (h2 : ¬ x0 < 1) (sz : Nat) : Ki l s0 G yX11_dead cX11_dead 4 (some .int) { frames := 4, cells := 9, slots := 65366, locals := 168 } [.ref q0, .int x0, .int x1] [(q0, .inr (11, [.ref q4, .ref q5, .ref q1, .ref q6, .ref q7, .ref q8, .ref q9, .ref q10, .ref q2, .ref q11, .int 0, .int (-1), .int 0, .int 0, .null, .null, .null, .null, .null])), (q1, .inr (5, [.ref q3, .ref q12, .ref q13, .int 0])), (q2, .inr (2, [.int 0, .int 0, .ref q14, .ref q15, .ref q16, .ref q17, .ref q18, .ref q19, .ref q20, .ref q21, .ref q22, .ref q23, .ref q24, .ref q25, .ref q26, .ref q27, .int 0])), (q3, .inl (G.2.1, 8, .inl (fun _ => 0)))] sz 0 (fun u => [(q0, .inr (11, [.ref q4, .ref q5, .ref q1, .ref q6, .ref q7, .ref q8, .ref q9, .ref q10, .ref q2, .ref q11, .int 0, .int (-1), .int 0, .int 0, .ref (u 0), .null, .null, .null, .null])), (q1, .inr (5, [.ref q3, .ref q12, .ref q13, .int 0])), (q2, .inr (2, [.int 0, .int 0, .ref q14, .ref q15, .ref q16, .ref q17, .ref q18, .ref q19, .ref q20, .ref q21, .ref q22, .ref q23, .ref q24, .ref q25, .ref q26, .ref q27, .int 0])), (q3, .inl (G.2.1, 8, .inl (fun _ => 0))), ((u 0), .inr (1, [.int 0, .ref q2, .ref (u 1), .ref (u 2), .ref (u 5), .ref (u 6), .ref (u 7), .ref (u 8), .int 1])), ((u 1), .inl (G.2.1, 24064, .inl (fun _ => 0))), ((u 2), .inr (7, [.ref (u 3), .int 0, .int 1, .int 3008, .ref (u 4)])), ((u 3), .inl (G.2.1, 24064, .inl (fun _ => 0))), ((u 4), .inl (G.2.1, 8192, .inl (upd (fun _ => (-1)) 7 0))), ((u 5), .inl (G.2.1, 3008, .inl (fun _ => 0))), ((u 6), .inl (G.2.1, 3008, .inl (upd (fun _ => 0) 0 (-1)))), ((u 7), .inl (G.2.1, 3008, .inl (upd (fun _ => 0) 0 (-1)))), ((u 8), .inl (G.2.1, 8, .inl (fun _ => 0)))]) := by
  refine Ki.of b0 (own := RX11) (nm := "dead") [(0, .ref q0), (1, .int x0), (2, .int x1)] rfl rfl (by decide +kernel) (Nat.le_of_ble_eq_true rfl) rfl ?_
  intro p e s m below meth c A C hr H locs w ls hl
  have hx := C.hx
  have hb := C.hb
  refine lv_iload_n hx hb dX11_dead_0 rfl (lv_at hl 1 rfl) ?_
  refine fin_v C w (run_S C w ms_X11_161 (k106_needMost C.b0 x0 h1 h2 H.size) [] rfl rfl (by decide) rfl hl.1 rfl (Nat.le_of_ble_eq_true rfl) dX11_dead_1 (cells2 := 0) (slots2 := 0) (by decide)) [] [0, 1, 2, 3] rfl rfl (by decide) (cells2 := 0) (slots2 := 0) (by decide) (fun u1 H locs w => ?_)
  have w : Wd s G A [(q0, .inr (11, [.ref q4, .ref q5, .ref q1, .ref q6, .ref q7, .ref q8, .ref q9, .ref q10, .ref q2, .ref q11, .int 0, .int (-1), .int 0, .int 0, .null, .null, .null, .null, .null])), (q1, .inr (5, [.ref q3, .ref q12, .ref q13, .int 0])), (q2, .inr (2, [.int 0, .int 0, .ref q14, .ref q15, .ref q16, .ref q17, .ref q18, .ref q19, .ref q20, .ref q21, .ref q22, .ref q23, .ref q24, .ref q25, .ref q26, .ref q27, .int 0])), (q3, .inl (G.2.1, 8, .inl (fun _ => 0)))] H locs := w
  refine lv_aload_n hx hb dX11_dead_4 rfl (lv_at hl 0 rfl) ?_
  refine lv_iload_n hx hb dX11_dead_5 rfl (lv_at hl 1 rfl) ?_
  refine fin_r C w (run_V C w mv_X11_164 (k114_explored C.b0 q0 q1 q2 q3 q4 q5 q6 q7 q8 q9 q10 q11 q12 q13 q14 q15 q16 q17 q18 q19 q20 q21 q22 q23 q24 q25 q26 q27 x0 h2 H.size) [0, 1, 2, 3] rfl rfl 0 rfl rfl (by decide) rfl hl.1 rfl (Nat.le_of_ble_eq_true rfl) dX11_dead_6 (cells2 := 9) (slots2 := 65366) (by decide)) [0, 1, 2, 3] [] rfl rfl (by decide) (cells2 := 9) (slots2 := 65366) (by decide) (fun u2 H locs w => ?_)
  have w : Wd s G A [(q0, .inr (11, [.ref q4, .ref q5, .ref q1, .ref q6, .ref q7, .ref q8, .ref q9, .ref q10, .ref q2, .ref q11, .int 0, .int (-1), .int 0, .int 0, .ref (u2 0), .null, .null, .null, .null])), (q1, .inr (5, [.ref q3, .ref q12, .ref q13, .int 0])), (q2, .inr (2, [.int 0, .int 0, .ref q14, .ref q15, .ref q16, .ref q17, .ref q18, .ref q19, .ref q20, .ref q21, .ref q22, .ref q23, .ref q24, .ref q25, .ref q26, .ref q27, .int 0])), (q3, .inl (G.2.1, 8, .inl (fun _ => 0))), ((u2 0), .inr (1, [.int 0, .ref q2, .ref (u2 1), .ref (u2 2), .ref (u2 5), .ref (u2 6), .ref (u2 7), .ref (u2 8), .int 1])), ((u2 1), .inl (G.2.1, 24064, .inl (fun _ => 0))), ((u2 2), .inr (7, [.ref (u2 3), .int 0, .int 1, .int 3008, .ref (u2 4)])), ((u2 3), .inl (G.2.1, 24064, .inl (fun _ => 0))), ((u2 4), .inl (G.2.1, 8192, .inl (upd (fun _ => (-1)) 7 0))), ((u2 5), .inl (G.2.1, 3008, .inl (fun _ => 0))), ((u2 6), .inl (G.2.1, 3008, .inl (upd (fun _ => 0) 0 (-1)))), ((u2 7), .inl (G.2.1, 3008, .inl (upd (fun _ => 0) 0 (-1)))), ((u2 8), .inl (G.2.1, 8, .inl (fun _ => 0)))] H locs := w
  refine lv_astore_n (lv' := [(3, .ref (u2 0)), (0, .ref q0), (1, .int x0), (2, .int x1)]) hx hb dX11_dead_9 rfl hl (by decide) rfl (fun ls hl => ?_)
  refine lv_aload_n hx hb dX11_dead_10 rfl (lv_at hl 0 rfl) ?_
  refine lv_iload_n hx hb dX11_dead_11 rfl (lv_at hl 2 rfl) ?_
  refine fin_i C w (run_V C w mv_X11_168 (k115_isBeyond C.b0 (u2 0) (u2 2) q2 (u2 1) (u2 5) (u2 6) (u2 7) (u2 8) (u2 3) (u2 4) x0 h2 H.size) [4, 6] rfl rfl 4 rfl rfl (by decide) rfl hl.1 rfl (Nat.le_of_ble_eq_true rfl) dX11_dead_12 (cells2 := 9) (slots2 := 65366) (by decide)) [4, 6] [0, 1, 2, 3, 5, 7, 8, 9, 10, 11, 12] rfl rfl (by decide) (cells2 := 9) (slots2 := 65366) (by decide) (fun u3 H locs w => ?_)
  have w : Wd s G A [(q0, .inr (11, [.ref q4, .ref q5, .ref q1, .ref q6, .ref q7, .ref q8, .ref q9, .ref q10, .ref q2, .ref q11, .int 0, .int (-1), .int 0, .int 0, .ref (u2 0), .null, .null, .null, .null])), (q1, .inr (5, [.ref q3, .ref q12, .ref q13, .int 0])), (q2, .inr (2, [.int 0, .int 0, .ref q14, .ref q15, .ref q16, .ref q17, .ref q18, .ref q19, .ref q20, .ref q21, .ref q22, .ref q23, .ref q24, .ref q25, .ref q26, .ref q27, .int 0])), (q3, .inl (G.2.1, 8, .inl (fun _ => 0))), ((u2 1), .inl (G.2.1, 24064, .inl (fun _ => 0))), ((u2 3), .inl (G.2.1, 24064, .inl (fun _ => 0))), ((u2 4), .inl (G.2.1, 8192, .inl (upd (fun _ => (-1)) 7 0))), ((u2 5), .inl (G.2.1, 3008, .inl (fun _ => 0))), ((u2 6), .inl (G.2.1, 3008, .inl (upd (fun _ => 0) 0 (-1)))), ((u2 7), .inl (G.2.1, 3008, .inl (upd (fun _ => 0) 0 (-1)))), ((u2 8), .inl (G.2.1, 8, .inl (fun _ => 0))), ((u2 0), .inr (1, [.int 0, .ref q2, .ref (u2 1), .ref (u2 2), .ref (u2 5), .ref (u2 6), .ref (u2 7), .ref (u2 8), .int 1])), ((u2 2), .inr (7, [.ref (u2 3), .int 0, .int 1, .int 3008, .ref (u2 4)]))] H locs := w
  refine lv_if_eq (tgt := 23) hx hb dX11_dead_15 (by decide) (fun _ => ?_) (fun h => absurd (by decide) h)
  refine lv_aload_n hx hb dX11_dead_23 rfl (lv_at hl 0 rfl) ?_
  refine lv_iload_n hx hb dX11_dead_24 rfl (lv_at hl 3 rfl) ?_
  refine fin_i C w (run_V C w mv_X11_180 (k137_deadState C.b0 (u2 0) (u2 2) q2 (u2 1) (u2 5) (u2 6) (u2 7) (u2 8) (u2 3) (u2 4) q14 q15 q16 q17 q18 q19 q20 q21 q22 q23 q24 q25 q26 q27 x1 h0 H.size) [11, 12, 2] rfl rfl 11 rfl rfl (by decide) rfl hl.1 rfl (Nat.le_of_ble_eq_true rfl) dX11_dead_25 (cells2 := 9) (slots2 := 65366) (by decide)) [11, 12, 2] [0, 1, 3, 4, 5, 6, 7, 8, 9, 10] rfl rfl (by decide) (cells2 := 9) (slots2 := 65366) (by decide) (fun u4 H locs w => ?_)
  have w : Wd s G A [(q0, .inr (11, [.ref q4, .ref q5, .ref q1, .ref q6, .ref q7, .ref q8, .ref q9, .ref q10, .ref q2, .ref q11, .int 0, .int (-1), .int 0, .int 0, .ref (u2 0), .null, .null, .null, .null])), (q1, .inr (5, [.ref q3, .ref q12, .ref q13, .int 0])), (q3, .inl (G.2.1, 8, .inl (fun _ => 0))), ((u2 1), .inl (G.2.1, 24064, .inl (fun _ => 0))), ((u2 3), .inl (G.2.1, 24064, .inl (fun _ => 0))), ((u2 4), .inl (G.2.1, 8192, .inl (upd (fun _ => (-1)) 7 0))), ((u2 5), .inl (G.2.1, 3008, .inl (fun _ => 0))), ((u2 6), .inl (G.2.1, 3008, .inl (upd (fun _ => 0) 0 (-1)))), ((u2 7), .inl (G.2.1, 3008, .inl (upd (fun _ => 0) 0 (-1)))), ((u2 8), .inl (G.2.1, 8, .inl (fun _ => 0))), ((u2 0), .inr (1, [.int 0, .ref q2, .ref (u2 1), .ref (u2 2), .ref (u2 5), .ref (u2 6), .ref (u2 7), .ref (u2 8), .int 1])), ((u2 2), .inr (7, [.ref (u2 3), .int 0, .int 1, .int 3008, .ref (u2 4)])), (q2, .inr (2, [.int 0, .int 0, .ref q14, .ref q15, .ref q16, .ref q17, .ref q18, .ref q19, .ref q20, .ref q21, .ref q22, .ref q23, .ref q24, .ref q25, .ref q26, .ref q27, .int 0]))] H locs := w
  exact e_i C hr w (fun k => [(u2 0), (u2 1), (u2 2), (u2 3), (u2 4), (u2 5), (u2 6), (u2 7), (u2 8)].getD k 0) [0, 1, 12, 2, 10, 3, 11, 4, 5, 6, 7, 8, 9] rfl rfl rfl dX11_dead_28 (by decide) (by decide)
set_option maxRecDepth 100000 in
set_option maxHeartbeats 4000000 in
theorem k139_dead {l : Launch} {s0 : State} {a0 : Array Value} {G : GT} (b0 : B0 l s0 a0 G) (q0 q1 q2 q3 q4 q5 q6 q7 q8 q9 q10 q11 q12 q13 q14 q15 q16 q17 q18 q19 q20 q21 q22 q23 q24 q25 q26 q27 q28 : Nat) (x0 : Int32) (x1 : Int32) (h0 : 0 = x1) (h1 : ¬ 3000 < x0) (h2 : ¬ x0 < 1) (sz : Nat) : Kh l s0 G yL_dead cL_dead 5 (some .int) [(0, 10, 13, 13)] { frames := 5, cells := 9, slots := 65366, locals := 191 } [.ref q0, .int x0, .int x1, .ref q4] [(q0, .inr (11, [.ref q5, .ref q6, .ref q1, .ref q7, .ref q8, .ref q9, .ref q10, .ref q11, .ref q2, .ref q12, .int 0, .int (-1), .int 0, .int 0, .null, .null, .null, .null, .null])), (q1, .inr (5, [.ref q3, .ref q13, .ref q14, .int 0])), (q2, .inr (2, [.int 0, .int 0, .ref q15, .ref q16, .ref q17, .ref q18, .ref q19, .ref q20, .ref q21, .ref q22, .ref q23, .ref q24, .ref q25, .ref q26, .ref q27, .ref q28, .int 0])), (q3, .inl (G.2.1, 8, .inl (fun _ => 0))), (q4, .inl (G.2.2.1, 1, .inr (.inl (fun _ => 0))))] sz 0 (fun u => [(q0, .inr (11, [.ref q5, .ref q6, .ref q1, .ref q7, .ref q8, .ref q9, .ref q10, .ref q11, .ref q2, .ref q12, .int 0, .int (-1), .int 0, .int 0, .ref (u 0), .null, .null, .null, .null])), (q1, .inr (5, [.ref q3, .ref q13, .ref q14, .int 0])), (q2, .inr (2, [.int 0, .int 0, .ref q15, .ref q16, .ref q17, .ref q18, .ref q19, .ref q20, .ref q21, .ref q22, .ref q23, .ref q24, .ref q25, .ref q26, .ref q27, .ref q28, .int 0])), (q3, .inl (G.2.1, 8, .inl (fun _ => 0))), (q4, .inl (G.2.2.1, 1, .inr (.inl (fun _ => 0)))), ((u 0), .inr (1, [.int 0, .ref q2, .ref (u 1), .ref (u 2), .ref (u 5), .ref (u 6), .ref (u 7), .ref (u 8), .int 1])), ((u 1), .inl (G.2.1, 24064, .inl (fun _ => 0))), ((u 2), .inr (7, [.ref (u 3), .int 0, .int 1, .int 3008, .ref (u 4)])), ((u 3), .inl (G.2.1, 24064, .inl (fun _ => 0))), ((u 4), .inl (G.2.1, 8192, .inl (upd (fun _ => (-1)) 7 0))), ((u 5), .inl (G.2.1, 3008, .inl (fun _ => 0))), ((u 6), .inl (G.2.1, 3008, .inl (upd (fun _ => 0) 0 (-1)))), ((u 7), .inl (G.2.1, 3008, .inl (upd (fun _ => 0) 0 (-1)))), ((u 8), .inl (G.2.1, 8, .inl (fun _ => 0)))]) := by
  refine Kh.of b0 (own := RL) (nm := "dead") [(0, .ref q0), (1, .int x0), (2, .int x1), (3, .ref q4)] rfl rfl (by decide +kernel) (Nat.le_of_ble_eq_true rfl) rfl ?_
  intro p e s m below meth c A C hr ht H locs w ls hl
  have hx := C.hx
  have hb := C.hb
  refine lv_aload_n hx hb dL_dead_0 rfl (lv_at hl 3 rfl) ?_
  refine lv_iconst (v := 0) hx hb dL_dead_1 (by decide) ?_
  refine lv_aload_n hx hb dL_dead_2 rfl (lv_at hl 0 rfl) ?_
  refine lv_iload_n hx hb dL_dead_3 rfl (lv_at hl 1 rfl) ?_
  refine lv_iload_n hx hb dL_dead_4 rfl (lv_at hl 2 rfl) ?_
  refine fin_i C w (run_V C w mv_L_51 (k138_dead C.b0 q0 q1 q2 q3 q5 q6 q7 q8 q9 q10 q11 q12 q13 q14 q15 q16 q17 q18 q19 q20 q21 q22 q23 q24 q25 q26 q27 q28 x0 x1 h0 h1 h2 H.size) [0, 1, 2, 3] rfl rfl 0 rfl rfl (by decide) rfl hl.1 rfl (Nat.le_of_ble_eq_true rfl) dL_dead_5 (cells2 := 9) (slots2 := 65366) (by decide)) [0, 1, 2, 3] [4] rfl rfl (by decide) (cells2 := 9) (slots2 := 65366) (by decide) (fun u1 H locs w => ?_)
  have w : Wd s G A [(q4, .inl (G.2.2.1, 1, .inr (.inl (fun _ => 0)))), (q0, .inr (11, [.ref q5, .ref q6, .ref q1, .ref q7, .ref q8, .ref q9, .ref q10, .ref q11, .ref q2, .ref q12, .int 0, .int (-1), .int 0, .int 0, .ref (u1 0), .null, .null, .null, .null])), (q1, .inr (5, [.ref q3, .ref q13, .ref q14, .int 0])), (q2, .inr (2, [.int 0, .int 0, .ref q15, .ref q16, .ref q17, .ref q18, .ref q19, .ref q20, .ref q21, .ref q22, .ref q23, .ref q24, .ref q25, .ref q26, .ref q27, .ref q28, .int 0])), (q3, .inl (G.2.1, 8, .inl (fun _ => 0))), ((u1 0), .inr (1, [.int 0, .ref q2, .ref (u1 1), .ref (u1 2), .ref (u1 5), .ref (u1 6), .ref (u1 7), .ref (u1 8), .int 1])), ((u1 1), .inl (G.2.1, 24064, .inl (fun _ => 0))), ((u1 2), .inr (7, [.ref (u1 3), .int 0, .int 1, .int 3008, .ref (u1 4)])), ((u1 3), .inl (G.2.1, 24064, .inl (fun _ => 0))), ((u1 4), .inl (G.2.1, 8192, .inl (upd (fun _ => (-1)) 7 0))), ((u1 5), .inl (G.2.1, 3008, .inl (fun _ => 0))), ((u1 6), .inl (G.2.1, 3008, .inl (upd (fun _ => 0) 0 (-1)))), ((u1 7), .inl (G.2.1, 3008, .inl (upd (fun _ => 0) 0 (-1)))), ((u1 8), .inl (G.2.1, 8, .inl (fun _ => 0)))] H locs := w
  refine lv_i2l (v := 0) hx hb dL_dead_8 (by decide +kernel) ?_
  refine r_last C w 0 rfl (IX.of (k := 0) (by decide +kernel)) (g := (fun _ => 0)) (updL_c _ _) dL_dead_9 (ws2 := [(q4, .inl (G.2.2.1, 1, .inr (.inl (fun _ => 0)))), (q0, .inr (11, [.ref q5, .ref q6, .ref q1, .ref q7, .ref q8, .ref q9, .ref q10, .ref q11, .ref q2, .ref q12, .int 0, .int (-1), .int 0, .int 0, .ref (u1 0), .null, .null, .null, .null])), (q1, .inr (5, [.ref q3, .ref q13, .ref q14, .int 0])), (q2, .inr (2, [.int 0, .int 0, .ref q15, .ref q16, .ref q17, .ref q18, .ref q19, .ref q20, .ref q21, .ref q22, .ref q23, .ref q24, .ref q25, .ref q26, .ref q27, .ref q28, .int 0])), (q3, .inl (G.2.1, 8, .inl (fun _ => 0))), ((u1 0), .inr (1, [.int 0, .ref q2, .ref (u1 1), .ref (u1 2), .ref (u1 5), .ref (u1 6), .ref (u1 7), .ref (u1 8), .int 1])), ((u1 1), .inl (G.2.1, 24064, .inl (fun _ => 0))), ((u1 2), .inr (7, [.ref (u1 3), .int 0, .int 1, .int 3008, .ref (u1 4)])), ((u1 3), .inl (G.2.1, 24064, .inl (fun _ => 0))), ((u1 4), .inl (G.2.1, 8192, .inl (upd (fun _ => (-1)) 7 0))), ((u1 5), .inl (G.2.1, 3008, .inl (fun _ => 0))), ((u1 6), .inl (G.2.1, 3008, .inl (upd (fun _ => 0) 0 (-1)))), ((u1 7), .inl (G.2.1, 3008, .inl (upd (fun _ => 0) 0 (-1)))), ((u1 8), .inl (G.2.1, 8, .inl (fun _ => 0)))]) rfl (fun H locs w => ?_)
  refine lv_goto (tgt := 17) hx hb dL_dead_10 (by decide) ?_
  refine lv_iconst (v := 0) hx hb dL_dead_17 (by decide) ?_
  exact e_i C hr w (fun k => [(u1 0), (u1 1), (u1 2), (u1 3), (u1 4), (u1 5), (u1 6), (u1 7), (u1 8)].getD k 0) [1, 2, 3, 4, 0, 5, 6, 7, 8, 9, 10, 11, 12, 13] rfl rfl rfl dL_dead_18 (by decide) (by decide)
set_option maxRecDepth 100000 in
set_option maxHeartbeats 4000000 in
theorem k140_isDead {l : Launch} {s0 : State} {a0 : Array Value} {G : GT} (b0 : B0 l s0 a0 G) (q0 q1 q2 q3 q4 q5 q6 q7 q8 q9 q10 q11 q12 q13 q14 q15 q16 q17 q18 q19 q20 q21 q22 q23 q24 q25 q26 q27 q28 q29 q30 q31 q32 q33 q34 q35 q36 q37 q38 q39 q40 q41 q42 : Nat) (sz : Nat) : Ki l s0 G yX12_isDead cX12_isDead 3 (some .boolean) { frames := 1, cells := 0, slots := 0, locals := 20 } [.ref q0, .int 0] [(q0, .inr (12, [.int 0, .int 0, .int 0, .int 0, .int 0, .int 0, .int 0, .int (-1), .ref q2, .ref q1, .ref q3, .int 0, .ref q4, .ref q5, .ref q6, .ref q7, .ref q8, .ref q9, .ref q10, .int 0, .ref q11, .ref q12, .ref q13, .ref q14, .ref q15, .ref q16, .ref q17, .int 1, .int (-1), .int 0, .ref q18, .ref q19, .ref q20, .ref q21, .ref q22, .ref q23, .ref q24, .ref q25, .int 0, .ref q26, .ref q27, .ref q28, .ref q29, .ref q30, .int 0, .ref q31, .ref q32, .ref q33, .ref q34, .int 0, .ref q35, .ref q36, .ref q37, .ref q38, .int 0, .int 0, .ref q39, .ref q40, .ref q41, .ref q42])), (q1, .inl (G.2.1, 242, .inl (fun _ => 0)))] sz 1 (fun u => [(q0, .inr (12, [.int 0, .int 0, .int 0, .int 0, .int 0, .int 0, .int 0, .int (-1), .ref q2, .ref q1, .ref q3, .int 0, .ref q4, .ref q5, .ref q6, .ref q7, .ref q8, .ref q9, .ref q10, .int 0, .ref q11, .ref q12, .ref q13, .ref q14, .ref q15, .ref q16, .ref q17, .int 1, .int (-1), .int 0, .ref q18, .ref q19, .ref q20, .ref q21, .ref q22, .ref q23, .ref q24, .ref q25, .int 0, .ref q26, .ref q27, .ref q28, .ref q29, .ref q30, .int 0, .ref q31, .ref q32, .ref q33, .ref q34, .int 0, .ref q35, .ref q36, .ref q37, .ref q38, .int 0, .int 0, .ref q39, .ref q40, .ref q41, .ref q42])), (q1, .inl (G.2.1, 242, .inl (fun _ => 0)))]) := by
  refine Ki.of b0 (own := RX12) (nm := "isDead") [(0, .ref q0), (1, .int 0)] rfl rfl (by decide +kernel) (Nat.le_of_ble_eq_true rfl) rfl ?_
  intro p e s m below meth c A C hr H locs w ls hl
  have hx := C.hx
  have hb := C.hb
  refine lv_iconst (v := 0) hx hb dX12_isDead_0 (by decide) ?_
  refine lv_istore_n (lv' := [(2, .int 0), (0, .ref q0), (1, .int 0)]) hx hb dX12_isDead_1 rfl hl (by decide) rfl (fun ls hl => ?_)
  refine lv_iload_n hx hb dX12_isDead_2 rfl (lv_at hl 0 rfl) ?_
  refine lv_aload_n hx hb dX12_isDead_3 rfl (lv_at hl 1 rfl) ?_
  refine fin_i C w (run_V C w mv_X12_286 (k123_acts C.b0 q0 q1 q2 q3 q4 q5 q6 q7 q8 q9 q10 q11 q12 q13 q14 q15 q16 q17 q18 q19 q20 q21 q22 q23 q24 q25 q26 q27 q28 q29 q30 q31 q32 q33 q34 q35 q36 q37 q38 q39 q40 q41 q42 H.size) [0, 1] rfl rfl 0 rfl rfl (by decide) rfl hl.1 rfl (Nat.le_of_ble_eq_true rfl) dX12_isDead_4 (cells2 := 0) (slots2 := 0) (by decide)) [0, 1] [] rfl rfl (by decide) (cells2 := 0) (slots2 := 0) (by decide) (fun u1 H locs w => ?_)
  have w : Wd s G A [(q0, .inr (12, [.int 0, .int 0, .int 0, .int 0, .int 0, .int 0, .int 0, .int (-1), .ref q2, .ref q1, .ref q3, .int 0, .ref q4, .ref q5, .ref q6, .ref q7, .ref q8, .ref q9, .ref q10, .int 0, .ref q11, .ref q12, .ref q13, .ref q14, .ref q15, .ref q16, .ref q17, .int 1, .int (-1), .int 0, .ref q18, .ref q19, .ref q20, .ref q21, .ref q22, .ref q23, .ref q24, .ref q25, .int 0, .ref q26, .ref q27, .ref q28, .ref q29, .ref q30, .int 0, .ref q31, .ref q32, .ref q33, .ref q34, .int 0, .ref q35, .ref q36, .ref q37, .ref q38, .int 0, .int 0, .ref q39, .ref q40, .ref q41, .ref q42])), (q1, .inl (G.2.1, 242, .inl (fun _ => 0)))] H locs := w
  refine lv_icmp_ge (tgt := 33) hx hb dX12_isDead_7 (by decide) (fun _ => ?_) (fun h => absurd (by decide) h)
  refine lv_iconst (v := 1) hx hb dX12_isDead_33 (by decide) ?_
  exact e_i C hr w (fun _ => 0) [0, 1] rfl rfl (by decide) dX12_isDead_34 (by decide) (by decide)
set_option maxRecDepth 100000 in
set_option maxHeartbeats 4000000 in
theorem k141_dead {l : Launch} {s0 : State} {a0 : Array Value} {G : GT} (b0 : B0 l s0 a0 G) (q0 q1 q2 q3 q4 q5 q6 q7 q8 q9 q10 q11 q12 q13 q14 q15 q16 q17 q18 q19 q20 q21 q22 q23 q24 q25 q26 q27 q28 q29 q30 q31 q32 q33 q34 q35 q36 q37 q38 q39 q40 q41 q42 : Nat) (x0 : Int32) (x1 : Int32) (h0 : 0 = x1) (h1 : ¬ 3000 < x0) (h2 : ¬ x0 < 1) (sz : Nat) : Ki l s0 G yX12_dead cX12_dead 5 (some .int) { frames := 3, cells := 0, slots := 0, locals := 72 } [.ref q0, .int x0, .int x1] [(q0, .inr (12, [.int 0, .int 0, .int 0, .int 0, .int 0, .int 0, .int 0, .int (-1), .ref q9, .ref q8, .ref q10, .int 0, .ref q11, .ref q12, .ref q13, .ref q14, .ref q15, .ref q2, .ref q16, .int 0, .ref q3, .ref q4, .ref q17, .ref q6, .ref q7, .ref q1, .ref q5, .int 0, .int (-1), .int 0, .ref q18, .ref q19, .ref q20, .ref q21, .ref q22, .ref q23, .ref q24, .ref q25, .int 0, .ref q26, .ref q27, .ref q28, .ref q29, .ref q30, .int 0, .ref q31, .ref q32, .ref q33, .ref q34, .int 0, .ref q35, .ref q36, .ref q37, .ref q38, .int 0, .int 0, .ref q39, .ref q40, .ref q41, .ref q42])), (q1, .inl (G.2.1, 4096, .inl (fun _ => 0))), (q2, .inl (G.2.1, 57, .inl (fun _ => 0))), (q3, .inl (G.2.1, 8, .inl (fun _ => 0))), (q4, .inl (G.2.1, 24008, .inl (fun _ => 0))), (q5, .inl (G.2.1, 3000, .inl (fun _ => 0))), (q6, .inl (G.2.1, 3000, .inl (fun _ => 0))), (q7, .inl (G.2.1, 3000, .inl (fun _ => 0))), (q8, .inl (G.2.1, 242, .inl (fun _ => 0)))] sz 0 (fun u => [(q0, .inr (12, [.int 0, .int 0, .int 0, .int 0, .int 0, .int 0, .int 0, .int (-1), .ref q9, .ref q8, .ref q10, .int 0, .ref q11, .ref q12, .ref q13, .ref q14, .ref q15, .ref q2, .ref q16, .int 0, .ref q3, .ref q4, .ref q17, .ref q6, .ref q7, .ref q1, .ref q5, .int 1, .int (-1), .int 0, .ref q18, .ref q19, .ref q20, .ref q21, .ref q22, .ref q23, .ref q24, .ref q25, .int 0, .ref q26, .ref q27, .ref q28, .ref q29, .ref q30, .int 0, .ref q31, .ref q32, .ref q33, .ref q34, .int 0, .ref q35, .ref q36, .ref q37, .ref q38, .int 0, .int 0, .ref q39, .ref q40, .ref q41, .ref q42])), (q1, .inl (G.2.1, 4096, .inl (upd (fun _ => (-1)) 0 0))), (q2, .inl (G.2.1, 57, .inl (fun _ => 0))), (q3, .inl (G.2.1, 8, .inl (fun _ => 0))), (q4, .inl (G.2.1, 24008, .inl (fun _ => 0))), (q5, .inl (G.2.1, 3000, .inl (upd (fun _ => 0) 0 (-1)))), (q6, .inl (G.2.1, 3000, .inl (upd (fun _ => 0) 0 (-1)))), (q7, .inl (G.2.1, 3000, .inl (upd (fun _ => 0) 0 (-1)))), (q8, .inl (G.2.1, 242, .inl (fun _ => 0)))]) := by
  refine Ki.of b0 (own := RX12) (nm := "dead") [(0, .ref q0), (1, .int x0), (2, .int x1)] rfl rfl (by decide +kernel) (Nat.le_of_ble_eq_true rfl) rfl ?_
  intro p e s m below meth c A C hr H locs w ls hl
  have hx := C.hx
  have hb := C.hb
  refine lv_aload_n hx hb dX12_dead_0 rfl (lv_at hl 0 rfl) ?_
  refine lv_iconst (v := 0) hx hb dX12_dead_1 (by decide) ?_
  refine r_put C w 0 rfl fl_X12_1 (Nat.le_of_ble_eq_true rfl) rfl rfl dX12_dead_2 (ws2 := [(q0, .inr (12, [.int 0, .int 0, .int 0, .int 0, .int 0, .int 0, .int 0, .int (-1), .ref q9, .ref q8, .ref q10, .int 0, .ref q11, .ref q12, .ref q13, .ref q14, .ref q15, .ref q2, .ref q16, .int 0, .ref q3, .ref q4, .ref q17, .ref q6, .ref q7, .ref q1, .ref q5, .int 0, .int (-1), .int 0, .ref q18, .ref q19, .ref q20, .ref q21, .ref q22, .ref q23, .ref q24, .ref q25, .int 0, .ref q26, .ref q27, .ref q28, .ref q29, .ref q30, .int 0, .ref q31, .ref q32, .ref q33, .ref q34, .int 0, .ref q35, .ref q36, .ref q37, .ref q38, .int 0, .int 0, .ref q39, .ref q40, .ref q41, .ref q42])), (q1, .inl (G.2.1, 4096, .inl (fun _ => 0))), (q2, .inl (G.2.1, 57, .inl (fun _ => 0))), (q3, .inl (G.2.1, 8, .inl (fun _ => 0))), (q4, .inl (G.2.1, 24008, .inl (fun _ => 0))), (q5, .inl (G.2.1, 3000, .inl (fun _ => 0))), (q6, .inl (G.2.1, 3000, .inl (fun _ => 0))), (q7, .inl (G.2.1, 3000, .inl (fun _ => 0))), (q8, .inl (G.2.1, 242, .inl (fun _ => 0)))]) rfl (fun H locs w => ?_)
  refine lv_aload_n hx hb dX12_dead_5 rfl (lv_at hl 0 rfl) ?_
  refine lv_iload_n hx hb dX12_dead_6 rfl (lv_at hl 1 rfl) ?_
  refine lv_iconst (v := 1) hx hb dX12_dead_7 (by decide) ?_
  refine fin_i C w (run_V C w mv_X12_336 (k120_isMost C.b0 q0 q9 q8 q10 q11 q12 q13 q14 q15 q2 q16 q3 q4 q17 q6 q7 q1 q5 q18 q19 q20 q21 q22 q23 q24 q25 q26 q27 q28 q29 q30 q31 q32 q33 q34 q35 q36 q37 q38 q39 q40 q41 q42 x0 h1 h2 H.size) [0] rfl rfl 0 rfl rfl (by decide) rfl hl.1 rfl (Nat.le_of_ble_eq_true rfl) dX12_dead_8 (cells2 := 0) (slots2 := 0) (by decide)) [0] [1, 2, 3, 4, 5, 6, 7, 8] rfl rfl (by decide) (cells2 := 0) (slots2 := 0) (by decide) (fun u1 H locs w => ?_)
  have w : Wd s G A [(q1, .inl (G.2.1, 4096, .inl (fun _ => 0))), (q2, .inl (G.2.1, 57, .inl (fun _ => 0))), (q3, .inl (G.2.1, 8, .inl (fun _ => 0))), (q4, .inl (G.2.1, 24008, .inl (fun _ => 0))), (q5, .inl (G.2.1, 3000, .inl (fun _ => 0))), (q6, .inl (G.2.1, 3000, .inl (fun _ => 0))), (q7, .inl (G.2.1, 3000, .inl (fun _ => 0))), (q8, .inl (G.2.1, 242, .inl (fun _ => 0))), (q0, .inr (12, [.int 0, .int 0, .int 0, .int 0, .int 0, .int 0, .int 0, .int (-1), .ref q9, .ref q8, .ref q10, .int 0, .ref q11, .ref q12, .ref q13, .ref q14, .ref q15, .ref q2, .ref q16, .int 0, .ref q3, .ref q4, .ref q17, .ref q6, .ref q7, .ref q1, .ref q5, .int 0, .int (-1), .int 0, .ref q18, .ref q19, .ref q20, .ref q21, .ref q22, .ref q23, .ref q24, .ref q25, .int 0, .ref q26, .ref q27, .ref q28, .ref q29, .ref q30, .int 0, .ref q31, .ref q32, .ref q33, .ref q34, .int 0, .ref q35, .ref q36, .ref q37, .ref q38, .int 0, .int 0, .ref q39, .ref q40, .ref q41, .ref q42]))] H locs := w
  refine lv_if_ne (tgt := 16) hx hb dX12_dead_11 (by decide) (fun _ => ?_) (fun h => h.elim (by decide))
  refine lv_aload_n hx hb dX12_dead_16 rfl (lv_at hl 0 rfl) ?_
  refine lv_iload_n hx hb dX12_dead_17 rfl (lv_at hl 1 rfl) ?_
  refine fin_v C w (run_V C w mv_X12_339 (k124_explores C.b0 q0 q1 q2 q3 q4 q5 q6 q7 q8 q9 q10 q11 q12 q13 q14 q15 q16 q17 q18 q19 q20 q21 q22 q23 q24 q25 q26 q27 q28 q29 q30 q31 q32 q33 q34 q35 q36 q37 q38 q39 q40 q41 q42 x0 H.size) [8, 0, 1, 2, 3, 4, 5, 6, 7] rfl rfl 8 rfl rfl (by decide) rfl hl.1 rfl (Nat.le_of_ble_eq_true rfl) dX12_dead_18 (cells2 := 0) (slots2 := 0) (by decide)) [8, 0, 1, 2, 3, 4, 5, 6, 7] [] rfl rfl (by decide) (cells2 := 0) (slots2 := 0) (by decide) (fun u2 H locs w => ?_)
  have w : Wd s G A [(q0, .inr (12, [.int 0, .int 0, .int 0, .int 0, .int 0, .int 0, .int 0, .int (-1), .ref q9, .ref q8, .ref q10, .int 0, .ref q11, .ref q12, .ref q13, .ref q14, .ref q15, .ref q2, .ref q16, .int 0, .ref q3, .ref q4, .ref q17, .ref q6, .ref q7, .ref q1, .ref q5, .int 1, .int (-1), .int 0, .ref q18, .ref q19, .ref q20, .ref q21, .ref q22, .ref q23, .ref q24, .ref q25, .int 0, .ref q26, .ref q27, .ref q28, .ref q29, .ref q30, .int 0, .ref q31, .ref q32, .ref q33, .ref q34, .int 0, .ref q35, .ref q36, .ref q37, .ref q38, .int 0, .int 0, .ref q39, .ref q40, .ref q41, .ref q42])), (q1, .inl (G.2.1, 4096, .inl (upd (fun _ => (-1)) 0 0))), (q2, .inl (G.2.1, 57, .inl (fun _ => 0))), (q3, .inl (G.2.1, 8, .inl (fun _ => 0))), (q4, .inl (G.2.1, 24008, .inl (fun _ => 0))), (q5, .inl (G.2.1, 3000, .inl (upd (fun _ => 0) 0 (-1)))), (q6, .inl (G.2.1, 3000, .inl (upd (fun _ => 0) 0 (-1)))), (q7, .inl (G.2.1, 3000, .inl (upd (fun _ => 0) 0 (-1)))), (q8, .inl (G.2.1, 242, .inl (fun _ => 0)))] H locs := w
  refine lv_aload_n hx hb dX12_dead_21 rfl (lv_at hl 0 rfl) ?_
  refine r_get C w 0 rfl fr_X12_325 rfl dX12_dead_22 ?_
  refine lv_if_eq (tgt := 31) hx hb dX12_dead_25 (by decide) (fun _ => ?_) (fun h => absurd (by decide) h)
  refine lv_iconst (v := 0) hx hb dX12_dead_31 (by decide) ?_
  refine lv_istore_n (lv' := [(3, .int 0), (0, .ref q0), (1, .int x0), (2, .int x1)]) hx hb dX12_dead_32 rfl hl (by decide) rfl (fun ls hl => ?_)
  refine lv_iconst (v := 0) hx hb dX12_dead_33 (by decide) ?_
  refine lv_istore (lv' := [(4, .int 0), (3, .int 0), (0, .ref q0), (1, .int x0), (2, .int x1)]) hx hb dX12_dead_34 hl (by decide) rfl (fun ls hl => ?_)
  refine lv_iload hx hb dX12_dead_36 (lv_at hl 0 rfl) ?_
  refine lv_aload_n hx hb dX12_dead_38 rfl (lv_at hl 2 rfl) ?_
  refine r_get C w 0 rfl fr_X12_322 rfl dX12_dead_39 ?_
  refine lv_icmp_ge (tgt := 74) hx hb dX12_dead_42 (by decide) (fun h => absurd h (by decide)) (fun _ => ?_)
  refine lv_aload_n hx hb dX12_dead_45 rfl (lv_at hl 2 rfl) ?_
  refine lv_iload hx hb dX12_dead_46 (lv_at hl 0 rfl) ?_
  refine fin_i C w (run_V C w mv_X12_342 (k140_isDead C.b0 q0 q8 q9 q10 q11 q12 q13 q14 q15 q2 q16 q3 q4 q17 q6 q7 q1 q5 q18 q19 q20 q21 q22 q23 q24 q25 q26 q27 q28 q29 q30 q31 q32 q33 q34 q35 q36 q37 q38 q39 q40 q41 q42 H.size) [0, 8] rfl rfl 0 rfl rfl (by decide) rfl hl.1 rfl (Nat.le_of_ble_eq_true rfl) dX12_dead_48 (cells2 := 0) (slots2 := 0) (by decide)) [0, 8] [1, 2, 3, 4, 5, 6, 7] rfl rfl (by decide) (cells2 := 0) (slots2 := 0) (by decide) (fun u3 H locs w => ?_)
  have w : Wd s G A [(q1, .inl (G.2.1, 4096, .inl (upd (fun _ => (-1)) 0 0))), (q2, .inl (G.2.1, 57, .inl (fun _ => 0))), (q3, .inl (G.2.1, 8, .inl (fun _ => 0))), (q4, .inl (G.2.1, 24008, .inl (fun _ => 0))), (q5, .inl (G.2.1, 3000, .inl (upd (fun _ => 0) 0 (-1)))), (q6, .inl (G.2.1, 3000, .inl (upd (fun _ => 0) 0 (-1)))), (q7, .inl (G.2.1, 3000, .inl (upd (fun _ => 0) 0 (-1)))), (q0, .inr (12, [.int 0, .int 0, .int 0, .int 0, .int 0, .int 0, .int 0, .int (-1), .ref q9, .ref q8, .ref q10, .int 0, .ref q11, .ref q12, .ref q13, .ref q14, .ref q15, .ref q2, .ref q16, .int 0, .ref q3, .ref q4, .ref q17, .ref q6, .ref q7, .ref q1, .ref q5, .int 1, .int (-1), .int 0, .ref q18, .ref q19, .ref q20, .ref q21, .ref q22, .ref q23, .ref q24, .ref q25, .int 0, .ref q26, .ref q27, .ref q28, .ref q29, .ref q30, .int 0, .ref q31, .ref q32, .ref q33, .ref q34, .int 0, .ref q35, .ref q36, .ref q37, .ref q38, .int 0, .int 0, .ref q39, .ref q40, .ref q41, .ref q42])), (q8, .inl (G.2.1, 242, .inl (fun _ => 0)))] H locs := w
  refine lv_if_ne (tgt := 57) hx hb dX12_dead_51 (by decide) (fun _ => ?_) (fun h => h.elim (by decide))
  refine lv_iload_n hx hb dX12_dead_57 rfl (lv_at hl 1 rfl) ?_
  refine lv_iload_n hx hb dX12_dead_58 rfl (lv_at hl 4 rfl) ?_
  refine lv_icmp_ne (tgt := 65) hx hb dX12_dead_59 (by decide) (fun h => absurd h0 h) (fun _ => ?_)
  refine lv_iload hx hb dX12_dead_62 (lv_at hl 0 rfl) ?_
  exact e_i C hr w (fun _ => 0) [7, 0, 1, 2, 3, 4, 5, 6, 8] rfl rfl rfl dX12_dead_64 (by decide) (by decide)
set_option maxRecDepth 100000 in
set_option maxHeartbeats 4000000 in
theorem k142_deadState {l : Launch} {s0 : State} {a0 : Array Value} {G : GT} (b0 : B0 l s0 a0 G) (q0 q1 q2 q3 q4 q5 q6 q7 q8 q9 q10 q11 q12 q13 q14 q15 q16 q17 q18 q19 q20 q21 q22 q23 : Nat) (x0 : Int32) (h0 : ¬ 0 = x0) (sz : Nat) : Ki l s0 G yX1_deadState cX1_deadState 4 (some .int) { frames := 1, cells := 0, slots := 0, locals := 22 } [.ref q0, .int x0] [(q0, .inr (1, [.int 0, .ref q2, .ref q3, .ref q1, .ref q4, .ref q5, .ref q6, .ref q7, .int 1])), (q1, .inr (7, [.ref q8, .int 0, .int 1, .int 3008, .ref q9])), (q2, .inr (2, [.int 0, .int 0, .ref q10, .ref q11, .ref q12, .ref q13, .ref q14, .ref q15, .ref q16, .ref q17, .ref q18, .ref q19, .ref q20, .ref q21, .ref q22, .ref q23, .int 0]))] sz (-1) (fun u => [(q0, .inr (1, [.int 0, .ref q2, .ref q3, .ref q1, .ref q4, .ref q5, .ref q6, .ref q7, .int 1])), (q1, .inr (7, [.ref q8, .int 0, .int 1, .int 3008, .ref q9])), (q2, .inr (2, [.int 0, .int 0, .ref q10, .ref q11, .ref q12, .ref q13, .ref q14, .ref q15, .ref q16, .ref q17, .ref q18, .ref q19, .ref q20, .ref q21, .ref q22, .ref q23, .int 0]))]) := by
  refine Ki.of b0 (own := RX1) (nm := "deadState") [(0, .ref q0), (1, .int x0)] rfl rfl (by decide +kernel) (Nat.le_of_ble_eq_true rfl) rfl ?_
  intro p e s m below meth c A C hr H locs w ls hl
  have hx := C.hx
  have hb := C.hb
  refine lv_iconst (v := 0) hx hb dX1_deadState_0 (by decide) ?_
  refine lv_istore_n (lv' := [(2, .int 0), (0, .ref q0), (1, .int x0)]) hx hb dX1_deadState_1 rfl hl (by decide) rfl (fun ls hl => ?_)
  refine lv_iconst (v := 0) hx hb dX1_deadState_2 (by decide) ?_
  refine lv_istore_n (lv' := [(3, .int 0), (2, .int 0), (0, .ref q0), (1, .int x0)]) hx hb dX1_deadState_3 rfl hl (by decide) rfl (fun ls hl => ?_)
  refine lv_iload_n hx hb dX1_deadState_4 rfl (lv_at hl 0 rfl) ?_
  refine lv_aload_n hx hb dX1_deadState_5 rfl (lv_at hl 2 rfl) ?_
  refine r_get C w 0 rfl fr_X1_24 rfl dX1_deadState_6 ?_
  refine r_get C w 1 rfl fr_X1_60 rfl dX1_deadState_9 ?_
  refine lv_icmp_ge (tgt := 39) hx hb dX1_deadState_12 (by decide) (fun h => absurd h (by decide)) (fun _ => ?_)
  refine lv_aload_n hx hb dX1_deadState_15 rfl (lv_at hl 2 rfl) ?_
  refine lv_iload_n hx hb dX1_deadState_16 rfl (lv_at hl 0 rfl) ?_
  refine fin_i C w (run_V C w mv_X1_90 (k136_isDead C.b0 q0 q2 q3 q1 q4 q5 q6 q7 q10 q11 q12 q13 q14 q15 q16 q17 q18 q19 q20 q21 q22 q23 H.size) [0, 2] rfl rfl 0 rfl rfl (by decide) rfl hl.1 rfl (Nat.le_of_ble_eq_true rfl) dX1_deadState_17 (cells2 := 0) (slots2 := 0) (by decide)) [0, 2] [1] rfl rfl (by decide) (cells2 := 0) (slots2 := 0) (by decide) (fun u1 H locs w => ?_)
  have w : Wd s G A [(q1, .inr (7, [.ref q8, .int 0, .int 1, .int 3008, .ref q9])), (q0, .inr (1, [.int 0, .ref q2, .ref q3, .ref q1, .ref q4, .ref q5, .ref q6, .ref q7, .int 1])), (q2, .inr (2, [.int 0, .int 0, .ref q10, .ref q11, .ref q12, .ref q13, .ref q14, .ref q15, .ref q16, .ref q17, .ref q18, .ref q19, .ref q20, .ref q21, .ref q22, .ref q23, .int 0]))] H locs := w
  refine lv_if_eq (tgt := 33) hx hb dX1_deadState_20 (by decide) (fun h => absurd h (by decide)) (fun _ => ?_)
  refine lv_iload_n hx hb dX1_deadState_23 rfl (lv_at hl 1 rfl) ?_
  refine lv_iload_n hx hb dX1_deadState_24 rfl (lv_at hl 3 rfl) ?_
  refine lv_icmp_ne (tgt := 30) hx hb dX1_deadState_25 (by decide) (fun _ => ?_) (fun h => h.elim h0)
  refine lv_iinc (v := 1) (lv' := [(2, .int 1), (3, .int 0), (0, .ref q0), (1, .int x0)]) hx hb dX1_deadState_30 hl (k := 1) rfl (by decide +kernel) (by decide) rfl (fun ls hl => ?_)
  refine lv_iinc (v := 1) (lv' := [(3, .int 1), (2, .int 1), (0, .ref q0), (1, .int x0)]) hx hb dX1_deadState_33 hl (k := 1) rfl (by decide +kernel) (by decide) rfl (fun ls hl => ?_)
  refine lv_goto (tgt := 4) hx hb dX1_deadState_36 (by decide) ?_
  refine lv_iload_n hx hb dX1_deadState_4 rfl (lv_at hl 0 rfl) ?_
  refine lv_aload_n hx hb dX1_deadState_5 rfl (lv_at hl 2 rfl) ?_
  refine r_get C w 1 rfl fr_X1_24 rfl dX1_deadState_6 ?_
  refine r_get C w 0 rfl fr_X1_60 rfl dX1_deadState_9 ?_
  refine lv_icmp_ge (tgt := 39) hx hb dX1_deadState_12 (by decide) (fun _ => ?_) (fun h => absurd (by decide) h)
  refine lv_iconst (v := (-1)) hx hb dX1_deadState_39 (by decide) ?_
  exact e_i C hr w (fun _ => 0) [1, 0, 2] rfl rfl rfl dX1_deadState_40 (by decide) (by decide)
set_option maxRecDepth 100000 in
set_option maxHeartbeats 4000000 in
theorem k143_dead {l : Launch} {s0 : State} {a0 : Array Value} {G : GT} (b0 : B0 l s0 a0 G) (q0 q1 q2 q3 q4 q5 q6 q7 q8 q9 q10 q11 q12 q13 q14 q15 q16 q17 q18 q19 q20 q21 q22 q23 q24 q25 q26 q27 : Nat) (x0 : Int32) (x1 : Int32) (h0 : ¬ 0 = x1) (h1 : ¬ 3000 < x0) (h2 : ¬ x0 < 1) (sz : Nat) : Ki l s0 G yX11_dead cX11_dead 4 (some .int) { frames := 4, cells := 9, slots := 65366, locals := 168 } [.ref q0, .int x0, .int x1] [(q0, .inr (11, [.ref q4, .ref q5, .ref q1, .ref q6, .ref q7, .ref q8, .ref q9, .ref q10, .ref q2, .ref q11, .int 0, .int (-1), .int 0, .int 0, .null, .null, .null, .null, .null])), (q1, .inr (5, [.ref q3, .ref q12, .ref q13, .int 0])), (q2, .inr (2, [.int 0, .int 0, .ref q14, .ref q15, .ref q16, .ref q17, .ref q18, .ref q19, .ref q20, .ref q21, .ref q22, .ref q23, .ref q24, .ref q25, .ref q26, .ref q27, .int 0])), (q3, .inl (G.2.1, 8, .inl (fun _ => 0)))] sz (-1) (fun u => [(q0, .inr (11, [.ref q4, .ref q5, .ref q1, .ref q6, .ref q7, .ref q8, .ref q9, .ref q10, .ref q2, .ref q11, .int 0, .int (-1), .int 0, .int 0, .ref (u 0), .null, .null, .null, .null])), (q1, .inr (5, [.ref q3, .ref q12, .ref q13, .int 0])), (q2, .inr (2, [.int 0, .int 0, .ref q14, .ref q15, .ref q16, .ref q17, .ref q18, .ref q19, .ref q20, .ref q21, .ref q22, .ref q23, .ref q24, .ref q25, .ref q26, .ref q27, .int 0])), (q3, .inl (G.2.1, 8, .inl (fun _ => 0))), ((u 0), .inr (1, [.int 0, .ref q2, .ref (u 1), .ref (u 2), .ref (u 5), .ref (u 6), .ref (u 7), .ref (u 8), .int 1])), ((u 1), .inl (G.2.1, 24064, .inl (fun _ => 0))), ((u 2), .inr (7, [.ref (u 3), .int 0, .int 1, .int 3008, .ref (u 4)])), ((u 3), .inl (G.2.1, 24064, .inl (fun _ => 0))), ((u 4), .inl (G.2.1, 8192, .inl (upd (fun _ => (-1)) 7 0))), ((u 5), .inl (G.2.1, 3008, .inl (fun _ => 0))), ((u 6), .inl (G.2.1, 3008, .inl (upd (fun _ => 0) 0 (-1)))), ((u 7), .inl (G.2.1, 3008, .inl (upd (fun _ => 0) 0 (-1)))), ((u 8), .inl (G.2.1, 8, .inl (fun _ => 0)))]) := by
  refine Ki.of b0 (own := RX11) (nm := "dead") [(0, .ref q0), (1, .int x0), (2, .int x1)] rfl rfl (by decide +kernel) (Nat.le_of_ble_eq_true rfl) rfl ?_
  intro p e s m below meth c A C hr H locs w ls hl
  have hx := C.hx
  have hb := C.hb
  refine lv_iload_n hx hb dX11_dead_0 rfl (lv_at hl 1 rfl) ?_
  refine fin_v C w (run_S C w ms_X11_161 (k106_needMost C.b0 x0 h1 h2 H.size) [] rfl rfl (by decide) rfl hl.1 rfl (Nat.le_of_ble_eq_true rfl) dX11_dead_1 (cells2 := 0) (slots2 := 0) (by decide)) [] [0, 1, 2, 3] rfl rfl (by decide) (cells2 := 0) (slots2 := 0) (by decide) (fun u1 H locs w => ?_)
  have w : Wd s G A [(q0, .inr (11, [.ref q4, .ref q5, .ref q1, .ref q6, .ref q7, .ref q8, .ref q9, .ref q10, .ref q2, .ref q11, .int 0, .int (-1), .int 0, .int 0, .null, .null, .null, .null, .null])), (q1, .inr (5, [.ref q3, .ref q12, .ref q13, .int 0])), (q2, .inr (2, [.int 0, .int 0, .ref q14, .ref q15, .ref q16, .ref q17, .ref q18, .ref q19, .ref q20, .ref q21, .ref q22, .ref q23, .ref q24, .ref q25, .ref q26, .ref q27, .int 0])), (q3, .inl (G.2.1, 8, .inl (fun _ => 0)))] H locs := w
  refine lv_aload_n hx hb dX11_dead_4 rfl (lv_at hl 0 rfl) ?_
  refine lv_iload_n hx hb dX11_dead_5 rfl (lv_at hl 1 rfl) ?_
  refine fin_r C w (run_V C w mv_X11_164 (k114_explored C.b0 q0 q1 q2 q3 q4 q5 q6 q7 q8 q9 q10 q11 q12 q13 q14 q15 q16 q17 q18 q19 q20 q21 q22 q23 q24 q25 q26 q27 x0 h2 H.size) [0, 1, 2, 3] rfl rfl 0 rfl rfl (by decide) rfl hl.1 rfl (Nat.le_of_ble_eq_true rfl) dX11_dead_6 (cells2 := 9) (slots2 := 65366) (by decide)) [0, 1, 2, 3] [] rfl rfl (by decide) (cells2 := 9) (slots2 := 65366) (by decide) (fun u2 H locs w => ?_)
  have w : Wd s G A [(q0, .inr (11, [.ref q4, .ref q5, .ref q1, .ref q6, .ref q7, .ref q8, .ref q9, .ref q10, .ref q2, .ref q11, .int 0, .int (-1), .int 0, .int 0, .ref (u2 0), .null, .null, .null, .null])), (q1, .inr (5, [.ref q3, .ref q12, .ref q13, .int 0])), (q2, .inr (2, [.int 0, .int 0, .ref q14, .ref q15, .ref q16, .ref q17, .ref q18, .ref q19, .ref q20, .ref q21, .ref q22, .ref q23, .ref q24, .ref q25, .ref q26, .ref q27, .int 0])), (q3, .inl (G.2.1, 8, .inl (fun _ => 0))), ((u2 0), .inr (1, [.int 0, .ref q2, .ref (u2 1), .ref (u2 2), .ref (u2 5), .ref (u2 6), .ref (u2 7), .ref (u2 8), .int 1])), ((u2 1), .inl (G.2.1, 24064, .inl (fun _ => 0))), ((u2 2), .inr (7, [.ref (u2 3), .int 0, .int 1, .int 3008, .ref (u2 4)])), ((u2 3), .inl (G.2.1, 24064, .inl (fun _ => 0))), ((u2 4), .inl (G.2.1, 8192, .inl (upd (fun _ => (-1)) 7 0))), ((u2 5), .inl (G.2.1, 3008, .inl (fun _ => 0))), ((u2 6), .inl (G.2.1, 3008, .inl (upd (fun _ => 0) 0 (-1)))), ((u2 7), .inl (G.2.1, 3008, .inl (upd (fun _ => 0) 0 (-1)))), ((u2 8), .inl (G.2.1, 8, .inl (fun _ => 0)))] H locs := w
  refine lv_astore_n (lv' := [(3, .ref (u2 0)), (0, .ref q0), (1, .int x0), (2, .int x1)]) hx hb dX11_dead_9 rfl hl (by decide) rfl (fun ls hl => ?_)
  refine lv_aload_n hx hb dX11_dead_10 rfl (lv_at hl 0 rfl) ?_
  refine lv_iload_n hx hb dX11_dead_11 rfl (lv_at hl 2 rfl) ?_
  refine fin_i C w (run_V C w mv_X11_168 (k115_isBeyond C.b0 (u2 0) (u2 2) q2 (u2 1) (u2 5) (u2 6) (u2 7) (u2 8) (u2 3) (u2 4) x0 h2 H.size) [4, 6] rfl rfl 4 rfl rfl (by decide) rfl hl.1 rfl (Nat.le_of_ble_eq_true rfl) dX11_dead_12 (cells2 := 9) (slots2 := 65366) (by decide)) [4, 6] [0, 1, 2, 3, 5, 7, 8, 9, 10, 11, 12] rfl rfl (by decide) (cells2 := 9) (slots2 := 65366) (by decide) (fun u3 H locs w => ?_)
  have w : Wd s G A [(q0, .inr (11, [.ref q4, .ref q5, .ref q1, .ref q6, .ref q7, .ref q8, .ref q9, .ref q10, .ref q2, .ref q11, .int 0, .int (-1), .int 0, .int 0, .ref (u2 0), .null, .null, .null, .null])), (q1, .inr (5, [.ref q3, .ref q12, .ref q13, .int 0])), (q2, .inr (2, [.int 0, .int 0, .ref q14, .ref q15, .ref q16, .ref q17, .ref q18, .ref q19, .ref q20, .ref q21, .ref q22, .ref q23, .ref q24, .ref q25, .ref q26, .ref q27, .int 0])), (q3, .inl (G.2.1, 8, .inl (fun _ => 0))), ((u2 1), .inl (G.2.1, 24064, .inl (fun _ => 0))), ((u2 3), .inl (G.2.1, 24064, .inl (fun _ => 0))), ((u2 4), .inl (G.2.1, 8192, .inl (upd (fun _ => (-1)) 7 0))), ((u2 5), .inl (G.2.1, 3008, .inl (fun _ => 0))), ((u2 6), .inl (G.2.1, 3008, .inl (upd (fun _ => 0) 0 (-1)))), ((u2 7), .inl (G.2.1, 3008, .inl (upd (fun _ => 0) 0 (-1)))), ((u2 8), .inl (G.2.1, 8, .inl (fun _ => 0))), ((u2 0), .inr (1, [.int 0, .ref q2, .ref (u2 1), .ref (u2 2), .ref (u2 5), .ref (u2 6), .ref (u2 7), .ref (u2 8), .int 1])), ((u2 2), .inr (7, [.ref (u2 3), .int 0, .int 1, .int 3008, .ref (u2 4)]))] H locs := w
  refine lv_if_eq (tgt := 23) hx hb dX11_dead_15 (by decide) (fun _ => ?_) (fun h => absurd (by decide) h)
  refine lv_aload_n hx hb dX11_dead_23 rfl (lv_at hl 0 rfl) ?_
  refine lv_iload_n hx hb dX11_dead_24 rfl (lv_at hl 3 rfl) ?_
  refine fin_i C w (run_V C w mv_X11_180 (k142_deadState C.b0 (u2 0) (u2 2) q2 (u2 1) (u2 5) (u2 6) (u2 7) (u2 8) (u2 3) (u2 4) q14 q15 q16 q17 q18 q19 q20 q21 q22 q23 q24 q25 q26 q27 x1 h0 H.size) [11, 12, 2] rfl rfl 11 rfl rfl (by decide) rfl hl.1 rfl (Nat.le_of_ble_eq_true rfl) dX11_dead_25 (cells2 := 9) (slots2 := 65366) (by decide)) [11, 12, 2] [0, 1, 3, 4, 5, 6, 7, 8, 9, 10] rfl rfl (by decide) (cells2 := 9) (slots2 := 65366) (by decide) (fun u4 H locs w => ?_)
  have w : Wd s G A [(q0, .inr (11, [.ref q4, .ref q5, .ref q1, .ref q6, .ref q7, .ref q8, .ref q9, .ref q10, .ref q2, .ref q11, .int 0, .int (-1), .int 0, .int 0, .ref (u2 0), .null, .null, .null, .null])), (q1, .inr (5, [.ref q3, .ref q12, .ref q13, .int 0])), (q3, .inl (G.2.1, 8, .inl (fun _ => 0))), ((u2 1), .inl (G.2.1, 24064, .inl (fun _ => 0))), ((u2 3), .inl (G.2.1, 24064, .inl (fun _ => 0))), ((u2 4), .inl (G.2.1, 8192, .inl (upd (fun _ => (-1)) 7 0))), ((u2 5), .inl (G.2.1, 3008, .inl (fun _ => 0))), ((u2 6), .inl (G.2.1, 3008, .inl (upd (fun _ => 0) 0 (-1)))), ((u2 7), .inl (G.2.1, 3008, .inl (upd (fun _ => 0) 0 (-1)))), ((u2 8), .inl (G.2.1, 8, .inl (fun _ => 0))), ((u2 0), .inr (1, [.int 0, .ref q2, .ref (u2 1), .ref (u2 2), .ref (u2 5), .ref (u2 6), .ref (u2 7), .ref (u2 8), .int 1])), ((u2 2), .inr (7, [.ref (u2 3), .int 0, .int 1, .int 3008, .ref (u2 4)])), (q2, .inr (2, [.int 0, .int 0, .ref q14, .ref q15, .ref q16, .ref q17, .ref q18, .ref q19, .ref q20, .ref q21, .ref q22, .ref q23, .ref q24, .ref q25, .ref q26, .ref q27, .int 0]))] H locs := w
  exact e_i C hr w (fun k => [(u2 0), (u2 1), (u2 2), (u2 3), (u2 4), (u2 5), (u2 6), (u2 7), (u2 8)].getD k 0) [0, 1, 12, 2, 10, 3, 11, 4, 5, 6, 7, 8, 9] rfl rfl rfl dX11_dead_28 (by decide) (by decide)
set_option maxRecDepth 100000 in
set_option maxHeartbeats 4000000 in
theorem k144_dead {l : Launch} {s0 : State} {a0 : Array Value} {G : GT} (b0 : B0 l s0 a0 G) (q0 q1 q2 q3 q4 q5 q6 q7 q8 q9 q10 q11 q12 q13 q14 q15 q16 q17 q18 q19 q20 q21 q22 q23 q24 q25 q26 q27 q28 : Nat) (x0 : Int32) (x1 : Int32) (h0 : ¬ 0 = x1) (h1 : ¬ 3000 < x0) (h2 : ¬ x0 < 1) (sz : Nat) : Kh l s0 G yL_dead cL_dead 5 (some .int) [(0, 10, 13, 13)] { frames := 5, cells := 9, slots := 65366, locals := 191 } [.ref q0, .int x0, .int x1, .ref q4] [(q0, .inr (11, [.ref q5, .ref q6, .ref q1, .ref q7, .ref q8, .ref q9, .ref q10, .ref q11, .ref q2, .ref q12, .int 0, .int (-1), .int 0, .int 0, .null, .null, .null, .null, .null])), (q1, .inr (5, [.ref q3, .ref q13, .ref q14, .int 0])), (q2, .inr (2, [.int 0, .int 0, .ref q15, .ref q16, .ref q17, .ref q18, .ref q19, .ref q20, .ref q21, .ref q22, .ref q23, .ref q24, .ref q25, .ref q26, .ref q27, .ref q28, .int 0])), (q3, .inl (G.2.1, 8, .inl (fun _ => 0))), (q4, .inl (G.2.2.1, 1, .inr (.inl (fun _ => 0))))] sz 0 (fun u => [(q0, .inr (11, [.ref q5, .ref q6, .ref q1, .ref q7, .ref q8, .ref q9, .ref q10, .ref q11, .ref q2, .ref q12, .int 0, .int (-1), .int 0, .int 0, .ref (u 0), .null, .null, .null, .null])), (q1, .inr (5, [.ref q3, .ref q13, .ref q14, .int 0])), (q2, .inr (2, [.int 0, .int 0, .ref q15, .ref q16, .ref q17, .ref q18, .ref q19, .ref q20, .ref q21, .ref q22, .ref q23, .ref q24, .ref q25, .ref q26, .ref q27, .ref q28, .int 0])), (q3, .inl (G.2.1, 8, .inl (fun _ => 0))), (q4, .inl (G.2.2.1, 1, .inr (.inl (vp_updL (fun _ => 0) 0 (-1))))), ((u 0), .inr (1, [.int 0, .ref q2, .ref (u 1), .ref (u 2), .ref (u 5), .ref (u 6), .ref (u 7), .ref (u 8), .int 1])), ((u 1), .inl (G.2.1, 24064, .inl (fun _ => 0))), ((u 2), .inr (7, [.ref (u 3), .int 0, .int 1, .int 3008, .ref (u 4)])), ((u 3), .inl (G.2.1, 24064, .inl (fun _ => 0))), ((u 4), .inl (G.2.1, 8192, .inl (upd (fun _ => (-1)) 7 0))), ((u 5), .inl (G.2.1, 3008, .inl (fun _ => 0))), ((u 6), .inl (G.2.1, 3008, .inl (upd (fun _ => 0) 0 (-1)))), ((u 7), .inl (G.2.1, 3008, .inl (upd (fun _ => 0) 0 (-1)))), ((u 8), .inl (G.2.1, 8, .inl (fun _ => 0)))]) := by
  refine Kh.of b0 (own := RL) (nm := "dead") [(0, .ref q0), (1, .int x0), (2, .int x1), (3, .ref q4)] rfl rfl (by decide +kernel) (Nat.le_of_ble_eq_true rfl) rfl ?_
  intro p e s m below meth c A C hr ht H locs w ls hl
  have hx := C.hx
  have hb := C.hb
  refine lv_aload_n hx hb dL_dead_0 rfl (lv_at hl 3 rfl) ?_
  refine lv_iconst (v := 0) hx hb dL_dead_1 (by decide) ?_
  refine lv_aload_n hx hb dL_dead_2 rfl (lv_at hl 0 rfl) ?_
  refine lv_iload_n hx hb dL_dead_3 rfl (lv_at hl 1 rfl) ?_
  refine lv_iload_n hx hb dL_dead_4 rfl (lv_at hl 2 rfl) ?_
  refine fin_i C w (run_V C w mv_L_51 (k143_dead C.b0 q0 q1 q2 q3 q5 q6 q7 q8 q9 q10 q11 q12 q13 q14 q15 q16 q17 q18 q19 q20 q21 q22 q23 q24 q25 q26 q27 q28 x0 x1 h0 h1 h2 H.size) [0, 1, 2, 3] rfl rfl 0 rfl rfl (by decide) rfl hl.1 rfl (Nat.le_of_ble_eq_true rfl) dL_dead_5 (cells2 := 9) (slots2 := 65366) (by decide)) [0, 1, 2, 3] [4] rfl rfl (by decide) (cells2 := 9) (slots2 := 65366) (by decide) (fun u1 H locs w => ?_)
  have w : Wd s G A [(q4, .inl (G.2.2.1, 1, .inr (.inl (fun _ => 0)))), (q0, .inr (11, [.ref q5, .ref q6, .ref q1, .ref q7, .ref q8, .ref q9, .ref q10, .ref q11, .ref q2, .ref q12, .int 0, .int (-1), .int 0, .int 0, .ref (u1 0), .null, .null, .null, .null])), (q1, .inr (5, [.ref q3, .ref q13, .ref q14, .int 0])), (q2, .inr (2, [.int 0, .int 0, .ref q15, .ref q16, .ref q17, .ref q18, .ref q19, .ref q20, .ref q21, .ref q22, .ref q23, .ref q24, .ref q25, .ref q26, .ref q27, .ref q28, .int 0])), (q3, .inl (G.2.1, 8, .inl (fun _ => 0))), ((u1 0), .inr (1, [.int 0, .ref q2, .ref (u1 1), .ref (u1 2), .ref (u1 5), .ref (u1 6), .ref (u1 7), .ref (u1 8), .int 1])), ((u1 1), .inl (G.2.1, 24064, .inl (fun _ => 0))), ((u1 2), .inr (7, [.ref (u1 3), .int 0, .int 1, .int 3008, .ref (u1 4)])), ((u1 3), .inl (G.2.1, 24064, .inl (fun _ => 0))), ((u1 4), .inl (G.2.1, 8192, .inl (upd (fun _ => (-1)) 7 0))), ((u1 5), .inl (G.2.1, 3008, .inl (fun _ => 0))), ((u1 6), .inl (G.2.1, 3008, .inl (upd (fun _ => 0) 0 (-1)))), ((u1 7), .inl (G.2.1, 3008, .inl (upd (fun _ => 0) 0 (-1)))), ((u1 8), .inl (G.2.1, 8, .inl (fun _ => 0)))] H locs := w
  refine lv_i2l (v := (-1)) hx hb dL_dead_8 (by decide +kernel) ?_
  refine r_last C w 0 rfl (IX.of (k := 0) (by decide +kernel)) (g := (vp_updL (fun _ => 0) 0 (-1))) rfl dL_dead_9 (ws2 := [(q4, .inl (G.2.2.1, 1, .inr (.inl (vp_updL (fun _ => 0) 0 (-1))))), (q0, .inr (11, [.ref q5, .ref q6, .ref q1, .ref q7, .ref q8, .ref q9, .ref q10, .ref q11, .ref q2, .ref q12, .int 0, .int (-1), .int 0, .int 0, .ref (u1 0), .null, .null, .null, .null])), (q1, .inr (5, [.ref q3, .ref q13, .ref q14, .int 0])), (q2, .inr (2, [.int 0, .int 0, .ref q15, .ref q16, .ref q17, .ref q18, .ref q19, .ref q20, .ref q21, .ref q22, .ref q23, .ref q24, .ref q25, .ref q26, .ref q27, .ref q28, .int 0])), (q3, .inl (G.2.1, 8, .inl (fun _ => 0))), ((u1 0), .inr (1, [.int 0, .ref q2, .ref (u1 1), .ref (u1 2), .ref (u1 5), .ref (u1 6), .ref (u1 7), .ref (u1 8), .int 1])), ((u1 1), .inl (G.2.1, 24064, .inl (fun _ => 0))), ((u1 2), .inr (7, [.ref (u1 3), .int 0, .int 1, .int 3008, .ref (u1 4)])), ((u1 3), .inl (G.2.1, 24064, .inl (fun _ => 0))), ((u1 4), .inl (G.2.1, 8192, .inl (upd (fun _ => (-1)) 7 0))), ((u1 5), .inl (G.2.1, 3008, .inl (fun _ => 0))), ((u1 6), .inl (G.2.1, 3008, .inl (upd (fun _ => 0) 0 (-1)))), ((u1 7), .inl (G.2.1, 3008, .inl (upd (fun _ => 0) 0 (-1)))), ((u1 8), .inl (G.2.1, 8, .inl (fun _ => 0)))]) rfl (fun H locs w => ?_)
  refine lv_goto (tgt := 17) hx hb dL_dead_10 (by decide) ?_
  refine lv_iconst (v := 0) hx hb dL_dead_17 (by decide) ?_
  exact e_i C hr w (fun k => [(u1 0), (u1 1), (u1 2), (u1 3), (u1 4), (u1 5), (u1 6), (u1 7), (u1 8)].getD k 0) [1, 2, 3, 4, 0, 5, 6, 7, 8, 9, 10, 11, 12, 13] rfl rfl rfl dL_dead_18 (by decide) (by decide)
set_option maxRecDepth 100000 in
set_option maxHeartbeats 4000000 in
theorem k145_dead {l : Launch} {s0 : State} {a0 : Array Value} {G : GT} (b0 : B0 l s0 a0 G) (q0 q1 q2 q3 q4 q5 q6 q7 q8 q9 q10 q11 q12 q13 q14 q15 q16 q17 q18 q19 q20 q21 q22 q23 q24 q25 q26 q27 q28 q29 q30 q31 q32 q33 q34 q35 q36 q37 q38 q39 q40 q41 q42 : Nat) (x0 : Int32) (x1 : Int32) (h0 : ¬ 0 = x1) (h1 : ¬ 3000 < x0) (h2 : ¬ x0 < 1) (sz : Nat) : Ki l s0 G yX12_dead cX12_dead 5 (some .int) { frames := 3, cells := 0, slots := 0, locals := 72 } [.ref q0, .int x0, .int x1] [(q0, .inr (12, [.int 0, .int 0, .int 0, .int 0, .int 0, .int 0, .int 0, .int (-1), .ref q9, .ref q8, .ref q10, .int 0, .ref q11, .ref q12, .ref q13, .ref q14, .ref q15, .ref q2, .ref q16, .int 0, .ref q3, .ref q4, .ref q17, .ref q6, .ref q7, .ref q1, .ref q5, .int 0, .int (-1), .int 0, .ref q18, .ref q19, .ref q20, .ref q21, .ref q22, .ref q23, .ref q24, .ref q25, .int 0, .ref q26, .ref q27, .ref q28, .ref q29, .ref q30, .int 0, .ref q31, .ref q32, .ref q33, .ref q34, .int 0, .ref q35, .ref q36, .ref q37, .ref q38, .int 0, .int 0, .ref q39, .ref q40, .ref q41, .ref q42])), (q1, .inl (G.2.1, 4096, .inl (fun _ => 0))), (q2, .inl (G.2.1, 57, .inl (fun _ => 0))), (q3, .inl (G.2.1, 8, .inl (fun _ => 0))), (q4, .inl (G.2.1, 24008, .inl (fun _ => 0))), (q5, .inl (G.2.1, 3000, .inl (fun _ => 0))), (q6, .inl (G.2.1, 3000, .inl (fun _ => 0))), (q7, .inl (G.2.1, 3000, .inl (fun _ => 0))), (q8, .inl (G.2.1, 242, .inl (fun _ => 0)))] sz (-1) (fun u => [(q0, .inr (12, [.int 0, .int 0, .int 0, .int 0, .int 0, .int 0, .int 0, .int (-1), .ref q9, .ref q8, .ref q10, .int 0, .ref q11, .ref q12, .ref q13, .ref q14, .ref q15, .ref q2, .ref q16, .int 0, .ref q3, .ref q4, .ref q17, .ref q6, .ref q7, .ref q1, .ref q5, .int 1, .int (-1), .int 0, .ref q18, .ref q19, .ref q20, .ref q21, .ref q22, .ref q23, .ref q24, .ref q25, .int 0, .ref q26, .ref q27, .ref q28, .ref q29, .ref q30, .int 0, .ref q31, .ref q32, .ref q33, .ref q34, .int 0, .ref q35, .ref q36, .ref q37, .ref q38, .int 0, .int 0, .ref q39, .ref q40, .ref q41, .ref q42])), (q1, .inl (G.2.1, 4096, .inl (upd (fun _ => (-1)) 0 0))), (q2, .inl (G.2.1, 57, .inl (fun _ => 0))), (q3, .inl (G.2.1, 8, .inl (fun _ => 0))), (q4, .inl (G.2.1, 24008, .inl (fun _ => 0))), (q5, .inl (G.2.1, 3000, .inl (upd (fun _ => 0) 0 (-1)))), (q6, .inl (G.2.1, 3000, .inl (upd (fun _ => 0) 0 (-1)))), (q7, .inl (G.2.1, 3000, .inl (upd (fun _ => 0) 0 (-1)))), (q8, .inl (G.2.1, 242, .inl (fun _ => 0)))]) := by
  refine Ki.of b0 (own := RX12) (nm := "dead") [(0, .ref q0), (1, .int x0), (2, .int x1)] rfl rfl (by decide +kernel) (Nat.le_of_ble_eq_true rfl) rfl ?_
  intro p e s m below meth c A C hr H locs w ls hl
  have hx := C.hx
  have hb := C.hb
  refine lv_aload_n hx hb dX12_dead_0 rfl (lv_at hl 0 rfl) ?_
  refine lv_iconst (v := 0) hx hb dX12_dead_1 (by decide) ?_
  refine r_put C w 0 rfl fl_X12_1 (Nat.le_of_ble_eq_true rfl) rfl rfl dX12_dead_2 (ws2 := [(q0, .inr (12, [.int 0, .int 0, .int 0, .int 0, .int 0, .int 0, .int 0, .int (-1), .ref q9, .ref q8, .ref q10, .int 0, .ref q11, .ref q12, .ref q13, .ref q14, .ref q15, .ref q2, .ref q16, .int 0, .ref q3, .ref q4, .ref q17, .ref q6, .ref q7, .ref q1, .ref q5, .int 0, .int (-1), .int 0, .ref q18, .ref q19, .ref q20, .ref q21, .ref q22, .ref q23, .ref q24, .ref q25, .int 0, .ref q26, .ref q27, .ref q28, .ref q29, .ref q30, .int 0, .ref q31, .ref q32, .ref q33, .ref q34, .int 0, .ref q35, .ref q36, .ref q37, .ref q38, .int 0, .int 0, .ref q39, .ref q40, .ref q41, .ref q42])), (q1, .inl (G.2.1, 4096, .inl (fun _ => 0))), (q2, .inl (G.2.1, 57, .inl (fun _ => 0))), (q3, .inl (G.2.1, 8, .inl (fun _ => 0))), (q4, .inl (G.2.1, 24008, .inl (fun _ => 0))), (q5, .inl (G.2.1, 3000, .inl (fun _ => 0))), (q6, .inl (G.2.1, 3000, .inl (fun _ => 0))), (q7, .inl (G.2.1, 3000, .inl (fun _ => 0))), (q8, .inl (G.2.1, 242, .inl (fun _ => 0)))]) rfl (fun H locs w => ?_)
  refine lv_aload_n hx hb dX12_dead_5 rfl (lv_at hl 0 rfl) ?_
  refine lv_iload_n hx hb dX12_dead_6 rfl (lv_at hl 1 rfl) ?_
  refine lv_iconst (v := 1) hx hb dX12_dead_7 (by decide) ?_
  refine fin_i C w (run_V C w mv_X12_336 (k120_isMost C.b0 q0 q9 q8 q10 q11 q12 q13 q14 q15 q2 q16 q3 q4 q17 q6 q7 q1 q5 q18 q19 q20 q21 q22 q23 q24 q25 q26 q27 q28 q29 q30 q31 q32 q33 q34 q35 q36 q37 q38 q39 q40 q41 q42 x0 h1 h2 H.size) [0] rfl rfl 0 rfl rfl (by decide) rfl hl.1 rfl (Nat.le_of_ble_eq_true rfl) dX12_dead_8 (cells2 := 0) (slots2 := 0) (by decide)) [0] [1, 2, 3, 4, 5, 6, 7, 8] rfl rfl (by decide) (cells2 := 0) (slots2 := 0) (by decide) (fun u1 H locs w => ?_)
  have w : Wd s G A [(q1, .inl (G.2.1, 4096, .inl (fun _ => 0))), (q2, .inl (G.2.1, 57, .inl (fun _ => 0))), (q3, .inl (G.2.1, 8, .inl (fun _ => 0))), (q4, .inl (G.2.1, 24008, .inl (fun _ => 0))), (q5, .inl (G.2.1, 3000, .inl (fun _ => 0))), (q6, .inl (G.2.1, 3000, .inl (fun _ => 0))), (q7, .inl (G.2.1, 3000, .inl (fun _ => 0))), (q8, .inl (G.2.1, 242, .inl (fun _ => 0))), (q0, .inr (12, [.int 0, .int 0, .int 0, .int 0, .int 0, .int 0, .int 0, .int (-1), .ref q9, .ref q8, .ref q10, .int 0, .ref q11, .ref q12, .ref q13, .ref q14, .ref q15, .ref q2, .ref q16, .int 0, .ref q3, .ref q4, .ref q17, .ref q6, .ref q7, .ref q1, .ref q5, .int 0, .int (-1), .int 0, .ref q18, .ref q19, .ref q20, .ref q21, .ref q22, .ref q23, .ref q24, .ref q25, .int 0, .ref q26, .ref q27, .ref q28, .ref q29, .ref q30, .int 0, .ref q31, .ref q32, .ref q33, .ref q34, .int 0, .ref q35, .ref q36, .ref q37, .ref q38, .int 0, .int 0, .ref q39, .ref q40, .ref q41, .ref q42]))] H locs := w
  refine lv_if_ne (tgt := 16) hx hb dX12_dead_11 (by decide) (fun _ => ?_) (fun h => h.elim (by decide))
  refine lv_aload_n hx hb dX12_dead_16 rfl (lv_at hl 0 rfl) ?_
  refine lv_iload_n hx hb dX12_dead_17 rfl (lv_at hl 1 rfl) ?_
  refine fin_v C w (run_V C w mv_X12_339 (k124_explores C.b0 q0 q1 q2 q3 q4 q5 q6 q7 q8 q9 q10 q11 q12 q13 q14 q15 q16 q17 q18 q19 q20 q21 q22 q23 q24 q25 q26 q27 q28 q29 q30 q31 q32 q33 q34 q35 q36 q37 q38 q39 q40 q41 q42 x0 H.size) [8, 0, 1, 2, 3, 4, 5, 6, 7] rfl rfl 8 rfl rfl (by decide) rfl hl.1 rfl (Nat.le_of_ble_eq_true rfl) dX12_dead_18 (cells2 := 0) (slots2 := 0) (by decide)) [8, 0, 1, 2, 3, 4, 5, 6, 7] [] rfl rfl (by decide) (cells2 := 0) (slots2 := 0) (by decide) (fun u2 H locs w => ?_)
  have w : Wd s G A [(q0, .inr (12, [.int 0, .int 0, .int 0, .int 0, .int 0, .int 0, .int 0, .int (-1), .ref q9, .ref q8, .ref q10, .int 0, .ref q11, .ref q12, .ref q13, .ref q14, .ref q15, .ref q2, .ref q16, .int 0, .ref q3, .ref q4, .ref q17, .ref q6, .ref q7, .ref q1, .ref q5, .int 1, .int (-1), .int 0, .ref q18, .ref q19, .ref q20, .ref q21, .ref q22, .ref q23, .ref q24, .ref q25, .int 0, .ref q26, .ref q27, .ref q28, .ref q29, .ref q30, .int 0, .ref q31, .ref q32, .ref q33, .ref q34, .int 0, .ref q35, .ref q36, .ref q37, .ref q38, .int 0, .int 0, .ref q39, .ref q40, .ref q41, .ref q42])), (q1, .inl (G.2.1, 4096, .inl (upd (fun _ => (-1)) 0 0))), (q2, .inl (G.2.1, 57, .inl (fun _ => 0))), (q3, .inl (G.2.1, 8, .inl (fun _ => 0))), (q4, .inl (G.2.1, 24008, .inl (fun _ => 0))), (q5, .inl (G.2.1, 3000, .inl (upd (fun _ => 0) 0 (-1)))), (q6, .inl (G.2.1, 3000, .inl (upd (fun _ => 0) 0 (-1)))), (q7, .inl (G.2.1, 3000, .inl (upd (fun _ => 0) 0 (-1)))), (q8, .inl (G.2.1, 242, .inl (fun _ => 0)))] H locs := w
  refine lv_aload_n hx hb dX12_dead_21 rfl (lv_at hl 0 rfl) ?_
  refine r_get C w 0 rfl fr_X12_325 rfl dX12_dead_22 ?_
  refine lv_if_eq (tgt := 31) hx hb dX12_dead_25 (by decide) (fun _ => ?_) (fun h => absurd (by decide) h)
  refine lv_iconst (v := 0) hx hb dX12_dead_31 (by decide) ?_
  refine lv_istore_n (lv' := [(3, .int 0), (0, .ref q0), (1, .int x0), (2, .int x1)]) hx hb dX12_dead_32 rfl hl (by decide) rfl (fun ls hl => ?_)
  refine lv_iconst (v := 0) hx hb dX12_dead_33 (by decide) ?_
  refine lv_istore (lv' := [(4, .int 0), (3, .int 0), (0, .ref q0), (1, .int x0), (2, .int x1)]) hx hb dX12_dead_34 hl (by decide) rfl (fun ls hl => ?_)
  refine lv_iload hx hb dX12_dead_36 (lv_at hl 0 rfl) ?_
  refine lv_aload_n hx hb dX12_dead_38 rfl (lv_at hl 2 rfl) ?_
  refine r_get C w 0 rfl fr_X12_322 rfl dX12_dead_39 ?_
  refine lv_icmp_ge (tgt := 74) hx hb dX12_dead_42 (by decide) (fun h => absurd h (by decide)) (fun _ => ?_)
  refine lv_aload_n hx hb dX12_dead_45 rfl (lv_at hl 2 rfl) ?_
  refine lv_iload hx hb dX12_dead_46 (lv_at hl 0 rfl) ?_
  refine fin_i C w (run_V C w mv_X12_342 (k140_isDead C.b0 q0 q8 q9 q10 q11 q12 q13 q14 q15 q2 q16 q3 q4 q17 q6 q7 q1 q5 q18 q19 q20 q21 q22 q23 q24 q25 q26 q27 q28 q29 q30 q31 q32 q33 q34 q35 q36 q37 q38 q39 q40 q41 q42 H.size) [0, 8] rfl rfl 0 rfl rfl (by decide) rfl hl.1 rfl (Nat.le_of_ble_eq_true rfl) dX12_dead_48 (cells2 := 0) (slots2 := 0) (by decide)) [0, 8] [1, 2, 3, 4, 5, 6, 7] rfl rfl (by decide) (cells2 := 0) (slots2 := 0) (by decide) (fun u3 H locs w => ?_)
  have w : Wd s G A [(q1, .inl (G.2.1, 4096, .inl (upd (fun _ => (-1)) 0 0))), (q2, .inl (G.2.1, 57, .inl (fun _ => 0))), (q3, .inl (G.2.1, 8, .inl (fun _ => 0))), (q4, .inl (G.2.1, 24008, .inl (fun _ => 0))), (q5, .inl (G.2.1, 3000, .inl (upd (fun _ => 0) 0 (-1)))), (q6, .inl (G.2.1, 3000, .inl (upd (fun _ => 0) 0 (-1)))), (q7, .inl (G.2.1, 3000, .inl (upd (fun _ => 0) 0 (-1)))), (q0, .inr (12, [.int 0, .int 0, .int 0, .int 0, .int 0, .int 0, .int 0, .int (-1), .ref q9, .ref q8, .ref q10, .int 0, .ref q11, .ref q12, .ref q13, .ref q14, .ref q15, .ref q2, .ref q16, .int 0, .ref q3, .ref q4, .ref q17, .ref q6, .ref q7, .ref q1, .ref q5, .int 1, .int (-1), .int 0, .ref q18, .ref q19, .ref q20, .ref q21, .ref q22, .ref q23, .ref q24, .ref q25, .int 0, .ref q26, .ref q27, .ref q28, .ref q29, .ref q30, .int 0, .ref q31, .ref q32, .ref q33, .ref q34, .int 0, .ref q35, .ref q36, .ref q37, .ref q38, .int 0, .int 0, .ref q39, .ref q40, .ref q41, .ref q42])), (q8, .inl (G.2.1, 242, .inl (fun _ => 0)))] H locs := w
  refine lv_if_ne (tgt := 57) hx hb dX12_dead_51 (by decide) (fun _ => ?_) (fun h => h.elim (by decide))
  refine lv_iload_n hx hb dX12_dead_57 rfl (lv_at hl 1 rfl) ?_
  refine lv_iload_n hx hb dX12_dead_58 rfl (lv_at hl 4 rfl) ?_
  refine lv_icmp_ne (tgt := 65) hx hb dX12_dead_59 (by decide) (fun _ => ?_) (fun h => h.elim h0)
  refine lv_iinc (v := 1) (lv' := [(3, .int 1), (4, .int 0), (0, .ref q0), (1, .int x0), (2, .int x1)]) hx hb dX12_dead_65 hl (k := 1) rfl (by decide +kernel) (by decide) rfl (fun ls hl => ?_)
  refine lv_iinc (v := 1) (lv' := [(4, .int 1), (3, .int 1), (0, .ref q0), (1, .int x0), (2, .int x1)]) hx hb dX12_dead_68 hl (k := 1) rfl (by decide +kernel) (by decide) rfl (fun ls hl => ?_)
  refine lv_goto (tgt := 36) hx hb dX12_dead_71 (by decide) ?_
  refine lv_iload hx hb dX12_dead_36 (lv_at hl 0 rfl) ?_
  refine lv_aload_n hx hb dX12_dead_38 rfl (lv_at hl 2 rfl) ?_
  refine r_get C w 7 rfl fr_X12_322 rfl dX12_dead_39 ?_
  refine lv_icmp_ge (tgt := 74) hx hb dX12_dead_42 (by decide) (fun _ => ?_) (fun h => absurd (by decide) h)
  refine lv_iconst (v := (-1)) hx hb dX12_dead_74 (by decide) ?_
  exact e_i C hr w (fun _ => 0) [7, 0, 1, 2, 3, 4, 5, 6, 8] rfl rfl rfl dX12_dead_75 (by decide) (by decide)
set_option maxRecDepth 100000 in
set_option maxHeartbeats 4000000 in
theorem k146_lives {l : Launch} {s0 : State} {a0 : Array Value} {G : GT} (b0 : B0 l s0 a0 G) (q0 q1 q2 q3 q4 q5 q6 q7 q8 q9 q10 q11 q12 q13 q14 q15 q16 q17 q18 q19 q20 q21 q22 q23 q24 : Nat) (x0 : Int32) (x1 : Int32) (sz : Nat) : Kx l s0 G yX11_lives cX11_lives 4 (some .int) { frames := 7, cells := 1, slots := 6, locals := 111 } [.ref q0, .int x0, .int x1] [(q0, .inr (11, [.ref q2, .ref q3, .ref q4, .ref q5, .ref q6, .ref q7, .ref q8, .ref q9, .ref q1, .ref q10, .int 0, .int (-1), .int 0, .int 0, .null, .null, .null, .null, .null])), (q1, .inr (2, [.int 0, .int 0, .ref q11, .ref q12, .ref q13, .ref q14, .ref q15, .ref q16, .ref q17, .ref q18, .ref q19, .ref q20, .ref q21, .ref q22, .ref q23, .ref q24, .int 0]))] sz "java/util/NoSuchElementException" := by
  refine Kx.of b0 (own := RX11) (nm := "lives") [(0, .ref q0), (1, .int x0), (2, .int x1)] rfl rfl (by decide +kernel) (Nat.le_of_ble_eq_true rfl) rfl ?_
  intro p e s m below meth c A C ht H locs w ls hl
  have hx := C.hx
  have hb := C.hb
  refine lv_aload_n hx hb dX11_lives_0 rfl (lv_at hl 0 rfl) ?_
  refine lv_iload_n hx hb dX11_lives_1 rfl (lv_at hl 2 rfl) ?_
  refine fin_x C w (run_Vx C w mv_X11_104 (k60_needAct C.b0 q0 q1 q2 q3 q4 q5 q6 q7 q8 q9 q10 q11 q12 q13 q14 q15 q16 q17 q18 q19 q20 q21 q22 q23 q24 x1 H.size) [0, 1] rfl rfl 0 rfl rfl (by decide) rfl hl.1 rfl (Nat.le_of_ble_eq_true rfl) dX11_lives_2 (cells2 := 1) (slots2 := 6) (by decide)) [0, 1] [] rfl rfl (by decide) (cells2 := 1) (slots2 := 6) (by decide) (fun qx2 ce H locs w hce hcv hcl => ?_)
  have w : Wd s G A [(q0, .inr (11, [.ref q2, .ref q3, .ref q4, .ref q5, .ref q6, .ref q7, .ref q8, .ref q9, .ref q1, .ref q10, .int 0, .int (-1), .int 0, .int 0, .null, .null, .null, .null, .null])), (q1, .inr (2, [.int 0, .int 0, .ref q11, .ref q12, .ref q13, .ref q14, .ref q15, .ref q16, .ref q17, .ref q18, .ref q19, .ref q20, .ref q21, .ref q22, .ref q23, .ref q24, .int 0]))] H locs := w
  exact r_out C ht w [0, 1] rfl rfl hce hcv hcl (by decide) (by decide)
set_option maxRecDepth 100000 in
set_option maxHeartbeats 4000000 in
theorem k147_lives {l : Launch} {s0 : State} {a0 : Array Value} {G : GT} (b0 : B0 l s0 a0 G) (q0 q1 q2 q3 q4 q5 q6 q7 q8 q9 q10 q11 q12 q13 q14 q15 q16 q17 q18 q19 q20 q21 q22 q23 q24 q25 : Nat) (x0 : Int32) (x1 : Int32) (sz : Nat) : Kh l s0 G yL_lives cL_lives 5 (some .int) [(0, 10, 13, 22), (0, 10, 17, 13)] { frames := 8, cells := 1, slots := 6, locals := 134 } [.ref q0, .int x0, .int x1, .ref q2] [(q0, .inr (11, [.ref q3, .ref q4, .ref q5, .ref q6, .ref q7, .ref q8, .ref q9, .ref q10, .ref q1, .ref q11, .int 0, .int (-1), .int 0, .int 0, .null, .null, .null, .null, .null])), (q1, .inr (2, [.int 0, .int 0, .ref q12, .ref q13, .ref q14, .ref q15, .ref q16, .ref q17, .ref q18, .ref q19, .ref q20, .ref q21, .ref q22, .ref q23, .ref q24, .ref q25, .int 0]))] sz 1 (fun u => [(q0, .inr (11, [.ref q3, .ref q4, .ref q5, .ref q6, .ref q7, .ref q8, .ref q9, .ref q10, .ref q1, .ref q11, .int 0, .int (-1), .int 0, .int 0, .null, .null, .null, .null, .null])), (q1, .inr (2, [.int 0, .int 0, .ref q12, .ref q13, .ref q14, .ref q15, .ref q16, .ref q17, .ref q18, .ref q19, .ref q20, .ref q21, .ref q22, .ref q23, .ref q24, .ref q25, .int 0]))]) := by
  refine Kh.of b0 (own := RL) (nm := "lives") [(0, .ref q0), (1, .int x0), (2, .int x1), (3, .ref q2)] rfl rfl (by decide +kernel) (Nat.le_of_ble_eq_true rfl) rfl ?_
  intro p e s m below meth c A C hr ht H locs w ls hl
  have hx := C.hx
  have hb := C.hb
  refine lv_aload_n hx hb dL_lives_0 rfl (lv_at hl 3 rfl) ?_
  refine lv_iconst (v := 0) hx hb dL_lives_1 (by decide) ?_
  refine lv_aload_n hx hb dL_lives_2 rfl (lv_at hl 0 rfl) ?_
  refine lv_iload_n hx hb dL_lives_3 rfl (lv_at hl 1 rfl) ?_
  refine lv_iload_n hx hb dL_lives_4 rfl (lv_at hl 2 rfl) ?_
  refine fin_x C w (run_Vx C w mv_L_54 (k146_lives C.b0 q0 q1 q3 q4 q5 q6 q7 q8 q9 q10 q11 q12 q13 q14 q15 q16 q17 q18 q19 q20 q21 q22 q23 q24 q25 x0 x1 H.size) [0, 1] rfl rfl 0 rfl rfl (by decide) rfl hl.1 rfl (Nat.le_of_ble_eq_true rfl) dL_lives_5 (cells2 := 1) (slots2 := 6) (by decide)) [0, 1] [] rfl rfl (by decide) (cells2 := 1) (slots2 := 6) (by decide) (fun qx2 ce H locs w hce hcv hcl => ?_)
  have w : Wd s G A [(q0, .inr (11, [.ref q3, .ref q4, .ref q5, .ref q6, .ref q7, .ref q8, .ref q9, .ref q10, .ref q1, .ref q11, .int 0, .int (-1), .int 0, .int 0, .null, .null, .null, .null, .null])), (q1, .inr (2, [.int 0, .int 0, .ref q12, .ref q13, .ref q14, .ref q15, .ref q16, .ref q17, .ref q18, .ref q19, .ref q20, .ref q21, .ref q22, .ref q23, .ref q24, .ref q25, .int 0]))] H locs := w
  refine r_catch C ht (by decide) (by decide) tl_L_22 tk_java_util_NoSuchElementException hce hcv hcl ?_
  refine lv_astore (lv' := [(4, .ref qx2), (0, .ref q0), (1, .int x0), (2, .int x1), (3, .ref q2)]) hx hb dL_lives_13 hl (by decide) rfl (fun ls hl => ?_)
  refine lv_iconst (v := 1) hx hb dL_lives_15 (by decide) ?_
  exact e_i C hr w (fun _ => 0) [0, 1] rfl rfl rfl dL_lives_16 (by decide) (by decide)
set_option maxRecDepth 100000 in
set_option maxHeartbeats 4000000 in
theorem k148_lives {l : Launch} {s0 : State} {a0 : Array Value} {G : GT} (b0 : B0 l s0 a0 G) (q0 q1 q2 q3 q4 q5 q6 q7 q8 q9 q10 q11 q12 q13 q14 q15 q16 q17 q18 q19 q20 q21 q22 q23 q24 q25 q26 q27 q28 q29 q30 q31 q32 q33 q34 q35 q36 q37 q38 q39 q40 q41 q42 : Nat) (x0 : Int32) (x1 : Int32) (sz : Nat) : Ki l s0 G yX12_lives cX12_lives 5 (some .int) { frames := 2, cells := 0, slots := 0, locals := 44 } [.ref q0, .int x0, .int x1] [(q0, .inr (12, [.int 0, .int 0, .int 0, .int 0, .int 0, .int 0, .int 0, .int (-1), .ref q2, .ref q1, .ref q3, .int 0, .ref q4, .ref q5, .ref q6, .ref q7, .ref q8, .ref q9, .ref q10, .int 0, .ref q11, .ref q12, .ref q13, .ref q14, .ref q15, .ref q16, .ref q17, .int 0, .int (-1), .int 0, .ref q18, .ref q19, .ref q20, .ref q21, .ref q22, .ref q23, .ref q24, .ref q25, .int 0, .ref q26, .ref q27, .ref q28, .ref q29, .ref q30, .int 0, .ref q31, .ref q32, .ref q33, .ref q34, .int 0, .ref q35, .ref q36, .ref q37, .ref q38, .int 0, .int 0, .ref q39, .ref q40, .ref q41, .ref q42])), (q1, .inl (G.2.1, 242, .inl (fun _ => 0)))] sz 0 (fun u => [(q0, .inr (12, [.int 1, .int 0, .int 0, .int 0, .int 0, .int 0, .int 0, .int (-1), .ref q2, .ref q1, .ref q3, .int 0, .ref q4, .ref q5, .ref q6, .ref q7, .ref q8, .ref q9, .ref q10, .int 0, .ref q11, .ref q12, .ref q13, .ref q14, .ref q15, .ref q16, .ref q17, .int 0, .int (-1), .int 0, .ref q18, .ref q19, .ref q20, .ref q21, .ref q22, .ref q23, .ref q24, .ref q25, .int 0, .ref q26, .ref q27, .ref q28, .ref q29, .ref q30, .int 0, .ref q31, .ref q32, .ref q33, .ref q34, .int 0, .ref q35, .ref q36, .ref q37, .ref q38, .int 0, .int 0, .ref q39, .ref q40, .ref q41, .ref q42])), (q1, .inl (G.2.1, 242, .inl (fun _ => 0)))]) := by
  refine Ki.of b0 (own := RX12) (nm := "lives") [(0, .ref q0), (1, .int x0), (2, .int x1)] rfl rfl (by decide +kernel) (Nat.le_of_ble_eq_true rfl) rfl ?_
  intro p e s m below meth c A C hr H locs w ls hl
  have hx := C.hx
  have hb := C.hb
  refine lv_aload_n hx hb dX12_lives_0 rfl (lv_at hl 0 rfl) ?_
  refine lv_iconst (v := 0) hx hb dX12_lives_1 (by decide) ?_
  refine r_put C w 0 rfl fl_X12_1 (Nat.le_of_ble_eq_true rfl) rfl rfl dX12_lives_2 (ws2 := [(q0, .inr (12, [.int 0, .int 0, .int 0, .int 0, .int 0, .int 0, .int 0, .int (-1), .ref q2, .ref q1, .ref q3, .int 0, .ref q4, .ref q5, .ref q6, .ref q7, .ref q8, .ref q9, .ref q10, .int 0, .ref q11, .ref q12, .ref q13, .ref q14, .ref q15, .ref q16, .ref q17, .int 0, .int (-1), .int 0, .ref q18, .ref q19, .ref q20, .ref q21, .ref q22, .ref q23, .ref q24, .ref q25, .int 0, .ref q26, .ref q27, .ref q28, .ref q29, .ref q30, .int 0, .ref q31, .ref q32, .ref q33, .ref q34, .int 0, .ref q35, .ref q36, .ref q37, .ref q38, .int 0, .int 0, .ref q39, .ref q40, .ref q41, .ref q42])), (q1, .inl (G.2.1, 242, .inl (fun _ => 0)))]) rfl (fun H locs w => ?_)
  refine lv_aload_n hx hb dX12_lives_5 rfl (lv_at hl 0 rfl) ?_
  refine lv_iload_n hx hb dX12_lives_6 rfl (lv_at hl 2 rfl) ?_
  refine lv_iconst (v := 1) hx hb dX12_lives_7 (by decide) ?_
  refine fin_i C w (run_V C w mv_X12_293 (k64_isAct C.b0 q0 q1 q2 q3 q4 q5 q6 q7 q8 q9 q10 q11 q12 q13 q14 q15 q16 q17 q18 q19 q20 q21 q22 q23 q24 q25 q26 q27 q28 q29 q30 q31 q32 q33 q34 q35 q36 q37 q38 q39 q40 q41 q42 x1 H.size) [0, 1] rfl rfl 0 rfl rfl (by decide) rfl hl.1 rfl (Nat.le_of_ble_eq_true rfl) dX12_lives_8 (cells2 := 0) (slots2 := 0) (by decide)) [0, 1] [] rfl rfl (by decide) (cells2 := 0) (slots2 := 0) (by decide) (fun u1 H locs w => ?_)
  have w : Wd s G A [(q0, .inr (12, [.int 1, .int 0, .int 0, .int 0, .int 0, .int 0, .int 0, .int (-1), .ref q2, .ref q1, .ref q3, .int 0, .ref q4, .ref q5, .ref q6, .ref q7, .ref q8, .ref q9, .ref q10, .int 0, .ref q11, .ref q12, .ref q13, .ref q14, .ref q15, .ref q16, .ref q17, .int 0, .int (-1), .int 0, .ref q18, .ref q19, .ref q20, .ref q21, .ref q22, .ref q23, .ref q24, .ref q25, .int 0, .ref q26, .ref q27, .ref q28, .ref q29, .ref q30, .int 0, .ref q31, .ref q32, .ref q33, .ref q34, .int 0, .ref q35, .ref q36, .ref q37, .ref q38, .int 0, .int 0, .ref q39, .ref q40, .ref q41, .ref q42])), (q1, .inl (G.2.1, 242, .inl (fun _ => 0)))] H locs := w
  refine lv_if_eq (tgt := 23) hx hb dX12_lives_11 (by decide) (fun _ => ?_) (fun h => absurd (by decide) h)
  refine lv_iconst (v := 0) hx hb dX12_lives_23 (by decide) ?_
  exact e_i C hr w (fun _ => 0) [0, 1] rfl rfl rfl dX12_lives_24 (by decide) (by decide)
set_option maxRecDepth 100000 in
set_option maxHeartbeats 4000000 in
theorem k149_home {l : Launch} {s0 : State} {a0 : Array Value} {G : GT} (b0 : B0 l s0 a0 G) (q0 : Nat) (x0 : Int32) (x1 : Int32) (h0 : x0 < 1) (sz : Nat) : Kx l s0 G yX11_home cX11_home 5 (some .int) { frames := 8, cells := 1, slots := 6, locals := 132 } [.ref q0, .int x0, .int x1] [] sz "java/lang/IllegalArgumentException" := by
  refine Kx.of b0 (own := RX11) (nm := "home") [(0, .ref q0), (1, .int x0), (2, .int x1)] rfl rfl (by decide +kernel) (Nat.le_of_ble_eq_true rfl) rfl ?_
  intro p e s m below meth c A C ht H locs w ls hl
  have hx := C.hx
  have hb := C.hb
  refine lv_iload_n hx hb dX11_home_0 rfl (lv_at hl 1 rfl) ?_
  refine fin_x C w (run_Sx C w ms_X11_161 (k92_needMost C.b0 x0 h0 H.size) [] rfl rfl (by decide) rfl hl.1 rfl (Nat.le_of_ble_eq_true rfl) dX11_home_1 (cells2 := 1) (slots2 := 6) (by decide)) [] [] rfl rfl (by decide) (cells2 := 1) (slots2 := 6) (by decide) (fun qx2 ce H locs w hce hcv hcl => ?_)
  have w : Wd s G A [] H locs := w
  exact r_out C ht w [] rfl rfl hce hcv hcl (by decide) (by decide)
set_option maxRecDepth 100000 in
set_option maxHeartbeats 4000000 in
theorem k150_home {l : Launch} {s0 : State} {a0 : Array Value} {G : GT} (b0 : B0 l s0 a0 G) (q0 q1 q2 q3 q4 q5 q6 q7 q8 q9 q10 q11 : Nat) (x0 : Int32) (x1 : Int32) (h0 : x0 < 1) (sz : Nat) : Kh l s0 G yL_home cL_home 5 (some .int) [(0, 10, 13, 13)] { frames := 9, cells := 1, slots := 6, locals := 156 } [.ref q0, .int x0, .int x1, .ref q1] [(q0, .inr (11, [.ref q2, .ref q3, .ref q4, .ref q5, .ref q6, .ref q7, .ref q8, .ref q9, .ref q10, .ref q11, .int 0, .int (-1), .int 0, .int 0, .null, .null, .null, .null, .null]))] sz 1 (fun u => [(q0, .inr (11, [.ref q2, .ref q3, .ref q4, .ref q5, .ref q6, .ref q7, .ref q8, .ref q9, .ref q10, .ref q11, .int 0, .int (-1), .int 0, .int 0, .null, .null, .null, .null, .null]))]) := by
  refine Kh.of b0 (own := RL) (nm := "home") [(0, .ref q0), (1, .int x0), (2, .int x1), (3, .ref q1)] rfl rfl (by decide +kernel) (Nat.le_of_ble_eq_true rfl) rfl ?_
  intro p e s m below meth c A C hr ht H locs w ls hl
  have hx := C.hx
  have hb := C.hb
  refine lv_aload_n hx hb dL_home_0 rfl (lv_at hl 3 rfl) ?_
  refine lv_iconst (v := 0) hx hb dL_home_1 (by decide) ?_
  refine lv_aload_n hx hb dL_home_2 rfl (lv_at hl 0 rfl) ?_
  refine lv_iload_n hx hb dL_home_3 rfl (lv_at hl 1 rfl) ?_
  refine lv_iload_n hx hb dL_home_4 rfl (lv_at hl 2 rfl) ?_
  refine fin_x C w (run_Vx C w mv_L_57 (k149_home C.b0 q0 x0 x1 h0 H.size) [] rfl rfl 0 rfl rfl (by decide) rfl hl.1 rfl (Nat.le_of_ble_eq_true rfl) dL_home_5 (cells2 := 1) (slots2 := 6) (by decide)) [] [0] rfl rfl (by decide) (cells2 := 1) (slots2 := 6) (by decide) (fun qx2 ce H locs w hce hcv hcl => ?_)
  have w : Wd s G A [(q0, .inr (11, [.ref q2, .ref q3, .ref q4, .ref q5, .ref q6, .ref q7, .ref q8, .ref q9, .ref q10, .ref q11, .int 0, .int (-1), .int 0, .int 0, .null, .null, .null, .null, .null]))] H locs := w
  refine r_catch C ht (by decide) (by decide) tl_L_13 tk_java_lang_IllegalArgumentException hce hcv hcl ?_
  refine lv_astore (lv' := [(4, .ref qx2), (0, .ref q0), (1, .int x0), (2, .int x1), (3, .ref q1)]) hx hb dL_home_13 hl (by decide) rfl (fun ls hl => ?_)
  refine lv_iconst (v := 1) hx hb dL_home_15 (by decide) ?_
  exact e_i C hr w (fun _ => 0) [0] rfl rfl rfl dL_home_16 (by decide) (by decide)
set_option maxRecDepth 100000 in
set_option maxHeartbeats 4000000 in
theorem k151_home {l : Launch} {s0 : State} {a0 : Array Value} {G : GT} (b0 : B0 l s0 a0 G) (q0 q1 q2 q3 q4 q5 q6 q7 q8 q9 q10 q11 q12 q13 q14 q15 q16 q17 q18 q19 q20 q21 q22 q23 q24 q25 q26 q27 q28 q29 q30 q31 q32 q33 q34 q35 q36 q37 q38 q39 q40 q41 q42 : Nat) (x0 : Int32) (x1 : Int32) (h0 : x0 < 1) (sz : Nat) : Ki l s0 G yX12_home cX12_home 7 (some .int) { frames := 2, cells := 0, slots := 0, locals := 44 } [.ref q0, .int x0, .int x1] [(q0, .inr (12, [.int 0, .int 0, .int 0, .int 0, .int 0, .int 0, .int 0, .int (-1), .ref q1, .ref q2, .ref q3, .int 0, .ref q4, .ref q5, .ref q6, .ref q7, .ref q8, .ref q9, .ref q10, .int 0, .ref q11, .ref q12, .ref q13, .ref q14, .ref q15, .ref q16, .ref q17, .int 0, .int (-1), .int 0, .ref q18, .ref q19, .ref q20, .ref q21, .ref q22, .ref q23, .ref q24, .ref q25, .int 0, .ref q26, .ref q27, .ref q28, .ref q29, .ref q30, .int 0, .ref q31, .ref q32, .ref q33, .ref q34, .int 0, .ref q35, .ref q36, .ref q37, .ref q38, .int 0, .int 0, .ref q39, .ref q40, .ref q41, .ref q42]))] sz 0 (fun u => [(q0, .inr (12, [.int 1, .int 0, .int 0, .int 0, .int 0, .int 0, .int 0, .int (-1), .ref q1, .ref q2, .ref q3, .int 0, .ref q4, .ref q5, .ref q6, .ref q7, .ref q8, .ref q9, .ref q10, .int 0, .ref q11, .ref q12, .ref q13, .ref q14, .ref q15, .ref q16, .ref q17, .int 0, .int (-1), .int 0, .ref q18, .ref q19, .ref q20, .ref q21, .ref q22, .ref q23, .ref q24, .ref q25, .int 0, .ref q26, .ref q27, .ref q28, .ref q29, .ref q30, .int 0, .ref q31, .ref q32, .ref q33, .ref q34, .int 0, .ref q35, .ref q36, .ref q37, .ref q38, .int 0, .int 0, .ref q39, .ref q40, .ref q41, .ref q42]))]) := by
  refine Ki.of b0 (own := RX12) (nm := "home") [(0, .ref q0), (1, .int x0), (2, .int x1)] rfl rfl (by decide +kernel) (Nat.le_of_ble_eq_true rfl) rfl ?_
  intro p e s m below meth c A C hr H locs w ls hl
  have hx := C.hx
  have hb := C.hb
  refine lv_aload_n hx hb dX12_home_0 rfl (lv_at hl 0 rfl) ?_
  refine lv_iconst (v := 0) hx hb dX12_home_1 (by decide) ?_
  refine r_put C w 0 rfl fl_X12_1 (Nat.le_of_ble_eq_true rfl) rfl rfl dX12_home_2 (ws2 := [(q0, .inr (12, [.int 0, .int 0, .int 0, .int 0, .int 0, .int 0, .int 0, .int (-1), .ref q1, .ref q2, .ref q3, .int 0, .ref q4, .ref q5, .ref q6, .ref q7, .ref q8, .ref q9, .ref q10, .int 0, .ref q11, .ref q12, .ref q13, .ref q14, .ref q15, .ref q16, .ref q17, .int 0, .int (-1), .int 0, .ref q18, .ref q19, .ref q20, .ref q21, .ref q22, .ref q23, .ref q24, .ref q25, .int 0, .ref q26, .ref q27, .ref q28, .ref q29, .ref q30, .int 0, .ref q31, .ref q32, .ref q33, .ref q34, .int 0, .ref q35, .ref q36, .ref q37, .ref q38, .int 0, .int 0, .ref q39, .ref q40, .ref q41, .ref q42]))]) rfl (fun H locs w => ?_)
  refine lv_aload_n hx hb dX12_home_5 rfl (lv_at hl 0 rfl) ?_
  refine lv_iload_n hx hb dX12_home_6 rfl (lv_at hl 1 rfl) ?_
  refine lv_iconst (v := 1) hx hb dX12_home_7 (by decide) ?_
  refine fin_i C w (run_V C w mv_X12_336 (k96_isMost C.b0 q0 q1 q2 q3 q4 q5 q6 q7 q8 q9 q10 q11 q12 q13 q14 q15 q16 q17 q18 q19 q20 q21 q22 q23 q24 q25 q26 q27 q28 q29 q30 q31 q32 q33 q34 q35 q36 q37 q38 q39 q40 q41 q42 x0 h0 H.size) [0] rfl rfl 0 rfl rfl (by decide) rfl hl.1 rfl (Nat.le_of_ble_eq_true rfl) dX12_home_8 (cells2 := 0) (slots2 := 0) (by decide)) [0] [] rfl rfl (by decide) (cells2 := 0) (slots2 := 0) (by decide) (fun u1 H locs w => ?_)
  have w : Wd s G A [(q0, .inr (12, [.int 1, .int 0, .int 0, .int 0, .int 0, .int 0, .int 0, .int (-1), .ref q1, .ref q2, .ref q3, .int 0, .ref q4, .ref q5, .ref q6, .ref q7, .ref q8, .ref q9, .ref q10, .int 0, .ref q11, .ref q12, .ref q13, .ref q14, .ref q15, .ref q16, .ref q17, .int 0, .int (-1), .int 0, .ref q18, .ref q19, .ref q20, .ref q21, .ref q22, .ref q23, .ref q24, .ref q25, .int 0, .ref q26, .ref q27, .ref q28, .ref q29, .ref q30, .int 0, .ref q31, .ref q32, .ref q33, .ref q34, .int 0, .ref q35, .ref q36, .ref q37, .ref q38, .int 0, .int 0, .ref q39, .ref q40, .ref q41, .ref q42]))] H locs := w
  refine lv_if_eq (tgt := 28) hx hb dX12_home_11 (by decide) (fun _ => ?_) (fun h => absurd (by decide) h)
  refine lv_iconst (v := 0) hx hb dX12_home_28 (by decide) ?_
  exact e_i C hr w (fun _ => 0) [0] rfl rfl rfl dX12_home_29 (by decide) (by decide)
set_option maxRecDepth 100000 in
set_option maxHeartbeats 4000000 in
theorem k152_home {l : Launch} {s0 : State} {a0 : Array Value} {G : GT} (b0 : B0 l s0 a0 G) (q0 : Nat) (x0 : Int32) (x1 : Int32) (h0 : 3000 < x0) (h1 : ¬ x0 < 1) (sz : Nat) : Kx l s0 G yX11_home cX11_home 5 (some .int) { frames := 8, cells := 1, slots := 6, locals := 132 } [.ref q0, .int x0, .int x1] [] sz "java/lang/IllegalArgumentException" := by
  refine Kx.of b0 (own := RX11) (nm := "home") [(0, .ref q0), (1, .int x0), (2, .int x1)] rfl rfl (by decide +kernel) (Nat.le_of_ble_eq_true rfl) rfl ?_
  intro p e s m below meth c A C ht H locs w ls hl
  have hx := C.hx
  have hb := C.hb
  refine lv_iload_n hx hb dX11_home_0 rfl (lv_at hl 1 rfl) ?_
  refine fin_x C w (run_Sx C w ms_X11_161 (k99_needMost C.b0 x0 h0 h1 H.size) [] rfl rfl (by decide) rfl hl.1 rfl (Nat.le_of_ble_eq_true rfl) dX11_home_1 (cells2 := 1) (slots2 := 6) (by decide)) [] [] rfl rfl (by decide) (cells2 := 1) (slots2 := 6) (by decide) (fun qx2 ce H locs w hce hcv hcl => ?_)
  have w : Wd s G A [] H locs := w
  exact r_out C ht w [] rfl rfl hce hcv hcl (by decide) (by decide)
set_option maxRecDepth 100000 in
set_option maxHeartbeats 4000000 in
theorem k153_home {l : Launch} {s0 : State} {a0 : Array Value} {G : GT} (b0 : B0 l s0 a0 G) (q0 q1 q2 q3 q4 q5 q6 q7 q8 q9 q10 q11 : Nat) (x0 : Int32) (x1 : Int32) (h0 : 3000 < x0) (h1 : ¬ x0 < 1) (sz : Nat) : Kh l s0 G yL_home cL_home 5 (some .int) [(0, 10, 13, 13)] { frames := 9, cells := 1, slots := 6, locals := 156 } [.ref q0, .int x0, .int x1, .ref q1] [(q0, .inr (11, [.ref q2, .ref q3, .ref q4, .ref q5, .ref q6, .ref q7, .ref q8, .ref q9, .ref q10, .ref q11, .int 0, .int (-1), .int 0, .int 0, .null, .null, .null, .null, .null]))] sz 1 (fun u => [(q0, .inr (11, [.ref q2, .ref q3, .ref q4, .ref q5, .ref q6, .ref q7, .ref q8, .ref q9, .ref q10, .ref q11, .int 0, .int (-1), .int 0, .int 0, .null, .null, .null, .null, .null]))]) := by
  refine Kh.of b0 (own := RL) (nm := "home") [(0, .ref q0), (1, .int x0), (2, .int x1), (3, .ref q1)] rfl rfl (by decide +kernel) (Nat.le_of_ble_eq_true rfl) rfl ?_
  intro p e s m below meth c A C hr ht H locs w ls hl
  have hx := C.hx
  have hb := C.hb
  refine lv_aload_n hx hb dL_home_0 rfl (lv_at hl 3 rfl) ?_
  refine lv_iconst (v := 0) hx hb dL_home_1 (by decide) ?_
  refine lv_aload_n hx hb dL_home_2 rfl (lv_at hl 0 rfl) ?_
  refine lv_iload_n hx hb dL_home_3 rfl (lv_at hl 1 rfl) ?_
  refine lv_iload_n hx hb dL_home_4 rfl (lv_at hl 2 rfl) ?_
  refine fin_x C w (run_Vx C w mv_L_57 (k152_home C.b0 q0 x0 x1 h0 h1 H.size) [] rfl rfl 0 rfl rfl (by decide) rfl hl.1 rfl (Nat.le_of_ble_eq_true rfl) dL_home_5 (cells2 := 1) (slots2 := 6) (by decide)) [] [0] rfl rfl (by decide) (cells2 := 1) (slots2 := 6) (by decide) (fun qx2 ce H locs w hce hcv hcl => ?_)
  have w : Wd s G A [(q0, .inr (11, [.ref q2, .ref q3, .ref q4, .ref q5, .ref q6, .ref q7, .ref q8, .ref q9, .ref q10, .ref q11, .int 0, .int (-1), .int 0, .int 0, .null, .null, .null, .null, .null]))] H locs := w
  refine r_catch C ht (by decide) (by decide) tl_L_13 tk_java_lang_IllegalArgumentException hce hcv hcl ?_
  refine lv_astore (lv' := [(4, .ref qx2), (0, .ref q0), (1, .int x0), (2, .int x1), (3, .ref q1)]) hx hb dL_home_13 hl (by decide) rfl (fun ls hl => ?_)
  refine lv_iconst (v := 1) hx hb dL_home_15 (by decide) ?_
  exact e_i C hr w (fun _ => 0) [0] rfl rfl rfl dL_home_16 (by decide) (by decide)
set_option maxRecDepth 100000 in
set_option maxHeartbeats 4000000 in
theorem k154_home {l : Launch} {s0 : State} {a0 : Array Value} {G : GT} (b0 : B0 l s0 a0 G) (q0 q1 q2 q3 q4 q5 q6 q7 q8 q9 q10 q11 q12 q13 q14 q15 q16 q17 q18 q19 q20 q21 q22 q23 q24 q25 q26 q27 q28 q29 q30 q31 q32 q33 q34 q35 q36 q37 q38 q39 q40 q41 q42 : Nat) (x0 : Int32) (x1 : Int32) (h0 : 3000 < x0) (h1 : ¬ x0 < 1) (sz : Nat) : Ki l s0 G yX12_home cX12_home 7 (some .int) { frames := 2, cells := 0, slots := 0, locals := 44 } [.ref q0, .int x0, .int x1] [(q0, .inr (12, [.int 0, .int 0, .int 0, .int 0, .int 0, .int 0, .int 0, .int (-1), .ref q1, .ref q2, .ref q3, .int 0, .ref q4, .ref q5, .ref q6, .ref q7, .ref q8, .ref q9, .ref q10, .int 0, .ref q11, .ref q12, .ref q13, .ref q14, .ref q15, .ref q16, .ref q17, .int 0, .int (-1), .int 0, .ref q18, .ref q19, .ref q20, .ref q21, .ref q22, .ref q23, .ref q24, .ref q25, .int 0, .ref q26, .ref q27, .ref q28, .ref q29, .ref q30, .int 0, .ref q31, .ref q32, .ref q33, .ref q34, .int 0, .ref q35, .ref q36, .ref q37, .ref q38, .int 0, .int 0, .ref q39, .ref q40, .ref q41, .ref q42]))] sz 0 (fun u => [(q0, .inr (12, [.int 1, .int 0, .int 0, .int 0, .int 0, .int 0, .int 0, .int (-1), .ref q1, .ref q2, .ref q3, .int 0, .ref q4, .ref q5, .ref q6, .ref q7, .ref q8, .ref q9, .ref q10, .int 0, .ref q11, .ref q12, .ref q13, .ref q14, .ref q15, .ref q16, .ref q17, .int 0, .int (-1), .int 0, .ref q18, .ref q19, .ref q20, .ref q21, .ref q22, .ref q23, .ref q24, .ref q25, .int 0, .ref q26, .ref q27, .ref q28, .ref q29, .ref q30, .int 0, .ref q31, .ref q32, .ref q33, .ref q34, .int 0, .ref q35, .ref q36, .ref q37, .ref q38, .int 0, .int 0, .ref q39, .ref q40, .ref q41, .ref q42]))]) := by
  refine Ki.of b0 (own := RX12) (nm := "home") [(0, .ref q0), (1, .int x0), (2, .int x1)] rfl rfl (by decide +kernel) (Nat.le_of_ble_eq_true rfl) rfl ?_
  intro p e s m below meth c A C hr H locs w ls hl
  have hx := C.hx
  have hb := C.hb
  refine lv_aload_n hx hb dX12_home_0 rfl (lv_at hl 0 rfl) ?_
  refine lv_iconst (v := 0) hx hb dX12_home_1 (by decide) ?_
  refine r_put C w 0 rfl fl_X12_1 (Nat.le_of_ble_eq_true rfl) rfl rfl dX12_home_2 (ws2 := [(q0, .inr (12, [.int 0, .int 0, .int 0, .int 0, .int 0, .int 0, .int 0, .int (-1), .ref q1, .ref q2, .ref q3, .int 0, .ref q4, .ref q5, .ref q6, .ref q7, .ref q8, .ref q9, .ref q10, .int 0, .ref q11, .ref q12, .ref q13, .ref q14, .ref q15, .ref q16, .ref q17, .int 0, .int (-1), .int 0, .ref q18, .ref q19, .ref q20, .ref q21, .ref q22, .ref q23, .ref q24, .ref q25, .int 0, .ref q26, .ref q27, .ref q28, .ref q29, .ref q30, .int 0, .ref q31, .ref q32, .ref q33, .ref q34, .int 0, .ref q35, .ref q36, .ref q37, .ref q38, .int 0, .int 0, .ref q39, .ref q40, .ref q41, .ref q42]))]) rfl (fun H locs w => ?_)
  refine lv_aload_n hx hb dX12_home_5 rfl (lv_at hl 0 rfl) ?_
  refine lv_iload_n hx hb dX12_home_6 rfl (lv_at hl 1 rfl) ?_
  refine lv_iconst (v := 1) hx hb dX12_home_7 (by decide) ?_
  refine fin_i C w (run_V C w mv_X12_336 (k103_isMost C.b0 q0 q1 q2 q3 q4 q5 q6 q7 q8 q9 q10 q11 q12 q13 q14 q15 q16 q17 q18 q19 q20 q21 q22 q23 q24 q25 q26 q27 q28 q29 q30 q31 q32 q33 q34 q35 q36 q37 q38 q39 q40 q41 q42 x0 h0 h1 H.size) [0] rfl rfl 0 rfl rfl (by decide) rfl hl.1 rfl (Nat.le_of_ble_eq_true rfl) dX12_home_8 (cells2 := 0) (slots2 := 0) (by decide)) [0] [] rfl rfl (by decide) (cells2 := 0) (slots2 := 0) (by decide) (fun u1 H locs w => ?_)
  have w : Wd s G A [(q0, .inr (12, [.int 1, .int 0, .int 0, .int 0, .int 0, .int 0, .int 0, .int (-1), .ref q1, .ref q2, .ref q3, .int 0, .ref q4, .ref q5, .ref q6, .ref q7, .ref q8, .ref q9, .ref q10, .int 0, .ref q11, .ref q12, .ref q13, .ref q14, .ref q15, .ref q16, .ref q17, .int 0, .int (-1), .int 0, .ref q18, .ref q19, .ref q20, .ref q21, .ref q22, .ref q23, .ref q24, .ref q25, .int 0, .ref q26, .ref q27, .ref q28, .ref q29, .ref q30, .int 0, .ref q31, .ref q32, .ref q33, .ref q34, .int 0, .ref q35, .ref q36, .ref q37, .ref q38, .int 0, .int 0, .ref q39, .ref q40, .ref q41, .ref q42]))] H locs := w
  refine lv_if_eq (tgt := 28) hx hb dX12_home_11 (by decide) (fun _ => ?_) (fun h => absurd (by decide) h)
  refine lv_iconst (v := 0) hx hb dX12_home_28 (by decide) ?_
  exact e_i C hr w (fun _ => 0) [0] rfl rfl rfl dX12_home_29 (by decide) (by decide)
set_option maxRecDepth 100000 in
set_option maxHeartbeats 4000000 in
theorem k155_needWithin {l : Launch} {s0 : State} {a0 : Array Value} {G : GT} (b0 : B0 l s0 a0 G) (x0 : Int32) (h0 : x0 < 0) (sz : Nat) : Kx l s0 G yX11_needWithin cX11_needWithin 3 none { frames := 6, cells := 1, slots := 6, locals := 90 } [.int x0, .int 0, .int 2] [] sz "java/lang/IllegalArgumentException" := by
  refine Kx.of b0 (own := RX11) (nm := "needWithin") [(0, .int x0), (1, .int 0), (2, .int 2)] rfl rfl (by decide +kernel) (Nat.le_of_ble_eq_true rfl) rfl ?_
  intro p e s m below meth c A C ht H locs w ls hl
  have hx := C.hx
  have hb := C.hb
  refine lv_iload_n hx hb dX11_needWithin_0 rfl (lv_at hl 0 rfl) ?_
  refine lv_iload_n hx hb dX11_needWithin_1 rfl (lv_at hl 1 rfl) ?_
  refine lv_icmp_lt (tgt := 10) hx hb dX11_needWithin_2 (by decide) (fun _ => ?_) (fun h => absurd h0 h)
  exact r_throwS C ht w hl.1 th_X11_247 C.b0.2.2.2.2.2.1 dX11_needWithin_10 dX11_needWithin_13 dX11_needWithin_14 dX11_needWithin_16 dX11_needWithin_19 (by decide) (Nat.le_of_ble_eq_true rfl) (by decide) (by decide) (by decide) (by decide) [] rfl rfl
set_option maxRecDepth 100000 in
set_option maxHeartbeats 4000000 in
theorem k156_home {l : Launch} {s0 : State} {a0 : Array Value} {G : GT} (b0 : B0 l s0 a0 G) (q0 : Nat) (x0 : Int32) (x1 : Int32) (h0 : ¬ 3000 < x0) (h1 : ¬ x0 < 1) (h2 : x1 < 0) (sz : Nat) : Kx l s0 G yX11_home cX11_home 5 (some .int) { frames := 7, cells := 1, slots := 6, locals := 112 } [.ref q0, .int x0, .int x1] [] sz "java/lang/IllegalArgumentException" := by
  refine Kx.of b0 (own := RX11) (nm := "home") [(0, .ref q0), (1, .int x0), (2, .int x1)] rfl rfl (by decide +kernel) (Nat.le_of_ble_eq_true rfl) rfl ?_
  intro p e s m below meth c A C ht H locs w ls hl
  have hx := C.hx
  have hb := C.hb
  refine lv_iload_n hx hb dX11_home_0 rfl (lv_at hl 1 rfl) ?_
  refine fin_v C w (run_S C w ms_X11_161 (k106_needMost C.b0 x0 h0 h1 H.size) [] rfl rfl (by decide) rfl hl.1 rfl (Nat.le_of_ble_eq_true rfl) dX11_home_1 (cells2 := 0) (slots2 := 0) (by decide)) [] [] rfl rfl (by decide) (cells2 := 0) (slots2 := 0) (by decide) (fun u1 H locs w => ?_)
  have w : Wd s G A [] H locs := w
  refine lv_iload_n hx hb dX11_home_4 rfl (lv_at hl 2 rfl) ?_
  refine lv_iconst (v := 0) hx hb dX11_home_5 (by decide) ?_
  refine lv_iconst (v := 2) hx hb dX11_home_6 (by decide) ?_
  refine fin_x C w (run_Sx C w ms_X11_72 (k155_needWithin C.b0 x1 h2 H.size) [] rfl rfl (by decide) rfl hl.1 rfl (Nat.le_of_ble_eq_true rfl) dX11_home_7 (cells2 := 1) (slots2 := 6) (by decide)) [] [] rfl rfl (by decide) (cells2 := 1) (slots2 := 6) (by decide) (fun qx3 ce H locs w hce hcv hcl => ?_)
  have w : Wd s G A [] H locs := w
  exact r_out C ht w [] rfl rfl hce hcv hcl (by decide) (by decide)
set_option maxRecDepth 100000 in
set_option maxHeartbeats 4000000 in
theorem k157_home {l : Launch} {s0 : State} {a0 : Array Value} {G : GT} (b0 : B0 l s0 a0 G) (q0 q1 q2 q3 q4 q5 q6 q7 q8 q9 q10 q11 : Nat) (x0 : Int32) (x1 : Int32) (h0 : ¬ 3000 < x0) (h1 : ¬ x0 < 1) (h2 : x1 < 0) (sz : Nat) : Kh l s0 G yL_home cL_home 5 (some .int) [(0, 10, 13, 13)] { frames := 8, cells := 1, slots := 6, locals := 136 } [.ref q0, .int x0, .int x1, .ref q1] [(q0, .inr (11, [.ref q2, .ref q3, .ref q4, .ref q5, .ref q6, .ref q7, .ref q8, .ref q9, .ref q10, .ref q11, .int 0, .int (-1), .int 0, .int 0, .null, .null, .null, .null, .null]))] sz 1 (fun u => [(q0, .inr (11, [.ref q2, .ref q3, .ref q4, .ref q5, .ref q6, .ref q7, .ref q8, .ref q9, .ref q10, .ref q11, .int 0, .int (-1), .int 0, .int 0, .null, .null, .null, .null, .null]))]) := by
  refine Kh.of b0 (own := RL) (nm := "home") [(0, .ref q0), (1, .int x0), (2, .int x1), (3, .ref q1)] rfl rfl (by decide +kernel) (Nat.le_of_ble_eq_true rfl) rfl ?_
  intro p e s m below meth c A C hr ht H locs w ls hl
  have hx := C.hx
  have hb := C.hb
  refine lv_aload_n hx hb dL_home_0 rfl (lv_at hl 3 rfl) ?_
  refine lv_iconst (v := 0) hx hb dL_home_1 (by decide) ?_
  refine lv_aload_n hx hb dL_home_2 rfl (lv_at hl 0 rfl) ?_
  refine lv_iload_n hx hb dL_home_3 rfl (lv_at hl 1 rfl) ?_
  refine lv_iload_n hx hb dL_home_4 rfl (lv_at hl 2 rfl) ?_
  refine fin_x C w (run_Vx C w mv_L_57 (k156_home C.b0 q0 x0 x1 h0 h1 h2 H.size) [] rfl rfl 0 rfl rfl (by decide) rfl hl.1 rfl (Nat.le_of_ble_eq_true rfl) dL_home_5 (cells2 := 1) (slots2 := 6) (by decide)) [] [0] rfl rfl (by decide) (cells2 := 1) (slots2 := 6) (by decide) (fun qx2 ce H locs w hce hcv hcl => ?_)
  have w : Wd s G A [(q0, .inr (11, [.ref q2, .ref q3, .ref q4, .ref q5, .ref q6, .ref q7, .ref q8, .ref q9, .ref q10, .ref q11, .int 0, .int (-1), .int 0, .int 0, .null, .null, .null, .null, .null]))] H locs := w
  refine r_catch C ht (by decide) (by decide) tl_L_13 tk_java_lang_IllegalArgumentException hce hcv hcl ?_
  refine lv_astore (lv' := [(4, .ref qx2), (0, .ref q0), (1, .int x0), (2, .int x1), (3, .ref q1)]) hx hb dL_home_13 hl (by decide) rfl (fun ls hl => ?_)
  refine lv_iconst (v := 1) hx hb dL_home_15 (by decide) ?_
  exact e_i C hr w (fun _ => 0) [0] rfl rfl rfl dL_home_16 (by decide) (by decide)
set_option maxRecDepth 100000 in
set_option maxHeartbeats 4000000 in
theorem k158_within {l : Launch} {s0 : State} {a0 : Array Value} {G : GT} (b0 : B0 l s0 a0 G) (x0 : Int32) (h0 : x0 < 0) (sz : Nat) : Ki l s0 G yX12_within cX12_within 3 (some .boolean) { frames := 0, cells := 0, slots := 0, locals := 0 } [.int x0, .int 0, .int 2] [] sz 0 (fun u => []) := by
  refine Ki.of b0 (own := RX12) (nm := "within") [(0, .int x0), (1, .int 0), (2, .int 2)] rfl rfl (by decide +kernel) (Nat.le_of_ble_eq_true rfl) rfl ?_
  intro p e s m below meth c A C hr H locs w ls hl
  have hx := C.hx
  have hb := C.hb
  refine lv_iload_n hx hb dX12_within_0 rfl (lv_at hl 0 rfl) ?_
  refine lv_iload_n hx hb dX12_within_1 rfl (lv_at hl 1 rfl) ?_
  refine lv_icmp_lt (tgt := 14) hx hb dX12_within_2 (by decide) (fun _ => ?_) (fun h => absurd h0 h)
  refine lv_iconst (v := 0) hx hb dX12_within_14 (by decide) ?_
  exact e_i C hr w (fun _ => 0) [] rfl rfl (by decide) dX12_within_15 (by decide) (by decide)
set_option maxRecDepth 100000 in
set_option maxHeartbeats 4000000 in
theorem k159_home {l : Launch} {s0 : State} {a0 : Array Value} {G : GT} (b0 : B0 l s0 a0 G) (q0 q1 q2 q3 q4 q5 q6 q7 q8 q9 q10 q11 q12 q13 q14 q15 q16 q17 q18 q19 q20 q21 q22 q23 q24 q25 q26 q27 q28 q29 q30 q31 q32 q33 q34 q35 q36 q37 q38 q39 q40 q41 q42 : Nat) (x0 : Int32) (x1 : Int32) (h0 : ¬ 3000 < x0) (h1 : ¬ x0 < 1) (h2 : x1 < 0) (sz : Nat) : Ki l s0 G yX12_home cX12_home 7 (some .int) { frames := 2, cells := 0, slots := 0, locals := 44 } [.ref q0, .int x0, .int x1] [(q0, .inr (12, [.int 0, .int 0, .int 0, .int 0, .int 0, .int 0, .int 0, .int (-1), .ref q1, .ref q2, .ref q3, .int 0, .ref q4, .ref q5, .ref q6, .ref q7, .ref q8, .ref q9, .ref q10, .int 0, .ref q11, .ref q12, .ref q13, .ref q14, .ref q15, .ref q16, .ref q17, .int 0, .int (-1), .int 0, .ref q18, .ref q19, .ref q20, .ref q21, .ref q22, .ref q23, .ref q24, .ref q25, .int 0, .ref q26, .ref q27, .ref q28, .ref q29, .ref q30, .int 0, .ref q31, .ref q32, .ref q33, .ref q34, .int 0, .ref q35, .ref q36, .ref q37, .ref q38, .int 0, .int 0, .ref q39, .ref q40, .ref q41, .ref q42]))] sz 0 (fun u => [(q0, .inr (12, [.int 1, .int 0, .int 0, .int 0, .int 0, .int 0, .int 0, .int (-1), .ref q1, .ref q2, .ref q3, .int 0, .ref q4, .ref q5, .ref q6, .ref q7, .ref q8, .ref q9, .ref q10, .int 0, .ref q11, .ref q12, .ref q13, .ref q14, .ref q15, .ref q16, .ref q17, .int 0, .int (-1), .int 0, .ref q18, .ref q19, .ref q20, .ref q21, .ref q22, .ref q23, .ref q24, .ref q25, .int 0, .ref q26, .ref q27, .ref q28, .ref q29, .ref q30, .int 0, .ref q31, .ref q32, .ref q33, .ref q34, .int 0, .ref q35, .ref q36, .ref q37, .ref q38, .int 0, .int 0, .ref q39, .ref q40, .ref q41, .ref q42]))]) := by
  refine Ki.of b0 (own := RX12) (nm := "home") [(0, .ref q0), (1, .int x0), (2, .int x1)] rfl rfl (by decide +kernel) (Nat.le_of_ble_eq_true rfl) rfl ?_
  intro p e s m below meth c A C hr H locs w ls hl
  have hx := C.hx
  have hb := C.hb
  refine lv_aload_n hx hb dX12_home_0 rfl (lv_at hl 0 rfl) ?_
  refine lv_iconst (v := 0) hx hb dX12_home_1 (by decide) ?_
  refine r_put C w 0 rfl fl_X12_1 (Nat.le_of_ble_eq_true rfl) rfl rfl dX12_home_2 (ws2 := [(q0, .inr (12, [.int 0, .int 0, .int 0, .int 0, .int 0, .int 0, .int 0, .int (-1), .ref q1, .ref q2, .ref q3, .int 0, .ref q4, .ref q5, .ref q6, .ref q7, .ref q8, .ref q9, .ref q10, .int 0, .ref q11, .ref q12, .ref q13, .ref q14, .ref q15, .ref q16, .ref q17, .int 0, .int (-1), .int 0, .ref q18, .ref q19, .ref q20, .ref q21, .ref q22, .ref q23, .ref q24, .ref q25, .int 0, .ref q26, .ref q27, .ref q28, .ref q29, .ref q30, .int 0, .ref q31, .ref q32, .ref q33, .ref q34, .int 0, .ref q35, .ref q36, .ref q37, .ref q38, .int 0, .int 0, .ref q39, .ref q40, .ref q41, .ref q42]))]) rfl (fun H locs w => ?_)
  refine lv_aload_n hx hb dX12_home_5 rfl (lv_at hl 0 rfl) ?_
  refine lv_iload_n hx hb dX12_home_6 rfl (lv_at hl 1 rfl) ?_
  refine lv_iconst (v := 1) hx hb dX12_home_7 (by decide) ?_
  refine fin_i C w (run_V C w mv_X12_336 (k120_isMost C.b0 q0 q1 q2 q3 q4 q5 q6 q7 q8 q9 q10 q11 q12 q13 q14 q15 q16 q17 q18 q19 q20 q21 q22 q23 q24 q25 q26 q27 q28 q29 q30 q31 q32 q33 q34 q35 q36 q37 q38 q39 q40 q41 q42 x0 h0 h1 H.size) [0] rfl rfl 0 rfl rfl (by decide) rfl hl.1 rfl (Nat.le_of_ble_eq_true rfl) dX12_home_8 (cells2 := 0) (slots2 := 0) (by decide)) [0] [] rfl rfl (by decide) (cells2 := 0) (slots2 := 0) (by decide) (fun u1 H locs w => ?_)
  have w : Wd s G A [(q0, .inr (12, [.int 0, .int 0, .int 0, .int 0, .int 0, .int 0, .int 0, .int (-1), .ref q1, .ref q2, .ref q3, .int 0, .ref q4, .ref q5, .ref q6, .ref q7, .ref q8, .ref q9, .ref q10, .int 0, .ref q11, .ref q12, .ref q13, .ref q14, .ref q15, .ref q16, .ref q17, .int 0, .int (-1), .int 0, .ref q18, .ref q19, .ref q20, .ref q21, .ref q22, .ref q23, .ref q24, .ref q25, .int 0, .ref q26, .ref q27, .ref q28, .ref q29, .ref q30, .int 0, .ref q31, .ref q32, .ref q33, .ref q34, .int 0, .ref q35, .ref q36, .ref q37, .ref q38, .int 0, .int 0, .ref q39, .ref q40, .ref q41, .ref q42]))] H locs := w
  refine lv_if_eq (tgt := 28) hx hb dX12_home_11 (by decide) (fun h => absurd h (by decide)) (fun _ => ?_)
  refine lv_aload_n hx hb dX12_home_14 rfl (lv_at hl 0 rfl) ?_
  refine lv_iload_n hx hb dX12_home_15 rfl (lv_at hl 2 rfl) ?_
  refine lv_iconst (v := 0) hx hb dX12_home_16 (by decide) ?_
  refine lv_iconst (v := 2) hx hb dX12_home_17 (by decide) ?_
  refine fin_i C w (run_S C w ms_X12_289 (k158_within C.b0 x1 h2 H.size) [] rfl rfl (by decide) rfl hl.1 rfl (Nat.le_of_ble_eq_true rfl) dX12_home_18 (cells2 := 0) (slots2 := 0) (by decide)) [] [0] rfl rfl (by decide) (cells2 := 0) (slots2 := 0) (by decide) (fun u2 H locs w => ?_)
  have w : Wd s G A [(q0, .inr (12, [.int 0, .int 0, .int 0, .int 0, .int 0, .int 0, .int 0, .int (-1), .ref q1, .ref q2, .ref q3, .int 0, .ref q4, .ref q5, .ref q6, .ref q7, .ref q8, .ref q9, .ref q10, .int 0, .ref q11, .ref q12, .ref q13, .ref q14, .ref q15, .ref q16, .ref q17, .int 0, .int (-1), .int 0, .ref q18, .ref q19, .ref q20, .ref q21, .ref q22, .ref q23, .ref q24, .ref q25, .int 0, .ref q26, .ref q27, .ref q28, .ref q29, .ref q30, .int 0, .ref q31, .ref q32, .ref q33, .ref q34, .int 0, .ref q35, .ref q36, .ref q37, .ref q38, .int 0, .int 0, .ref q39, .ref q40, .ref q41, .ref q42]))] H locs := w
  refine lv_iconst (v := 1) hx hb dX12_home_21 (by decide) ?_
  refine fin_i C w (run_V C w mv_X12_267 (k18_may C.b0 q0 q1 q2 q3 q4 q5 q6 q7 q8 q9 q10 q11 q12 q13 q14 q15 q16 q17 q18 q19 q20 q21 q22 q23 q24 q25 q26 q27 q28 q29 q30 q31 q32 q33 q34 q35 q36 q37 q38 q39 q40 q41 q42 H.size) [0] rfl rfl 0 rfl rfl (by decide) rfl hl.1 rfl (Nat.le_of_ble_eq_true rfl) dX12_home_22 (cells2 := 0) (slots2 := 0) (by decide)) [0] [] rfl rfl (by decide) (cells2 := 0) (slots2 := 0) (by decide) (fun u3 H locs w => ?_)
  have w : Wd s G A [(q0, .inr (12, [.int 1, .int 0, .int 0, .int 0, .int 0, .int 0, .int 0, .int (-1), .ref q1, .ref q2, .ref q3, .int 0, .ref q4, .ref q5, .ref q6, .ref q7, .ref q8, .ref q9, .ref q10, .int 0, .ref q11, .ref q12, .ref q13, .ref q14, .ref q15, .ref q16, .ref q17, .int 0, .int (-1), .int 0, .ref q18, .ref q19, .ref q20, .ref q21, .ref q22, .ref q23, .ref q24, .ref q25, .int 0, .ref q26, .ref q27, .ref q28, .ref q29, .ref q30, .int 0, .ref q31, .ref q32, .ref q33, .ref q34, .int 0, .ref q35, .ref q36, .ref q37, .ref q38, .int 0, .int 0, .ref q39, .ref q40, .ref q41, .ref q42]))] H locs := w
  refine lv_if_ne (tgt := 30) hx hb dX12_home_25 (by decide) (fun h => absurd (by decide) h) (fun _ => ?_)
  refine lv_iconst (v := 0) hx hb dX12_home_28 (by decide) ?_
  exact e_i C hr w (fun _ => 0) [0] rfl rfl rfl dX12_home_29 (by decide) (by decide)
set_option maxRecDepth 100000 in
set_option maxHeartbeats 4000000 in
theorem k160_needWithin {l : Launch} {s0 : State} {a0 : Array Value} {G : GT} (b0 : B0 l s0 a0 G) (x0 : Int32) (h0 : 2 < x0) (h1 : ¬ x0 < 0) (sz : Nat) : Kx l s0 G yX11_needWithin cX11_needWithin 3 none { frames := 6, cells := 1, slots := 6, locals := 90 } [.int x0, .int 0, .int 2] [] sz "java/lang/IllegalArgumentException" := by
  refine Kx.of b0 (own := RX11) (nm := "needWithin") [(0, .int x0), (1, .int 0), (2, .int 2)] rfl rfl (by decide +kernel) (Nat.le_of_ble_eq_true rfl) rfl ?_
  intro p e s m below meth c A C ht H locs w ls hl
  have hx := C.hx
  have hb := C.hb
  refine lv_iload_n hx hb dX11_needWithin_0 rfl (lv_at hl 0 rfl) ?_
  refine lv_iload_n hx hb dX11_needWithin_1 rfl (lv_at hl 1 rfl) ?_
  refine lv_icmp_lt (tgt := 10) hx hb dX11_needWithin_2 (by decide) (fun h => absurd h h1) (fun _ => ?_)
  refine lv_iload_n hx hb dX11_needWithin_5 rfl (lv_at hl 0 rfl) ?_
  refine lv_iload_n hx hb dX11_needWithin_6 rfl (lv_at hl 2 rfl) ?_
  refine lv_icmp_le (tgt := 20) hx hb dX11_needWithin_7 (by decide) (fun h => absurd h (Int32.not_le.mpr h0)) (fun _ => ?_)
  exact r_throwS C ht w hl.1 th_X11_247 C.b0.2.2.2.2.2.1 dX11_needWithin_10 dX11_needWithin_13 dX11_needWithin_14 dX11_needWithin_16 dX11_needWithin_19 (by decide) (Nat.le_of_ble_eq_true rfl) (by decide) (by decide) (by decide) (by decide) [] rfl rfl
set_option maxRecDepth 100000 in
set_option maxHeartbeats 4000000 in
theorem k161_home {l : Launch} {s0 : State} {a0 : Array Value} {G : GT} (b0 : B0 l s0 a0 G) (q0 : Nat) (x0 : Int32) (x1 : Int32) (h0 : 2 < x1) (h1 : ¬ 3000 < x0) (h2 : ¬ x0 < 1) (h3 : ¬ x1 < 0) (sz : Nat) : Kx l s0 G yX11_home cX11_home 5 (some .int) { frames := 7, cells := 1, slots := 6, locals := 112 } [.ref q0, .int x0, .int x1] [] sz "java/lang/IllegalArgumentException" := by
  refine Kx.of b0 (own := RX11) (nm := "home") [(0, .ref q0), (1, .int x0), (2, .int x1)] rfl rfl (by decide +kernel) (Nat.le_of_ble_eq_true rfl) rfl ?_
  intro p e s m below meth c A C ht H locs w ls hl
  have hx := C.hx
  have hb := C.hb
  refine lv_iload_n hx hb dX11_home_0 rfl (lv_at hl 1 rfl) ?_
  refine fin_v C w (run_S C w ms_X11_161 (k106_needMost C.b0 x0 h1 h2 H.size) [] rfl rfl (by decide) rfl hl.1 rfl (Nat.le_of_ble_eq_true rfl) dX11_home_1 (cells2 := 0) (slots2 := 0) (by decide)) [] [] rfl rfl (by decide) (cells2 := 0) (slots2 := 0) (by decide) (fun u1 H locs w => ?_)
  have w : Wd s G A [] H locs := w
  refine lv_iload_n hx hb dX11_home_4 rfl (lv_at hl 2 rfl) ?_
  refine lv_iconst (v := 0) hx hb dX11_home_5 (by decide) ?_
  refine lv_iconst (v := 2) hx hb dX11_home_6 (by decide) ?_
  refine fin_x C w (run_Sx C w ms_X11_72 (k160_needWithin C.b0 x1 h0 h3 H.size) [] rfl rfl (by decide) rfl hl.1 rfl (Nat.le_of_ble_eq_true rfl) dX11_home_7 (cells2 := 1) (slots2 := 6) (by decide)) [] [] rfl rfl (by decide) (cells2 := 1) (slots2 := 6) (by decide) (fun qx3 ce H locs w hce hcv hcl => ?_)
  have w : Wd s G A [] H locs := w
  exact r_out C ht w [] rfl rfl hce hcv hcl (by decide) (by decide)
set_option maxRecDepth 100000 in
set_option maxHeartbeats 4000000 in
theorem k162_home {l : Launch} {s0 : State} {a0 : Array Value} {G : GT} (b0 : B0 l s0 a0 G) (q0 q1 q2 q3 q4 q5 q6 q7 q8 q9 q10 q11 : Nat) (x0 : Int32) (x1 : Int32) (h0 : 2 < x1) (h1 : ¬ 3000 < x0) (h2 : ¬ x0 < 1) (h3 : ¬ x1 < 0) (sz : Nat) : Kh l s0 G yL_home cL_home 5 (some .int) [(0, 10, 13, 13)] { frames := 8, cells := 1, slots := 6, locals := 136 } [.ref q0, .int x0, .int x1, .ref q1] [(q0, .inr (11, [.ref q2, .ref q3, .ref q4, .ref q5, .ref q6, .ref q7, .ref q8, .ref q9, .ref q10, .ref q11, .int 0, .int (-1), .int 0, .int 0, .null, .null, .null, .null, .null]))] sz 1 (fun u => [(q0, .inr (11, [.ref q2, .ref q3, .ref q4, .ref q5, .ref q6, .ref q7, .ref q8, .ref q9, .ref q10, .ref q11, .int 0, .int (-1), .int 0, .int 0, .null, .null, .null, .null, .null]))]) := by
  refine Kh.of b0 (own := RL) (nm := "home") [(0, .ref q0), (1, .int x0), (2, .int x1), (3, .ref q1)] rfl rfl (by decide +kernel) (Nat.le_of_ble_eq_true rfl) rfl ?_
  intro p e s m below meth c A C hr ht H locs w ls hl
  have hx := C.hx
  have hb := C.hb
  refine lv_aload_n hx hb dL_home_0 rfl (lv_at hl 3 rfl) ?_
  refine lv_iconst (v := 0) hx hb dL_home_1 (by decide) ?_
  refine lv_aload_n hx hb dL_home_2 rfl (lv_at hl 0 rfl) ?_
  refine lv_iload_n hx hb dL_home_3 rfl (lv_at hl 1 rfl) ?_
  refine lv_iload_n hx hb dL_home_4 rfl (lv_at hl 2 rfl) ?_
  refine fin_x C w (run_Vx C w mv_L_57 (k161_home C.b0 q0 x0 x1 h0 h1 h2 h3 H.size) [] rfl rfl 0 rfl rfl (by decide) rfl hl.1 rfl (Nat.le_of_ble_eq_true rfl) dL_home_5 (cells2 := 1) (slots2 := 6) (by decide)) [] [0] rfl rfl (by decide) (cells2 := 1) (slots2 := 6) (by decide) (fun qx2 ce H locs w hce hcv hcl => ?_)
  have w : Wd s G A [(q0, .inr (11, [.ref q2, .ref q3, .ref q4, .ref q5, .ref q6, .ref q7, .ref q8, .ref q9, .ref q10, .ref q11, .int 0, .int (-1), .int 0, .int 0, .null, .null, .null, .null, .null]))] H locs := w
  refine r_catch C ht (by decide) (by decide) tl_L_13 tk_java_lang_IllegalArgumentException hce hcv hcl ?_
  refine lv_astore (lv' := [(4, .ref qx2), (0, .ref q0), (1, .int x0), (2, .int x1), (3, .ref q1)]) hx hb dL_home_13 hl (by decide) rfl (fun ls hl => ?_)
  refine lv_iconst (v := 1) hx hb dL_home_15 (by decide) ?_
  exact e_i C hr w (fun _ => 0) [0] rfl rfl rfl dL_home_16 (by decide) (by decide)
set_option maxRecDepth 100000 in
set_option maxHeartbeats 4000000 in
theorem k163_within {l : Launch} {s0 : State} {a0 : Array Value} {G : GT} (b0 : B0 l s0 a0 G) (x0 : Int32) (h0 : 2 < x0) (h1 : ¬ x0 < 0) (sz : Nat) : Ki l s0 G yX12_within cX12_within 3 (some .boolean) { frames := 0, cells := 0, slots := 0, locals := 0 } [.int x0, .int 0, .int 2] [] sz 0 (fun u => []) := by
  refine Ki.of b0 (own := RX12) (nm := "within") [(0, .int x0), (1, .int 0), (2, .int 2)] rfl rfl (by decide +kernel) (Nat.le_of_ble_eq_true rfl) rfl ?_
  intro p e s m below meth c A C hr H locs w ls hl
  have hx := C.hx
  have hb := C.hb
  refine lv_iload_n hx hb dX12_within_0 rfl (lv_at hl 0 rfl) ?_
  refine lv_iload_n hx hb dX12_within_1 rfl (lv_at hl 1 rfl) ?_
  refine lv_icmp_lt (tgt := 14) hx hb dX12_within_2 (by decide) (fun h => absurd h h1) (fun _ => ?_)
  refine lv_iload_n hx hb dX12_within_5 rfl (lv_at hl 0 rfl) ?_
  refine lv_iload_n hx hb dX12_within_6 rfl (lv_at hl 2 rfl) ?_
  refine lv_icmp_gt (tgt := 14) hx hb dX12_within_7 (by decide) (fun _ => ?_) (fun h => absurd h0 h)
  refine lv_iconst (v := 0) hx hb dX12_within_14 (by decide) ?_
  exact e_i C hr w (fun _ => 0) [] rfl rfl (by decide) dX12_within_15 (by decide) (by decide)
set_option maxRecDepth 100000 in
set_option maxHeartbeats 4000000 in
theorem k164_home {l : Launch} {s0 : State} {a0 : Array Value} {G : GT} (b0 : B0 l s0 a0 G) (q0 q1 q2 q3 q4 q5 q6 q7 q8 q9 q10 q11 q12 q13 q14 q15 q16 q17 q18 q19 q20 q21 q22 q23 q24 q25 q26 q27 q28 q29 q30 q31 q32 q33 q34 q35 q36 q37 q38 q39 q40 q41 q42 : Nat) (x0 : Int32) (x1 : Int32) (h0 : 2 < x1) (h1 : ¬ 3000 < x0) (h2 : ¬ x0 < 1) (h3 : ¬ x1 < 0) (sz : Nat) : Ki l s0 G yX12_home cX12_home 7 (some .int) { frames := 2, cells := 0, slots := 0, locals := 44 } [.ref q0, .int x0, .int x1] [(q0, .inr (12, [.int 0, .int 0, .int 0, .int 0, .int 0, .int 0, .int 0, .int (-1), .ref q1, .ref q2, .ref q3, .int 0, .ref q4, .ref q5, .ref q6, .ref q7, .ref q8, .ref q9, .ref q10, .int 0, .ref q11, .ref q12, .ref q13, .ref q14, .ref q15, .ref q16, .ref q17, .int 0, .int (-1), .int 0, .ref q18, .ref q19, .ref q20, .ref q21, .ref q22, .ref q23, .ref q24, .ref q25, .int 0, .ref q26, .ref q27, .ref q28, .ref q29, .ref q30, .int 0, .ref q31, .ref q32, .ref q33, .ref q34, .int 0, .ref q35, .ref q36, .ref q37, .ref q38, .int 0, .int 0, .ref q39, .ref q40, .ref q41, .ref q42]))] sz 0 (fun u => [(q0, .inr (12, [.int 1, .int 0, .int 0, .int 0, .int 0, .int 0, .int 0, .int (-1), .ref q1, .ref q2, .ref q3, .int 0, .ref q4, .ref q5, .ref q6, .ref q7, .ref q8, .ref q9, .ref q10, .int 0, .ref q11, .ref q12, .ref q13, .ref q14, .ref q15, .ref q16, .ref q17, .int 0, .int (-1), .int 0, .ref q18, .ref q19, .ref q20, .ref q21, .ref q22, .ref q23, .ref q24, .ref q25, .int 0, .ref q26, .ref q27, .ref q28, .ref q29, .ref q30, .int 0, .ref q31, .ref q32, .ref q33, .ref q34, .int 0, .ref q35, .ref q36, .ref q37, .ref q38, .int 0, .int 0, .ref q39, .ref q40, .ref q41, .ref q42]))]) := by
  refine Ki.of b0 (own := RX12) (nm := "home") [(0, .ref q0), (1, .int x0), (2, .int x1)] rfl rfl (by decide +kernel) (Nat.le_of_ble_eq_true rfl) rfl ?_
  intro p e s m below meth c A C hr H locs w ls hl
  have hx := C.hx
  have hb := C.hb
  refine lv_aload_n hx hb dX12_home_0 rfl (lv_at hl 0 rfl) ?_
  refine lv_iconst (v := 0) hx hb dX12_home_1 (by decide) ?_
  refine r_put C w 0 rfl fl_X12_1 (Nat.le_of_ble_eq_true rfl) rfl rfl dX12_home_2 (ws2 := [(q0, .inr (12, [.int 0, .int 0, .int 0, .int 0, .int 0, .int 0, .int 0, .int (-1), .ref q1, .ref q2, .ref q3, .int 0, .ref q4, .ref q5, .ref q6, .ref q7, .ref q8, .ref q9, .ref q10, .int 0, .ref q11, .ref q12, .ref q13, .ref q14, .ref q15, .ref q16, .ref q17, .int 0, .int (-1), .int 0, .ref q18, .ref q19, .ref q20, .ref q21, .ref q22, .ref q23, .ref q24, .ref q25, .int 0, .ref q26, .ref q27, .ref q28, .ref q29, .ref q30, .int 0, .ref q31, .ref q32, .ref q33, .ref q34, .int 0, .ref q35, .ref q36, .ref q37, .ref q38, .int 0, .int 0, .ref q39, .ref q40, .ref q41, .ref q42]))]) rfl (fun H locs w => ?_)
  refine lv_aload_n hx hb dX12_home_5 rfl (lv_at hl 0 rfl) ?_
  refine lv_iload_n hx hb dX12_home_6 rfl (lv_at hl 1 rfl) ?_
  refine lv_iconst (v := 1) hx hb dX12_home_7 (by decide) ?_
  refine fin_i C w (run_V C w mv_X12_336 (k120_isMost C.b0 q0 q1 q2 q3 q4 q5 q6 q7 q8 q9 q10 q11 q12 q13 q14 q15 q16 q17 q18 q19 q20 q21 q22 q23 q24 q25 q26 q27 q28 q29 q30 q31 q32 q33 q34 q35 q36 q37 q38 q39 q40 q41 q42 x0 h1 h2 H.size) [0] rfl rfl 0 rfl rfl (by decide) rfl hl.1 rfl (Nat.le_of_ble_eq_true rfl) dX12_home_8 (cells2 := 0) (slots2 := 0) (by decide)) [0] [] rfl rfl (by decide) (cells2 := 0) (slots2 := 0) (by decide) (fun u1 H locs w => ?_)
  have w : Wd s G A [(q0, .inr (12, [.int 0, .int 0, .int 0, .int 0, .int 0, .int 0, .int 0, .int (-1), .ref q1, .ref q2, .ref q3, .int 0, .ref q4, .ref q5, .ref q6, .ref q7, .ref q8, .ref q9, .ref q10, .int 0, .ref q11, .ref q12, .ref q13, .ref q14, .ref q15, .ref q16, .ref q17, .int 0, .int (-1), .int 0, .ref q18, .ref q19, .ref q20, .ref q21, .ref q22, .ref q23, .ref q24, .ref q25, .int 0, .ref q26, .ref q27, .ref q28, .ref q29, .ref q30, .int 0, .ref q31, .ref q32, .ref q33, .ref q34, .int 0, .ref q35, .ref q36, .ref q37, .ref q38, .int 0, .int 0, .ref q39, .ref q40, .ref q41, .ref q42]))] H locs := w
  refine lv_if_eq (tgt := 28) hx hb dX12_home_11 (by decide) (fun h => absurd h (by decide)) (fun _ => ?_)
  refine lv_aload_n hx hb dX12_home_14 rfl (lv_at hl 0 rfl) ?_
  refine lv_iload_n hx hb dX12_home_15 rfl (lv_at hl 2 rfl) ?_
  refine lv_iconst (v := 0) hx hb dX12_home_16 (by decide) ?_
  refine lv_iconst (v := 2) hx hb dX12_home_17 (by decide) ?_
  refine fin_i C w (run_S C w ms_X12_289 (k163_within C.b0 x1 h0 h3 H.size) [] rfl rfl (by decide) rfl hl.1 rfl (Nat.le_of_ble_eq_true rfl) dX12_home_18 (cells2 := 0) (slots2 := 0) (by decide)) [] [0] rfl rfl (by decide) (cells2 := 0) (slots2 := 0) (by decide) (fun u2 H locs w => ?_)
  have w : Wd s G A [(q0, .inr (12, [.int 0, .int 0, .int 0, .int 0, .int 0, .int 0, .int 0, .int (-1), .ref q1, .ref q2, .ref q3, .int 0, .ref q4, .ref q5, .ref q6, .ref q7, .ref q8, .ref q9, .ref q10, .int 0, .ref q11, .ref q12, .ref q13, .ref q14, .ref q15, .ref q16, .ref q17, .int 0, .int (-1), .int 0, .ref q18, .ref q19, .ref q20, .ref q21, .ref q22, .ref q23, .ref q24, .ref q25, .int 0, .ref q26, .ref q27, .ref q28, .ref q29, .ref q30, .int 0, .ref q31, .ref q32, .ref q33, .ref q34, .int 0, .ref q35, .ref q36, .ref q37, .ref q38, .int 0, .int 0, .ref q39, .ref q40, .ref q41, .ref q42]))] H locs := w
  refine lv_iconst (v := 1) hx hb dX12_home_21 (by decide) ?_
  refine fin_i C w (run_V C w mv_X12_267 (k18_may C.b0 q0 q1 q2 q3 q4 q5 q6 q7 q8 q9 q10 q11 q12 q13 q14 q15 q16 q17 q18 q19 q20 q21 q22 q23 q24 q25 q26 q27 q28 q29 q30 q31 q32 q33 q34 q35 q36 q37 q38 q39 q40 q41 q42 H.size) [0] rfl rfl 0 rfl rfl (by decide) rfl hl.1 rfl (Nat.le_of_ble_eq_true rfl) dX12_home_22 (cells2 := 0) (slots2 := 0) (by decide)) [0] [] rfl rfl (by decide) (cells2 := 0) (slots2 := 0) (by decide) (fun u3 H locs w => ?_)
  have w : Wd s G A [(q0, .inr (12, [.int 1, .int 0, .int 0, .int 0, .int 0, .int 0, .int 0, .int (-1), .ref q1, .ref q2, .ref q3, .int 0, .ref q4, .ref q5, .ref q6, .ref q7, .ref q8, .ref q9, .ref q10, .int 0, .ref q11, .ref q12, .ref q13, .ref q14, .ref q15, .ref q16, .ref q17, .int 0, .int (-1), .int 0, .ref q18, .ref q19, .ref q20, .ref q21, .ref q22, .ref q23, .ref q24, .ref q25, .int 0, .ref q26, .ref q27, .ref q28, .ref q29, .ref q30, .int 0, .ref q31, .ref q32, .ref q33, .ref q34, .int 0, .ref q35, .ref q36, .ref q37, .ref q38, .int 0, .int 0, .ref q39, .ref q40, .ref q41, .ref q42]))] H locs := w
  refine lv_if_ne (tgt := 30) hx hb dX12_home_25 (by decide) (fun h => absurd (by decide) h) (fun _ => ?_)
  refine lv_iconst (v := 0) hx hb dX12_home_28 (by decide) ?_
  exact e_i C hr w (fun _ => 0) [0] rfl rfl rfl dX12_home_29 (by decide) (by decide)
set_option maxRecDepth 100000 in
set_option maxHeartbeats 4000000 in
theorem k165_needWithin {l : Launch} {s0 : State} {a0 : Array Value} {G : GT} (b0 : B0 l s0 a0 G) (x0 : Int32) (h0 : ¬ 2 < x0) (h1 : ¬ x0 < 0) (sz : Nat) : Kv l s0 G yX11_needWithin cX11_needWithin 3 none { frames := 0, cells := 0, slots := 0, locals := 0 } [.int x0, .int 0, .int 2] [] sz (fun u => []) := by
  refine Kv.of b0 (own := RX11) (nm := "needWithin") [(0, .int x0), (1, .int 0), (2, .int 2)] rfl rfl (by decide +kernel) (Nat.le_of_ble_eq_true rfl) rfl ?_
  intro p e s m below meth c A C hr H locs w ls hl
  have hx := C.hx
  have hb := C.hb
  refine lv_iload_n hx hb dX11_needWithin_0 rfl (lv_at hl 0 rfl) ?_
  refine lv_iload_n hx hb dX11_needWithin_1 rfl (lv_at hl 1 rfl) ?_
  refine lv_icmp_lt (tgt := 10) hx hb dX11_needWithin_2 (by decide) (fun h => absurd h h1) (fun _ => ?_)
  refine lv_iload_n hx hb dX11_needWithin_5 rfl (lv_at hl 0 rfl) ?_
  refine lv_iload_n hx hb dX11_needWithin_6 rfl (lv_at hl 2 rfl) ?_
  refine lv_icmp_le (tgt := 20) hx hb dX11_needWithin_7 (by decide) (fun _ => ?_) (fun h => absurd (Int32.not_lt.mp h0) h)
  exact e_v C hr w (fun _ => 0) [] rfl rfl dX11_needWithin_20 (by decide) (by decide)
set_option maxRecDepth 100000 in
set_option maxHeartbeats 4000000 in
theorem k166_init {l : Launch} {s0 : State} {a0 : Array Value} {G : GT} (b0 : B0 l s0 a0 G) (q0 : Nat) (sz : Nat) : Kv l s0 G yX6_init cX6_init 1 none { frames := 1, cells := 14, slots := 39204, locals := 12 } [.ref q0] [(q0, .inr (6, [.int 0, .null, .null, .null, .null, .null, .null, .null, .null, .null, .null, .null, .null, .null, .null, .null, .int 0, .int 0, .int 0, .int 0]))] sz (fun u => [(q0, .inr (6, [.int (-1), .null, .ref (u 0), .ref (u 1), .ref (u 2), .ref (u 3), .ref (u 4), .ref (u 5), .ref (u 6), .ref (u 7), .ref (u 8), .ref (u 9), .ref (u 10), .ref (u 11), .ref (u 12), .ref (u 13), .int 0, .int 0, .int 0, .int 0])), ((u 0), .inl (G.2.1, 3008, .inl (fun _ => 0))), ((u 1), .inl (G.2.1, 3008, .inl (fun _ => 0))), ((u 2), .inl (G.2.1, 3008, .inl (fun _ => 0))), ((u 3), .inl (G.2.1, 3008, .inl (fun _ => 0))), ((u 4), .inl (G.2.1, 3008, .inl (fun _ => 0))), ((u 5), .inl (G.2.1, 3008, .inl (fun _ => 0))), ((u 6), .inl (G.2.1, 3008, .inl (fun _ => 0))), ((u 7), .inl (G.2.1, 3008, .inl (fun _ => 0))), ((u 8), .inl (G.2.1, 3008, .inl (fun _ => 0))), ((u 9), .inl (G.2.1, 3008, .inl (fun _ => 0))), ((u 10), .inl (G.2.1, 3008, .inl (fun _ => 0))), ((u 11), .inl (G.2.1, 100, .inl (fun _ => 0))), ((u 12), .inl (G.2.2.1, 3008, .inr (.inl (fun _ => 0)))), ((u 13), .inl (G.2.2.1, 3008, .inr (.inl (fun _ => 0))))]) := by
  refine Kv.of b0 (own := RX6) (nm := "<init>") [(0, .ref q0)] rfl rfl (by decide +kernel) (Nat.le_of_ble_eq_true rfl) rfl ?_
  intro p e s m below meth c A C hr H locs w ls hl
  have hx := C.hx
  have hb := C.hb
  refine lv_aload_n hx hb dX6_init_0 rfl (lv_at hl 0 rfl) ?_
  refine r_obj C to_X6_3 hl.1 (by decide) (Nat.le_of_ble_eq_true rfl) dX6_init_1 ?_
  refine lv_aload_n hx hb dX6_init_4 rfl (lv_at hl 0 rfl) ?_
  refine lv_iconst (v := (-1)) hx hb dX6_init_5 (by decide) ?_
  refine r_put C w 0 rfl fl_X6_9 (Nat.le_of_ble_eq_true rfl) rfl rfl dX6_init_6 (ws2 := [(q0, .inr (6, [.int (-1), .null, .null, .null, .null, .null, .null, .null, .null, .null, .null, .null, .null, .null, .null, .null, .int 0, .int 0, .int 0, .int 0]))]) rfl (fun H locs w => ?_)
  refine lv_aload_n hx hb dX6_init_9 rfl (lv_at hl 0 rfl) ?_
  refine lv_sipush (v := 3008) hx hb dX6_init_10 (by decide) ?_
  refine r_newI C w (N := 3008) (cells2 := 1) (slots2 := 3008) (by decide +kernel) ⟨by decide, by decide, by decide, by decide⟩ dX6_init_13 (fun q1 H w => ?_)
  have w : Wd s G A [(q0, .inr (6, [.int (-1), .null, .null, .null, .null, .null, .null, .null, .null, .null, .null, .null, .null, .null, .null, .null, .int 0, .int 0, .int 0, .int 0])), (q1, .inl (G.2.1, 3008, .inl (fun _ => 0)))] H locs := w
  refine r_putF C w 0 rfl fl_X6_17 (Nat.le_of_ble_eq_true rfl) rfl rfl dX6_init_15 (ws2 := [(q0, .inr (6, [.int (-1), .null, .ref q1, .null, .null, .null, .null, .null, .null, .null, .null, .null, .null, .null, .null, .null, .int 0, .int 0, .int 0, .int 0])), (q1, .inl (G.2.1, 3008, .inl (fun _ => 0)))]) rfl (fun H locs w => ?_)
  refine lv_aload_n hx hb dX6_init_18 rfl (lv_at hl 0 rfl) ?_
  refine lv_sipush (v := 3008) hx hb dX6_init_19 (by decide) ?_
  refine r_newI C w (N := 3008) (cells2 := 2) (slots2 := 6016) (by decide +kernel) ⟨by decide, by decide, by decide, by decide⟩ dX6_init_22 (fun q2 H w => ?_)
  have w : Wd s G A [(q0, .inr (6, [.int (-1), .null, .ref q1, .null, .null, .null, .null, .null, .null, .null, .null, .null, .null, .null, .null, .null, .int 0, .int 0, .int 0, .int 0])), (q1, .inl (G.2.1, 3008, .inl (fun _ => 0))), (q2, .inl (G.2.1, 3008, .inl (fun _ => 0)))] H locs := w
  refine r_putF C w 0 rfl fl_X6_21 (Nat.le_of_ble_eq_true rfl) rfl rfl dX6_init_24 (ws2 := [(q0, .inr (6, [.int (-1), .null, .ref q1, .ref q2, .null, .null, .null, .null, .null, .null, .null, .null, .null, .null, .null, .null, .int 0, .int 0, .int 0, .int 0])), (q1, .inl (G.2.1, 3008, .inl (fun _ => 0))), (q2, .inl (G.2.1, 3008, .inl (fun _ => 0)))]) rfl (fun H locs w => ?_)
  refine lv_aload_n hx hb dX6_init_27 rfl (lv_at hl 0 rfl) ?_
  refine lv_sipush (v := 3008) hx hb dX6_init_28 (by decide) ?_
  refine r_newI C w (N := 3008) (cells2 := 3) (slots2 := 9024) (by decide +kernel) ⟨by decide, by decide, by decide, by decide⟩ dX6_init_31 (fun q3 H w => ?_)
  have w : Wd s G A [(q0, .inr (6, [.int (-1), .null, .ref q1, .ref q2, .null, .null, .null, .null, .null, .null, .null, .null, .null, .null, .null, .null, .int 0, .int 0, .int 0, .int 0])), (q1, .inl (G.2.1, 3008, .inl (fun _ => 0))), (q2, .inl (G.2.1, 3008, .inl (fun _ => 0))), (q3, .inl (G.2.1, 3008, .inl (fun _ => 0)))] H locs := w
  refine r_putF C w 0 rfl fl_X6_24 (Nat.le_of_ble_eq_true rfl) rfl rfl dX6_init_33 (ws2 := [(q0, .inr (6, [.int (-1), .null, .ref q1, .ref q2, .ref q3, .null, .null, .null, .null, .null, .null, .null, .null, .null, .null, .null, .int 0, .int 0, .int 0, .int 0])), (q1, .inl (G.2.1, 3008, .inl (fun _ => 0))), (q2, .inl (G.2.1, 3008, .inl (fun _ => 0))), (q3, .inl (G.2.1, 3008, .inl (fun _ => 0)))]) rfl (fun H locs w => ?_)
  refine lv_aload_n hx hb dX6_init_36 rfl (lv_at hl 0 rfl) ?_
  refine lv_sipush (v := 3008) hx hb dX6_init_37 (by decide) ?_
  refine r_newI C w (N := 3008) (cells2 := 4) (slots2 := 12032) (by decide +kernel) ⟨by decide, by decide, by decide, by decide⟩ dX6_init_40 (fun q4 H w => ?_)
  have w : Wd s G A [(q0, .inr (6, [.int (-1), .null, .ref q1, .ref q2, .ref q3, .null, .null, .null, .null, .null, .null, .null, .null, .null, .null, .null, .int 0, .int 0, .int 0, .int 0])), (q1, .inl (G.2.1, 3008, .inl (fun _ => 0))), (q2, .inl (G.2.1, 3008, .inl (fun _ => 0))), (q3, .inl (G.2.1, 3008, .inl (fun _ => 0))), (q4, .inl (G.2.1, 3008, .inl (fun _ => 0)))] H locs := w
  refine r_putF C w 0 rfl fl_X6_27 (Nat.le_of_ble_eq_true rfl) rfl rfl dX6_init_42 (ws2 := [(q0, .inr (6, [.int (-1), .null, .ref q1, .ref q2, .ref q3, .ref q4, .null, .null, .null, .null, .null, .null, .null, .null, .null, .null, .int 0, .int 0, .int 0, .int 0])), (q1, .inl (G.2.1, 3008, .inl (fun _ => 0))), (q2, .inl (G.2.1, 3008, .inl (fun _ => 0))), (q3, .inl (G.2.1, 3008, .inl (fun _ => 0))), (q4, .inl (G.2.1, 3008, .inl (fun _ => 0)))]) rfl (fun H locs w => ?_)
  refine lv_aload_n hx hb dX6_init_45 rfl (lv_at hl 0 rfl) ?_
  refine lv_sipush (v := 3008) hx hb dX6_init_46 (by decide) ?_
  refine r_newI C w (N := 3008) (cells2 := 5) (slots2 := 15040) (by decide +kernel) ⟨by decide, by decide, by decide, by decide⟩ dX6_init_49 (fun q5 H w => ?_)
  have w : Wd s G A [(q0, .inr (6, [.int (-1), .null, .ref q1, .ref q2, .ref q3, .ref q4, .null, .null, .null, .null, .null, .null, .null, .null, .null, .null, .int 0, .int 0, .int 0, .int 0])), (q1, .inl (G.2.1, 3008, .inl (fun _ => 0))), (q2, .inl (G.2.1, 3008, .inl (fun _ => 0))), (q3, .inl (G.2.1, 3008, .inl (fun _ => 0))), (q4, .inl (G.2.1, 3008, .inl (fun _ => 0))), (q5, .inl (G.2.1, 3008, .inl (fun _ => 0)))] H locs := w
  refine r_putF C w 0 rfl fl_X6_30 (Nat.le_of_ble_eq_true rfl) rfl rfl dX6_init_51 (ws2 := [(q0, .inr (6, [.int (-1), .null, .ref q1, .ref q2, .ref q3, .ref q4, .ref q5, .null, .null, .null, .null, .null, .null, .null, .null, .null, .int 0, .int 0, .int 0, .int 0])), (q1, .inl (G.2.1, 3008, .inl (fun _ => 0))), (q2, .inl (G.2.1, 3008, .inl (fun _ => 0))), (q3, .inl (G.2.1, 3008, .inl (fun _ => 0))), (q4, .inl (G.2.1, 3008, .inl (fun _ => 0))), (q5, .inl (G.2.1, 3008, .inl (fun _ => 0)))]) rfl (fun H locs w => ?_)
  refine lv_aload_n hx hb dX6_init_54 rfl (lv_at hl 0 rfl) ?_
  refine lv_sipush (v := 3008) hx hb dX6_init_55 (by decide) ?_
  refine r_newI C w (N := 3008) (cells2 := 6) (slots2 := 18048) (by decide +kernel) ⟨by decide, by decide, by decide, by decide⟩ dX6_init_58 (fun q6 H w => ?_)
  have w : Wd s G A [(q0, .inr (6, [.int (-1), .null, .ref q1, .ref q2, .ref q3, .ref q4, .ref q5, .null, .null, .null, .null, .null, .null, .null, .null, .null, .int 0, .int 0, .int 0, .int 0])), (q1, .inl (G.2.1, 3008, .inl (fun _ => 0))), (q2, .inl (G.2.1, 3008, .inl (fun _ => 0))), (q3, .inl (G.2.1, 3008, .inl (fun _ => 0))), (q4, .inl (G.2.1, 3008, .inl (fun _ => 0))), (q5, .inl (G.2.1, 3008, .inl (fun _ => 0))), (q6, .inl (G.2.1, 3008, .inl (fun _ => 0)))] H locs := w
  refine r_putF C w 0 rfl fl_X6_33 (Nat.le_of_ble_eq_true rfl) rfl rfl dX6_init_60 (ws2 := [(q0, .inr (6, [.int (-1), .null, .ref q1, .ref q2, .ref q3, .ref q4, .ref q5, .ref q6, .null, .null, .null, .null, .null, .null, .null, .null, .int 0, .int 0, .int 0, .int 0])), (q1, .inl (G.2.1, 3008, .inl (fun _ => 0))), (q2, .inl (G.2.1, 3008, .inl (fun _ => 0))), (q3, .inl (G.2.1, 3008, .inl (fun _ => 0))), (q4, .inl (G.2.1, 3008, .inl (fun _ => 0))), (q5, .inl (G.2.1, 3008, .inl (fun _ => 0))), (q6, .inl (G.2.1, 3008, .inl (fun _ => 0)))]) rfl (fun H locs w => ?_)
  refine lv_aload_n hx hb dX6_init_63 rfl (lv_at hl 0 rfl) ?_
  refine lv_sipush (v := 3008) hx hb dX6_init_64 (by decide) ?_
  refine r_newI C w (N := 3008) (cells2 := 7) (slots2 := 21056) (by decide +kernel) ⟨by decide, by decide, by decide, by decide⟩ dX6_init_67 (fun q7 H w => ?_)
  have w : Wd s G A [(q0, .inr (6, [.int (-1), .null, .ref q1, .ref q2, .ref q3, .ref q4, .ref q5, .ref q6, .null, .null, .null, .null, .null, .null, .null, .null, .int 0, .int 0, .int 0, .int 0])), (q1, .inl (G.2.1, 3008, .inl (fun _ => 0))), (q2, .inl (G.2.1, 3008, .inl (fun _ => 0))), (q3, .inl (G.2.1, 3008, .inl (fun _ => 0))), (q4, .inl (G.2.1, 3008, .inl (fun _ => 0))), (q5, .inl (G.2.1, 3008, .inl (fun _ => 0))), (q6, .inl (G.2.1, 3008, .inl (fun _ => 0))), (q7, .inl (G.2.1, 3008, .inl (fun _ => 0)))] H locs := w
  refine r_putF C w 0 rfl fl_X6_36 (Nat.le_of_ble_eq_true rfl) rfl rfl dX6_init_69 (ws2 := [(q0, .inr (6, [.int (-1), .null, .ref q1, .ref q2, .ref q3, .ref q4, .ref q5, .ref q6, .ref q7, .null, .null, .null, .null, .null, .null, .null, .int 0, .int 0, .int 0, .int 0])), (q1, .inl (G.2.1, 3008, .inl (fun _ => 0))), (q2, .inl (G.2.1, 3008, .inl (fun _ => 0))), (q3, .inl (G.2.1, 3008, .inl (fun _ => 0))), (q4, .inl (G.2.1, 3008, .inl (fun _ => 0))), (q5, .inl (G.2.1, 3008, .inl (fun _ => 0))), (q6, .inl (G.2.1, 3008, .inl (fun _ => 0))), (q7, .inl (G.2.1, 3008, .inl (fun _ => 0)))]) rfl (fun H locs w => ?_)
  refine lv_aload_n hx hb dX6_init_72 rfl (lv_at hl 0 rfl) ?_
  refine lv_sipush (v := 3008) hx hb dX6_init_73 (by decide) ?_
  refine r_newI C w (N := 3008) (cells2 := 8) (slots2 := 24064) (by decide +kernel) ⟨by decide, by decide, by decide, by decide⟩ dX6_init_76 (fun q8 H w => ?_)
  have w : Wd s G A [(q0, .inr (6, [.int (-1), .null, .ref q1, .ref q2, .ref q3, .ref q4, .ref q5, .ref q6, .ref q7, .null, .null, .null, .null, .null, .null, .null, .int 0, .int 0, .int 0, .int 0])), (q1, .inl (G.2.1, 3008, .inl (fun _ => 0))), (q2, .inl (G.2.1, 3008, .inl (fun _ => 0))), (q3, .inl (G.2.1, 3008, .inl (fun _ => 0))), (q4, .inl (G.2.1, 3008, .inl (fun _ => 0))), (q5, .inl (G.2.1, 3008, .inl (fun _ => 0))), (q6, .inl (G.2.1, 3008, .inl (fun _ => 0))), (q7, .inl (G.2.1, 3008, .inl (fun _ => 0))), (q8, .inl (G.2.1, 3008, .inl (fun _ => 0)))] H locs := w
  refine r_putF C w 0 rfl fl_X6_39 (Nat.le_of_ble_eq_true rfl) rfl rfl dX6_init_78 (ws2 := [(q0, .inr (6, [.int (-1), .null, .ref q1, .ref q2, .ref q3, .ref q4, .ref q5, .ref q6, .ref q7, .ref q8, .null, .null, .null, .null, .null, .null, .int 0, .int 0, .int 0, .int 0])), (q1, .inl (G.2.1, 3008, .inl (fun _ => 0))), (q2, .inl (G.2.1, 3008, .inl (fun _ => 0))), (q3, .inl (G.2.1, 3008, .inl (fun _ => 0))), (q4, .inl (G.2.1, 3008, .inl (fun _ => 0))), (q5, .inl (G.2.1, 3008, .inl (fun _ => 0))), (q6, .inl (G.2.1, 3008, .inl (fun _ => 0))), (q7, .inl (G.2.1, 3008, .inl (fun _ => 0))), (q8, .inl (G.2.1, 3008, .inl (fun _ => 0)))]) rfl (fun H locs w => ?_)
  refine lv_aload_n hx hb dX6_init_81 rfl (lv_at hl 0 rfl) ?_
  refine lv_sipush (v := 3008) hx hb dX6_init_82 (by decide) ?_
  refine r_newI C w (N := 3008) (cells2 := 9) (slots2 := 27072) (by decide +kernel) ⟨by decide, by decide, by decide, by decide⟩ dX6_init_85 (fun q9 H w => ?_)
  have w : Wd s G A [(q0, .inr (6, [.int (-1), .null, .ref q1, .ref q2, .ref q3, .ref q4, .ref q5, .ref q6, .ref q7, .ref q8, .null, .null, .null, .null, .null, .null, .int 0, .int 0, .int 0, .int 0])), (q1, .inl (G.2.1, 3008, .inl (fun _ => 0))), (q2, .inl (G.2.1, 3008, .inl (fun _ => 0))), (q3, .inl (G.2.1, 3008, .inl (fun _ => 0))), (q4, .inl (G.2.1, 3008, .inl (fun _ => 0))), (q5, .inl (G.2.1, 3008, .inl (fun _ => 0))), (q6, .inl (G.2.1, 3008, .inl (fun _ => 0))), (q7, .inl (G.2.1, 3008, .inl (fun _ => 0))), (q8, .inl (G.2.1, 3008, .inl (fun _ => 0))), (q9, .inl (G.2.1, 3008, .inl (fun _ => 0)))] H locs := w
  refine r_putF C w 0 rfl fl_X6_42 (Nat.le_of_ble_eq_true rfl) rfl rfl dX6_init_87 (ws2 := [(q0, .inr (6, [.int (-1), .null, .ref q1, .ref q2, .ref q3, .ref q4, .ref q5, .ref q6, .ref q7, .ref q8, .ref q9, .null, .null, .null, .null, .null, .int 0, .int 0, .int 0, .int 0])), (q1, .inl (G.2.1, 3008, .inl (fun _ => 0))), (q2, .inl (G.2.1, 3008, .inl (fun _ => 0))), (q3, .inl (G.2.1, 3008, .inl (fun _ => 0))), (q4, .inl (G.2.1, 3008, .inl (fun _ => 0))), (q5, .inl (G.2.1, 3008, .inl (fun _ => 0))), (q6, .inl (G.2.1, 3008, .inl (fun _ => 0))), (q7, .inl (G.2.1, 3008, .inl (fun _ => 0))), (q8, .inl (G.2.1, 3008, .inl (fun _ => 0))), (q9, .inl (G.2.1, 3008, .inl (fun _ => 0)))]) rfl (fun H locs w => ?_)
  refine lv_aload_n hx hb dX6_init_90 rfl (lv_at hl 0 rfl) ?_
  refine lv_sipush (v := 3008) hx hb dX6_init_91 (by decide) ?_
  refine r_newI C w (N := 3008) (cells2 := 10) (slots2 := 30080) (by decide +kernel) ⟨by decide, by decide, by decide, by decide⟩ dX6_init_94 (fun q10 H w => ?_)
  have w : Wd s G A [(q0, .inr (6, [.int (-1), .null, .ref q1, .ref q2, .ref q3, .ref q4, .ref q5, .ref q6, .ref q7, .ref q8, .ref q9, .null, .null, .null, .null, .null, .int 0, .int 0, .int 0, .int 0])), (q1, .inl (G.2.1, 3008, .inl (fun _ => 0))), (q2, .inl (G.2.1, 3008, .inl (fun _ => 0))), (q3, .inl (G.2.1, 3008, .inl (fun _ => 0))), (q4, .inl (G.2.1, 3008, .inl (fun _ => 0))), (q5, .inl (G.2.1, 3008, .inl (fun _ => 0))), (q6, .inl (G.2.1, 3008, .inl (fun _ => 0))), (q7, .inl (G.2.1, 3008, .inl (fun _ => 0))), (q8, .inl (G.2.1, 3008, .inl (fun _ => 0))), (q9, .inl (G.2.1, 3008, .inl (fun _ => 0))), (q10, .inl (G.2.1, 3008, .inl (fun _ => 0)))] H locs := w
  refine r_putF C w 0 rfl fl_X6_45 (Nat.le_of_ble_eq_true rfl) rfl rfl dX6_init_96 (ws2 := [(q0, .inr (6, [.int (-1), .null, .ref q1, .ref q2, .ref q3, .ref q4, .ref q5, .ref q6, .ref q7, .ref q8, .ref q9, .ref q10, .null, .null, .null, .null, .int 0, .int 0, .int 0, .int 0])), (q1, .inl (G.2.1, 3008, .inl (fun _ => 0))), (q2, .inl (G.2.1, 3008, .inl (fun _ => 0))), (q3, .inl (G.2.1, 3008, .inl (fun _ => 0))), (q4, .inl (G.2.1, 3008, .inl (fun _ => 0))), (q5, .inl (G.2.1, 3008, .inl (fun _ => 0))), (q6, .inl (G.2.1, 3008, .inl (fun _ => 0))), (q7, .inl (G.2.1, 3008, .inl (fun _ => 0))), (q8, .inl (G.2.1, 3008, .inl (fun _ => 0))), (q9, .inl (G.2.1, 3008, .inl (fun _ => 0))), (q10, .inl (G.2.1, 3008, .inl (fun _ => 0)))]) rfl (fun H locs w => ?_)
  refine lv_aload_n hx hb dX6_init_99 rfl (lv_at hl 0 rfl) ?_
  refine lv_sipush (v := 3008) hx hb dX6_init_100 (by decide) ?_
  refine r_newI C w (N := 3008) (cells2 := 11) (slots2 := 33088) (by decide +kernel) ⟨by decide, by decide, by decide, by decide⟩ dX6_init_103 (fun q11 H w => ?_)
  have w : Wd s G A [(q0, .inr (6, [.int (-1), .null, .ref q1, .ref q2, .ref q3, .ref q4, .ref q5, .ref q6, .ref q7, .ref q8, .ref q9, .ref q10, .null, .null, .null, .null, .int 0, .int 0, .int 0, .int 0])), (q1, .inl (G.2.1, 3008, .inl (fun _ => 0))), (q2, .inl (G.2.1, 3008, .inl (fun _ => 0))), (q3, .inl (G.2.1, 3008, .inl (fun _ => 0))), (q4, .inl (G.2.1, 3008, .inl (fun _ => 0))), (q5, .inl (G.2.1, 3008, .inl (fun _ => 0))), (q6, .inl (G.2.1, 3008, .inl (fun _ => 0))), (q7, .inl (G.2.1, 3008, .inl (fun _ => 0))), (q8, .inl (G.2.1, 3008, .inl (fun _ => 0))), (q9, .inl (G.2.1, 3008, .inl (fun _ => 0))), (q10, .inl (G.2.1, 3008, .inl (fun _ => 0))), (q11, .inl (G.2.1, 3008, .inl (fun _ => 0)))] H locs := w
  refine r_putF C w 0 rfl fl_X6_48 (Nat.le_of_ble_eq_true rfl) rfl rfl dX6_init_105 (ws2 := [(q0, .inr (6, [.int (-1), .null, .ref q1, .ref q2, .ref q3, .ref q4, .ref q5, .ref q6, .ref q7, .ref q8, .ref q9, .ref q10, .ref q11, .null, .null, .null, .int 0, .int 0, .int 0, .int 0])), (q1, .inl (G.2.1, 3008, .inl (fun _ => 0))), (q2, .inl (G.2.1, 3008, .inl (fun _ => 0))), (q3, .inl (G.2.1, 3008, .inl (fun _ => 0))), (q4, .inl (G.2.1, 3008, .inl (fun _ => 0))), (q5, .inl (G.2.1, 3008, .inl (fun _ => 0))), (q6, .inl (G.2.1, 3008, .inl (fun _ => 0))), (q7, .inl (G.2.1, 3008, .inl (fun _ => 0))), (q8, .inl (G.2.1, 3008, .inl (fun _ => 0))), (q9, .inl (G.2.1, 3008, .inl (fun _ => 0))), (q10, .inl (G.2.1, 3008, .inl (fun _ => 0))), (q11, .inl (G.2.1, 3008, .inl (fun _ => 0)))]) rfl (fun H locs w => ?_)
  refine lv_aload_n hx hb dX6_init_108 rfl (lv_at hl 0 rfl) ?_
  refine lv_bipush (v := 100) hx hb dX6_init_109 (by decide) ?_
  refine r_newI C w (N := 100) (cells2 := 12) (slots2 := 33188) (by decide +kernel) ⟨by decide, by decide, by decide, by decide⟩ dX6_init_111 (fun q12 H w => ?_)
  have w : Wd s G A [(q0, .inr (6, [.int (-1), .null, .ref q1, .ref q2, .ref q3, .ref q4, .ref q5, .ref q6, .ref q7, .ref q8, .ref q9, .ref q10, .ref q11, .null, .null, .null, .int 0, .int 0, .int 0, .int 0])), (q1, .inl (G.2.1, 3008, .inl (fun _ => 0))), (q2, .inl (G.2.1, 3008, .inl (fun _ => 0))), (q3, .inl (G.2.1, 3008, .inl (fun _ => 0))), (q4, .inl (G.2.1, 3008, .inl (fun _ => 0))), (q5, .inl (G.2.1, 3008, .inl (fun _ => 0))), (q6, .inl (G.2.1, 3008, .inl (fun _ => 0))), (q7, .inl (G.2.1, 3008, .inl (fun _ => 0))), (q8, .inl (G.2.1, 3008, .inl (fun _ => 0))), (q9, .inl (G.2.1, 3008, .inl (fun _ => 0))), (q10, .inl (G.2.1, 3008, .inl (fun _ => 0))), (q11, .inl (G.2.1, 3008, .inl (fun _ => 0))), (q12, .inl (G.2.1, 100, .inl (fun _ => 0)))] H locs := w
  refine r_putF C w 0 rfl fl_X6_51 (Nat.le_of_ble_eq_true rfl) rfl rfl dX6_init_113 (ws2 := [(q0, .inr (6, [.int (-1), .null, .ref q1, .ref q2, .ref q3, .ref q4, .ref q5, .ref q6, .ref q7, .ref q8, .ref q9, .ref q10, .ref q11, .ref q12, .null, .null, .int 0, .int 0, .int 0, .int 0])), (q1, .inl (G.2.1, 3008, .inl (fun _ => 0))), (q2, .inl (G.2.1, 3008, .inl (fun _ => 0))), (q3, .inl (G.2.1, 3008, .inl (fun _ => 0))), (q4, .inl (G.2.1, 3008, .inl (fun _ => 0))), (q5, .inl (G.2.1, 3008, .inl (fun _ => 0))), (q6, .inl (G.2.1, 3008, .inl (fun _ => 0))), (q7, .inl (G.2.1, 3008, .inl (fun _ => 0))), (q8, .inl (G.2.1, 3008, .inl (fun _ => 0))), (q9, .inl (G.2.1, 3008, .inl (fun _ => 0))), (q10, .inl (G.2.1, 3008, .inl (fun _ => 0))), (q11, .inl (G.2.1, 3008, .inl (fun _ => 0))), (q12, .inl (G.2.1, 100, .inl (fun _ => 0)))]) rfl (fun H locs w => ?_)
  refine lv_aload_n hx hb dX6_init_116 rfl (lv_at hl 0 rfl) ?_
  refine lv_sipush (v := 3008) hx hb dX6_init_117 (by decide) ?_
  refine r_newJ C w (N := 3008) (cells2 := 13) (slots2 := 36196) (by decide +kernel) ⟨by decide, by decide, by decide, by decide⟩ dX6_init_120 (fun q13 H w => ?_)
  have w : Wd s G A [(q0, .inr (6, [.int (-1), .null, .ref q1, .ref q2, .ref q3, .ref q4, .ref q5, .ref q6, .ref q7, .ref q8, .ref q9, .ref q10, .ref q11, .ref q12, .null, .null, .int 0, .int 0, .int 0, .int 0])), (q1, .inl (G.2.1, 3008, .inl (fun _ => 0))), (q2, .inl (G.2.1, 3008, .inl (fun _ => 0))), (q3, .inl (G.2.1, 3008, .inl (fun _ => 0))), (q4, .inl (G.2.1, 3008, .inl (fun _ => 0))), (q5, .inl (G.2.1, 3008, .inl (fun _ => 0))), (q6, .inl (G.2.1, 3008, .inl (fun _ => 0))), (q7, .inl (G.2.1, 3008, .inl (fun _ => 0))), (q8, .inl (G.2.1, 3008, .inl (fun _ => 0))), (q9, .inl (G.2.1, 3008, .inl (fun _ => 0))), (q10, .inl (G.2.1, 3008, .inl (fun _ => 0))), (q11, .inl (G.2.1, 3008, .inl (fun _ => 0))), (q12, .inl (G.2.1, 100, .inl (fun _ => 0))), (q13, .inl (G.2.2.1, 3008, .inr (.inl (fun _ => 0))))] H locs := w
  refine r_put C w 0 rfl fl_X6_54 (Nat.le_of_ble_eq_true rfl) rfl rfl dX6_init_122 (ws2 := [(q0, .inr (6, [.int (-1), .null, .ref q1, .ref q2, .ref q3, .ref q4, .ref q5, .ref q6, .ref q7, .ref q8, .ref q9, .ref q10, .ref q11, .ref q12, .ref q13, .null, .int 0, .int 0, .int 0, .int 0])), (q1, .inl (G.2.1, 3008, .inl (fun _ => 0))), (q2, .inl (G.2.1, 3008, .inl (fun _ => 0))), (q3, .inl (G.2.1, 3008, .inl (fun _ => 0))), (q4, .inl (G.2.1, 3008, .inl (fun _ => 0))), (q5, .inl (G.2.1, 3008, .inl (fun _ => 0))), (q6, .inl (G.2.1, 3008, .inl (fun _ => 0))), (q7, .inl (G.2.1, 3008, .inl (fun _ => 0))), (q8, .inl (G.2.1, 3008, .inl (fun _ => 0))), (q9, .inl (G.2.1, 3008, .inl (fun _ => 0))), (q10, .inl (G.2.1, 3008, .inl (fun _ => 0))), (q11, .inl (G.2.1, 3008, .inl (fun _ => 0))), (q12, .inl (G.2.1, 100, .inl (fun _ => 0))), (q13, .inl (G.2.2.1, 3008, .inr (.inl (fun _ => 0))))]) rfl (fun H locs w => ?_)
  refine lv_aload_n hx hb dX6_init_125 rfl (lv_at hl 0 rfl) ?_
  refine lv_sipush (v := 3008) hx hb dX6_init_126 (by decide) ?_
  refine r_newJ C w (N := 3008) (cells2 := 14) (slots2 := 39204) (by decide +kernel) ⟨by decide, by decide, by decide, by decide⟩ dX6_init_129 (fun q14 H w => ?_)
  have w : Wd s G A [(q0, .inr (6, [.int (-1), .null, .ref q1, .ref q2, .ref q3, .ref q4, .ref q5, .ref q6, .ref q7, .ref q8, .ref q9, .ref q10, .ref q11, .ref q12, .ref q13, .null, .int 0, .int 0, .int 0, .int 0])), (q1, .inl (G.2.1, 3008, .inl (fun _ => 0))), (q2, .inl (G.2.1, 3008, .inl (fun _ => 0))), (q3, .inl (G.2.1, 3008, .inl (fun _ => 0))), (q4, .inl (G.2.1, 3008, .inl (fun _ => 0))), (q5, .inl (G.2.1, 3008, .inl (fun _ => 0))), (q6, .inl (G.2.1, 3008, .inl (fun _ => 0))), (q7, .inl (G.2.1, 3008, .inl (fun _ => 0))), (q8, .inl (G.2.1, 3008, .inl (fun _ => 0))), (q9, .inl (G.2.1, 3008, .inl (fun _ => 0))), (q10, .inl (G.2.1, 3008, .inl (fun _ => 0))), (q11, .inl (G.2.1, 3008, .inl (fun _ => 0))), (q12, .inl (G.2.1, 100, .inl (fun _ => 0))), (q13, .inl (G.2.2.1, 3008, .inr (.inl (fun _ => 0)))), (q14, .inl (G.2.2.1, 3008, .inr (.inl (fun _ => 0))))] H locs := w
  refine r_put C w 0 rfl fl_X6_58 (Nat.le_of_ble_eq_true rfl) rfl rfl dX6_init_131 (ws2 := [(q0, .inr (6, [.int (-1), .null, .ref q1, .ref q2, .ref q3, .ref q4, .ref q5, .ref q6, .ref q7, .ref q8, .ref q9, .ref q10, .ref q11, .ref q12, .ref q13, .ref q14, .int 0, .int 0, .int 0, .int 0])), (q1, .inl (G.2.1, 3008, .inl (fun _ => 0))), (q2, .inl (G.2.1, 3008, .inl (fun _ => 0))), (q3, .inl (G.2.1, 3008, .inl (fun _ => 0))), (q4, .inl (G.2.1, 3008, .inl (fun _ => 0))), (q5, .inl (G.2.1, 3008, .inl (fun _ => 0))), (q6, .inl (G.2.1, 3008, .inl (fun _ => 0))), (q7, .inl (G.2.1, 3008, .inl (fun _ => 0))), (q8, .inl (G.2.1, 3008, .inl (fun _ => 0))), (q9, .inl (G.2.1, 3008, .inl (fun _ => 0))), (q10, .inl (G.2.1, 3008, .inl (fun _ => 0))), (q11, .inl (G.2.1, 3008, .inl (fun _ => 0))), (q12, .inl (G.2.1, 100, .inl (fun _ => 0))), (q13, .inl (G.2.2.1, 3008, .inr (.inl (fun _ => 0)))), (q14, .inl (G.2.2.1, 3008, .inr (.inl (fun _ => 0))))]) rfl (fun H locs w => ?_)
  exact e_v C hr w (fun k => [q1, q2, q3, q4, q5, q6, q7, q8, q9, q10, q11, q12, q13, q14].getD k 0) [0, 1, 2, 3, 4, 5, 6, 7, 8, 9, 10, 11, 12, 13, 14] rfl rfl dX6_init_134 (by decide) (by decide)
set_option maxRecDepth 100000 in
set_option maxHeartbeats 4000000 in
theorem k167_studied {l : Launch} {s0 : State} {a0 : Array Value} {G : GT} (b0 : B0 l s0 a0 G) (q0 q1 q2 q3 q4 q5 q6 q7 q8 q9 q10 q11 : Nat) (sz : Nat) : Kr l s0 G yX11_studied cX11_studied 2 (some (.object "TokenHall$Study")) { frames := 2, cells := 15, slots := 39224, locals := 32 } [.ref q0, .ref q1] [(q0, .inr (11, [.ref q2, .ref q3, .ref q4, .ref q5, .ref q6, .ref q7, .ref q8, .ref q9, .ref q10, .ref q11, .int 0, .int (-1), .int 0, .int 0, .ref q1, .null, .null, .null, .null]))] sz (fun u => (u 0)) (fun u => [(q0, .inr (11, [.ref q2, .ref q3, .ref q4, .ref q5, .ref q6, .ref q7, .ref q8, .ref q9, .ref q10, .ref q11, .int 0, .int (-1), .int 0, .int 0, .ref q1, .ref (u 0), .null, .null, .null])), ((u 0), .inr (6, [.int (-1), .ref q1, .ref (u 1), .ref (u 2), .ref (u 3), .ref (u 4), .ref (u 5), .ref (u 6), .ref (u 7), .ref (u 8), .ref (u 9), .ref (u 10), .ref (u 11), .ref (u 12), .ref (u 13), .ref (u 14), .int 0, .int 0, .int 0, .int 0])), ((u 1), .inl (G.2.1, 3008, .inl (fun _ => 0))), ((u 2), .inl (G.2.1, 3008, .inl (fun _ => 0))), ((u 3), .inl (G.2.1, 3008, .inl (fun _ => 0))), ((u 4), .inl (G.2.1, 3008, .inl (fun _ => 0))), ((u 5), .inl (G.2.1, 3008, .inl (fun _ => 0))), ((u 6), .inl (G.2.1, 3008, .inl (fun _ => 0))), ((u 7), .inl (G.2.1, 3008, .inl (fun _ => 0))), ((u 8), .inl (G.2.1, 3008, .inl (fun _ => 0))), ((u 9), .inl (G.2.1, 3008, .inl (fun _ => 0))), ((u 10), .inl (G.2.1, 3008, .inl (fun _ => 0))), ((u 11), .inl (G.2.1, 3008, .inl (fun _ => 0))), ((u 12), .inl (G.2.1, 100, .inl (fun _ => 0))), ((u 13), .inl (G.2.2.1, 3008, .inr (.inl (fun _ => 0)))), ((u 14), .inl (G.2.2.1, 3008, .inr (.inl (fun _ => 0))))]) := by
  refine Kr.of b0 (own := RX11) (nm := "studied") [(0, .ref q0), (1, .ref q1)] rfl rfl (by decide +kernel) (Nat.le_of_ble_eq_true rfl) rfl ?_
  intro p e s m below meth c A C hr H locs w ls hl
  have hx := C.hx
  have hb := C.hb
  refine lv_aload_n hx hb dX11_studied_0 rfl (lv_at hl 0 rfl) ?_
  refine r_get C w 0 rfl fr_X11_381 rfl dX11_studied_1 ?_
  refine lv_ifnonnullN hx hb dX11_studied_4 ?_
  refine lv_aload_n hx hb dX11_studied_7 rfl (lv_at hl 0 rfl) ?_
  refine r_new C w (cells2 := 1) (slots2 := 20) no_X11_189 ⟨by decide, by decide, by decide, by decide⟩ dX11_studied_8 (fun q1 H w => ?_)
  have w : Wd s G A [(q0, .inr (11, [.ref q2, .ref q3, .ref q4, .ref q5, .ref q6, .ref q7, .ref q8, .ref q9, .ref q10, .ref q11, .int 0, .int (-1), .int 0, .int 0, .ref q1, .null, .null, .null, .null])), (q1, .inr (6, [.int 0, .null, .null, .null, .null, .null, .null, .null, .null, .null, .null, .null, .null, .null, .null, .null, .int 0, .int 0, .int 0, .int 0]))] H locs := w
  refine lv_dup hx hb dX11_studied_11 rfl ?_
  refine fin_v C w (run_N C w mn_X11_385 (k166_init C.b0 q1 H.size) [1] rfl rfl (by decide) rfl hl.1 rfl (Nat.le_of_ble_eq_true rfl) dX11_studied_12 (cells2 := 15) (slots2 := 39224) (by decide)) [1] [0] rfl rfl (by decide) (cells2 := 15) (slots2 := 39224) (by decide) (fun u2 H locs w => ?_)
  have w : Wd s G A [(q0, .inr (11, [.ref q2, .ref q3, .ref q4, .ref q5, .ref q6, .ref q7, .ref q8, .ref q9, .ref q10, .ref q11, .int 0, .int (-1), .int 0, .int 0, .ref q1, .null, .null, .null, .null])), (q1, .inr (6, [.int (-1), .null, .ref (u2 0), .ref (u2 1), .ref (u2 2), .ref (u2 3), .ref (u2 4), .ref (u2 5), .ref (u2 6), .ref (u2 7), .ref (u2 8), .ref (u2 9), .ref (u2 10), .ref (u2 11), .ref (u2 12), .ref (u2 13), .int 0, .int 0, .int 0, .int 0])), ((u2 0), .inl (G.2.1, 3008, .inl (fun _ => 0))), ((u2 1), .inl (G.2.1, 3008, .inl (fun _ => 0))), ((u2 2), .inl (G.2.1, 3008, .inl (fun _ => 0))), ((u2 3), .inl (G.2.1, 3008, .inl (fun _ => 0))), ((u2 4), .inl (G.2.1, 3008, .inl (fun _ => 0))), ((u2 5), .inl (G.2.1, 3008, .inl (fun _ => 0))), ((u2 6), .inl (G.2.1, 3008, .inl (fun _ => 0))), ((u2 7), .inl (G.2.1, 3008, .inl (fun _ => 0))), ((u2 8), .inl (G.2.1, 3008, .inl (fun _ => 0))), ((u2 9), .inl (G.2.1, 3008, .inl (fun _ => 0))), ((u2 10), .inl (G.2.1, 3008, .inl (fun _ => 0))), ((u2 11), .inl (G.2.1, 100, .inl (fun _ => 0))), ((u2 12), .inl (G.2.2.1, 3008, .inr (.inl (fun _ => 0)))), ((u2 13), .inl (G.2.2.1, 3008, .inr (.inl (fun _ => 0))))] H locs := w
  refine r_put C w 0 rfl fl_X11_381 (Nat.le_of_ble_eq_true rfl) rfl rfl dX11_studied_15 (ws2 := [(q0, .inr (11, [.ref q2, .ref q3, .ref q4, .ref q5, .ref q6, .ref q7, .ref q8, .ref q9, .ref q10, .ref q11, .int 0, .int (-1), .int 0, .int 0, .ref q1, .ref q1, .null, .null, .null])), (q1, .inr (6, [.int (-1), .null, .ref (u2 0), .ref (u2 1), .ref (u2 2), .ref (u2 3), .ref (u2 4), .ref (u2 5), .ref (u2 6), .ref (u2 7), .ref (u2 8), .ref (u2 9), .ref (u2 10), .ref (u2 11), .ref (u2 12), .ref (u2 13), .int 0, .int 0, .int 0, .int 0])), ((u2 0), .inl (G.2.1, 3008, .inl (fun _ => 0))), ((u2 1), .inl (G.2.1, 3008, .inl (fun _ => 0))), ((u2 2), .inl (G.2.1, 3008, .inl (fun _ => 0))), ((u2 3), .inl (G.2.1, 3008, .inl (fun _ => 0))), ((u2 4), .inl (G.2.1, 3008, .inl (fun _ => 0))), ((u2 5), .inl (G.2.1, 3008, .inl (fun _ => 0))), ((u2 6), .inl (G.2.1, 3008, .inl (fun _ => 0))), ((u2 7), .inl (G.2.1, 3008, .inl (fun _ => 0))), ((u2 8), .inl (G.2.1, 3008, .inl (fun _ => 0))), ((u2 9), .inl (G.2.1, 3008, .inl (fun _ => 0))), ((u2 10), .inl (G.2.1, 3008, .inl (fun _ => 0))), ((u2 11), .inl (G.2.1, 100, .inl (fun _ => 0))), ((u2 12), .inl (G.2.2.1, 3008, .inr (.inl (fun _ => 0)))), ((u2 13), .inl (G.2.2.1, 3008, .inr (.inl (fun _ => 0))))]) rfl (fun H locs w => ?_)
  refine lv_aload_n hx hb dX11_studied_18 rfl (lv_at hl 0 rfl) ?_
  refine r_get C w 0 rfl fr_X11_381 rfl dX11_studied_19 ?_
  refine lv_aload_n hx hb dX11_studied_22 rfl (lv_at hl 1 rfl) ?_
  refine r_put C w 1 rfl fl_X11_386 (Nat.le_of_ble_eq_true rfl) rfl rfl dX11_studied_23 (ws2 := [(q0, .inr (11, [.ref q2, .ref q3, .ref q4, .ref q5, .ref q6, .ref q7, .ref q8, .ref q9, .ref q10, .ref q11, .int 0, .int (-1), .int 0, .int 0, .ref q1, .ref q1, .null, .null, .null])), (q1, .inr (6, [.int (-1), .ref q1, .ref (u2 0), .ref (u2 1), .ref (u2 2), .ref (u2 3), .ref (u2 4), .ref (u2 5), .ref (u2 6), .ref (u2 7), .ref (u2 8), .ref (u2 9), .ref (u2 10), .ref (u2 11), .ref (u2 12), .ref (u2 13), .int 0, .int 0, .int 0, .int 0])), ((u2 0), .inl (G.2.1, 3008, .inl (fun _ => 0))), ((u2 1), .inl (G.2.1, 3008, .inl (fun _ => 0))), ((u2 2), .inl (G.2.1, 3008, .inl (fun _ => 0))), ((u2 3), .inl (G.2.1, 3008, .inl (fun _ => 0))), ((u2 4), .inl (G.2.1, 3008, .inl (fun _ => 0))), ((u2 5), .inl (G.2.1, 3008, .inl (fun _ => 0))), ((u2 6), .inl (G.2.1, 3008, .inl (fun _ => 0))), ((u2 7), .inl (G.2.1, 3008, .inl (fun _ => 0))), ((u2 8), .inl (G.2.1, 3008, .inl (fun _ => 0))), ((u2 9), .inl (G.2.1, 3008, .inl (fun _ => 0))), ((u2 10), .inl (G.2.1, 3008, .inl (fun _ => 0))), ((u2 11), .inl (G.2.1, 100, .inl (fun _ => 0))), ((u2 12), .inl (G.2.2.1, 3008, .inr (.inl (fun _ => 0)))), ((u2 13), .inl (G.2.2.1, 3008, .inr (.inl (fun _ => 0))))]) rfl (fun H locs w => ?_)
  refine lv_aload_n hx hb dX11_studied_26 rfl (lv_at hl 0 rfl) ?_
  refine r_get C w 0 rfl fr_X11_381 rfl dX11_studied_27 ?_
  exact e_r C hr w (fun k => [q1, (u2 0), (u2 1), (u2 2), (u2 3), (u2 4), (u2 5), (u2 6), (u2 7), (u2 8), (u2 9), (u2 10), (u2 11), (u2 12), (u2 13)].getD k 0) [0, 1, 2, 3, 4, 5, 6, 7, 8, 9, 10, 11, 12, 13, 14, 15] rfl rfl rfl dX11_studied_30 (by decide) (by decide)
set_option maxRecDepth 100000 in
set_option maxHeartbeats 4000000 in
theorem k168_enterState {l : Launch} {s0 : State} {a0 : Array Value} {G : GT} (b0 : B0 l s0 a0 G) (q0 q1 q2 q3 q4 q5 q6 q7 q8 q9 q10 q11 q12 q13 q14 q15 : Nat) (sz : Nat) : Kv l s0 G yX6_enterState cX6_enterState 3 none { frames := 0, cells := 0, slots := 0, locals := 0 } [.ref q0, .int 0] [(q0, .inr (6, [.int 0, .ref q7, .ref q1, .ref q2, .ref q3, .ref q5, .ref q6, .ref q4, .ref q8, .ref q9, .ref q10, .ref q11, .ref q12, .ref q13, .ref q14, .ref q15, .int 0, .int 0, .int 0, .int 0])), (q1, .inl (G.2.1, 3008, .inl (fun _ => 0))), (q2, .inl (G.2.1, 3008, .inl (fun _ => 0))), (q3, .inl (G.2.1, 3008, .inl (fun _ => 0))), (q4, .inl (G.2.1, 3008, .inl (fun _ => 0))), (q5, .inl (G.2.1, 3008, .inl (fun _ => 0))), (q6, .inl (G.2.1, 3008, .inl (fun _ => 0)))] sz (fun u => [(q0, .inr (6, [.int 0, .ref q7, .ref q1, .ref q2, .ref q3, .ref q5, .ref q6, .ref q4, .ref q8, .ref q9, .ref q10, .ref q11, .ref q12, .ref q13, .ref q14, .ref q15, .int 0, .int 0, .int 1, .int 1])), (q1, .inl (G.2.1, 3008, .inl (upd (fun _ => 0) 0 1))), (q2, .inl (G.2.1, 3008, .inl (upd (fun _ => 0) 0 1))), (q3, .inl (G.2.1, 3008, .inl (fun _ => 0))), (q4, .inl (G.2.1, 3008, .inl (upd (fun _ => 0) 0 (-1)))), (q5, .inl (G.2.1, 3008, .inl (fun _ => 0))), (q6, .inl (G.2.1, 3008, .inl (fun _ => 0)))]) := by
  refine Kv.of b0 (own := RX6) (nm := "enterState") [(0, .ref q0), (1, .int 0)] rfl rfl (by decide +kernel) (Nat.le_of_ble_eq_true rfl) rfl ?_
  intro p e s m below meth c A C hr H locs w ls hl
  have hx := C.hx
  have hb := C.hb
  refine lv_aload_n hx hb dX6_enterState_0 rfl (lv_at hl 0 rfl) ?_
  refine r_get C w 0 rfl fr_X6_70 rfl dX6_enterState_1 ?_
  refine lv_aload_n hx hb dX6_enterState_4 rfl (lv_at hl 0 rfl) ?_
  refine r_get C w 0 rfl fr_X6_64 rfl dX6_enterState_5 ?_
  refine lv_iadd hx hb dX6_enterState_8 ?_
  refine z_i (v := 0) (by decide +kernel) ?_
  refine lv_iconst (v := 1) hx hb dX6_enterState_9 (by decide) ?_
  refine lv_iadd hx hb dX6_enterState_10 ?_
  refine z_i (v := 1) (by decide +kernel) ?_
  refine lv_istore_n (lv' := [(2, .int 1), (0, .ref q0), (1, .int 0)]) hx hb dX6_enterState_11 rfl hl (by decide) rfl (fun ls hl => ?_)
  refine lv_aload_n hx hb dX6_enterState_12 rfl (lv_at hl 1 rfl) ?_
  refine r_get C w 0 rfl fr_X6_17 rfl dX6_enterState_13 ?_
  refine lv_iload_n hx hb dX6_enterState_16 rfl (lv_at hl 2 rfl) ?_
  refine lv_iload_n hx hb dX6_enterState_17 rfl (lv_at hl 0 rfl) ?_
  refine r_iast C w 1 rfl (IX.of (k := 0) (by decide +kernel)) (g := (upd (fun _ => 0) 0 1)) rfl dX6_enterState_18 (ws2 := [(q0, .inr (6, [.int 0, .ref q7, .ref q1, .ref q2, .ref q3, .ref q5, .ref q6, .ref q4, .ref q8, .ref q9, .ref q10, .ref q11, .ref q12, .ref q13, .ref q14, .ref q15, .int 0, .int 0, .int 0, .int 0])), (q1, .inl (G.2.1, 3008, .inl (upd (fun _ => 0) 0 1))), (q2, .inl (G.2.1, 3008, .inl (fun _ => 0))), (q3, .inl (G.2.1, 3008, .inl (fun _ => 0))), (q4, .inl (G.2.1, 3008, .inl (fun _ => 0))), (q5, .inl (G.2.1, 3008, .inl (fun _ => 0))), (q6, .inl (G.2.1, 3008, .inl (fun _ => 0)))]) rfl (fun H locs w => ?_)
  refine lv_aload_n hx hb dX6_enterState_19 rfl (lv_at hl 1 rfl) ?_
  refine r_get C w 0 rfl fr_X6_21 rfl dX6_enterState_20 ?_
  refine lv_iload_n hx hb dX6_enterState_23 rfl (lv_at hl 2 rfl) ?_
  refine lv_iload_n hx hb dX6_enterState_24 rfl (lv_at hl 0 rfl) ?_
  refine r_iast C w 2 rfl (IX.of (k := 0) (by decide +kernel)) (g := (upd (fun _ => 0) 0 1)) rfl dX6_enterState_25 (ws2 := [(q0, .inr (6, [.int 0, .ref q7, .ref q1, .ref q2, .ref q3, .ref q5, .ref q6, .ref q4, .ref q8, .ref q9, .ref q10, .ref q11, .ref q12, .ref q13, .ref q14, .ref q15, .int 0, .int 0, .int 0, .int 0])), (q1, .inl (G.2.1, 3008, .inl (upd (fun _ => 0) 0 1))), (q2, .inl (G.2.1, 3008, .inl (upd (fun _ => 0) 0 1))), (q3, .inl (G.2.1, 3008, .inl (fun _ => 0))), (q4, .inl (G.2.1, 3008, .inl (fun _ => 0))), (q5, .inl (G.2.1, 3008, .inl (fun _ => 0))), (q6, .inl (G.2.1, 3008, .inl (fun _ => 0)))]) rfl (fun H locs w => ?_)
  refine lv_aload_n hx hb dX6_enterState_26 rfl (lv_at hl 1 rfl) ?_
  refine r_get C w 0 rfl fr_X6_24 rfl dX6_enterState_27 ?_
  refine lv_iload_n hx hb dX6_enterState_30 rfl (lv_at hl 2 rfl) ?_
  refine lv_iconst (v := 0) hx hb dX6_enterState_31 (by decide) ?_
  refine r_iast C w 3 rfl (IX.of (k := 0) (by decide +kernel)) (g := (fun _ => 0)) (upd_c _ _) dX6_enterState_32 (ws2 := [(q0, .inr (6, [.int 0, .ref q7, .ref q1, .ref q2, .ref q3, .ref q5, .ref q6, .ref q4, .ref q8, .ref q9, .ref q10, .ref q11, .ref q12, .ref q13, .ref q14, .ref q15, .int 0, .int 0, .int 0, .int 0])), (q1, .inl (G.2.1, 3008, .inl (upd (fun _ => 0) 0 1))), (q2, .inl (G.2.1, 3008, .inl (upd (fun _ => 0) 0 1))), (q3, .inl (G.2.1, 3008, .inl (fun _ => 0))), (q4, .inl (G.2.1, 3008, .inl (fun _ => 0))), (q5, .inl (G.2.1, 3008, .inl (fun _ => 0))), (q6, .inl (G.2.1, 3008, .inl (fun _ => 0)))]) rfl (fun H locs w => ?_)
  refine lv_aload_n hx hb dX6_enterState_33 rfl (lv_at hl 1 rfl) ?_
  refine r_get C w 0 rfl fr_X6_33 rfl dX6_enterState_34 ?_
  refine lv_iload_n hx hb dX6_enterState_37 rfl (lv_at hl 2 rfl) ?_
  refine lv_iconst (v := (-1)) hx hb dX6_enterState_38 (by decide) ?_
  refine r_iast C w 4 rfl (IX.of (k := 0) (by decide +kernel)) (g := (upd (fun _ => 0) 0 (-1))) rfl dX6_enterState_39 (ws2 := [(q0, .inr (6, [.int 0, .ref q7, .ref q1, .ref q2, .ref q3, .ref q5, .ref q6, .ref q4, .ref q8, .ref q9, .ref q10, .ref q11, .ref q12, .ref q13, .ref q14, .ref q15, .int 0, .int 0, .int 0, .int 0])), (q1, .inl (G.2.1, 3008, .inl (upd (fun _ => 0) 0 1))), (q2, .inl (G.2.1, 3008, .inl (upd (fun _ => 0) 0 1))), (q3, .inl (G.2.1, 3008, .inl (fun _ => 0))), (q4, .inl (G.2.1, 3008, .inl (upd (fun _ => 0) 0 (-1)))), (q5, .inl (G.2.1, 3008, .inl (fun _ => 0))), (q6, .inl (G.2.1, 3008, .inl (fun _ => 0)))]) rfl (fun H locs w => ?_)
  refine lv_aload_n hx hb dX6_enterState_40 rfl (lv_at hl 1 rfl) ?_
  refine r_get C w 0 rfl fr_X6_27 rfl dX6_enterState_41 ?_
  refine lv_aload_n hx hb dX6_enterState_44 rfl (lv_at hl 1 rfl) ?_
  refine r_get C w 0 rfl fr_X6_67 rfl dX6_enterState_45 ?_
  refine lv_iload_n hx hb dX6_enterState_48 rfl (lv_at hl 2 rfl) ?_
  refine r_iast C w 5 rfl (IX.of (k := 0) (by decide +kernel)) (g := (fun _ => 0)) (upd_c _ _) dX6_enterState_49 (ws2 := [(q0, .inr (6, [.int 0, .ref q7, .ref q1, .ref q2, .ref q3, .ref q5, .ref q6, .ref q4, .ref q8, .ref q9, .ref q10, .ref q11, .ref q12, .ref q13, .ref q14, .ref q15, .int 0, .int 0, .int 0, .int 0])), (q1, .inl (G.2.1, 3008, .inl (upd (fun _ => 0) 0 1))), (q2, .inl (G.2.1, 3008, .inl (upd (fun _ => 0) 0 1))), (q3, .inl (G.2.1, 3008, .inl (fun _ => 0))), (q4, .inl (G.2.1, 3008, .inl (upd (fun _ => 0) 0 (-1)))), (q5, .inl (G.2.1, 3008, .inl (fun _ => 0))), (q6, .inl (G.2.1, 3008, .inl (fun _ => 0)))]) rfl (fun H locs w => ?_)
  refine lv_aload_n hx hb dX6_enterState_50 rfl (lv_at hl 1 rfl) ?_
  refine lv_dup hx hb dX6_enterState_51 rfl ?_
  refine r_get C w 0 rfl fr_X6_67 rfl dX6_enterState_52 ?_
  refine lv_iconst (v := 1) hx hb dX6_enterState_55 (by decide) ?_
  refine lv_iadd hx hb dX6_enterState_56 ?_
  refine z_i (v := 1) (by decide +kernel) ?_
  refine r_put C w 0 rfl fl_X6_67 (Nat.le_of_ble_eq_true rfl) rfl rfl dX6_enterState_57 (ws2 := [(q0, .inr (6, [.int 0, .ref q7, .ref q1, .ref q2, .ref q3, .ref q5, .ref q6, .ref q4, .ref q8, .ref q9, .ref q10, .ref q11, .ref q12, .ref q13, .ref q14, .ref q15, .int 0, .int 0, .int 1, .int 0])), (q1, .inl (G.2.1, 3008, .inl (upd (fun _ => 0) 0 1))), (q2, .inl (G.2.1, 3008, .inl (upd (fun _ => 0) 0 1))), (q3, .inl (G.2.1, 3008, .inl (fun _ => 0))), (q4, .inl (G.2.1, 3008, .inl (upd (fun _ => 0) 0 (-1)))), (q5, .inl (G.2.1, 3008, .inl (fun _ => 0))), (q6, .inl (G.2.1, 3008, .inl (fun _ => 0)))]) rfl (fun H locs w => ?_)
  refine lv_aload_n hx hb dX6_enterState_60 rfl (lv_at hl 1 rfl) ?_
  refine r_get C w 0 rfl fr_X6_30 rfl dX6_enterState_61 ?_
  refine lv_aload_n hx hb dX6_enterState_64 rfl (lv_at hl 1 rfl) ?_
  refine r_get C w 0 rfl fr_X6_70 rfl dX6_enterState_65 ?_
  refine lv_iload_n hx hb dX6_enterState_68 rfl (lv_at hl 2 rfl) ?_
  refine r_iast C w 6 rfl (IX.of (k := 0) (by decide +kernel)) (g := (fun _ => 0)) (upd_c _ _) dX6_enterState_69 (ws2 := [(q0, .inr (6, [.int 0, .ref q7, .ref q1, .ref q2, .ref q3, .ref q5, .ref q6, .ref q4, .ref q8, .ref q9, .ref q10, .ref q11, .ref q12, .ref q13, .ref q14, .ref q15, .int 0, .int 0, .int 1, .int 0])), (q1, .inl (G.2.1, 3008, .inl (upd (fun _ => 0) 0 1))), (q2, .inl (G.2.1, 3008, .inl (upd (fun _ => 0) 0 1))), (q3, .inl (G.2.1, 3008, .inl (fun _ => 0))), (q4, .inl (G.2.1, 3008, .inl (upd (fun _ => 0) 0 (-1)))), (q5, .inl (G.2.1, 3008, .inl (fun _ => 0))), (q6, .inl (G.2.1, 3008, .inl (fun _ => 0)))]) rfl (fun H locs w => ?_)
  refine lv_aload_n hx hb dX6_enterState_70 rfl (lv_at hl 1 rfl) ?_
  refine lv_dup hx hb dX6_enterState_71 rfl ?_
  refine r_get C w 0 rfl fr_X6_70 rfl dX6_enterState_72 ?_
  refine lv_iconst (v := 1) hx hb dX6_enterState_75 (by decide) ?_
  refine lv_iadd hx hb dX6_enterState_76 ?_
  refine z_i (v := 1) (by decide +kernel) ?_
  refine r_put C w 0 rfl fl_X6_70 (Nat.le_of_ble_eq_true rfl) rfl rfl dX6_enterState_77 (ws2 := [(q0, .inr (6, [.int 0, .ref q7, .ref q1, .ref q2, .ref q3, .ref q5, .ref q6, .ref q4, .ref q8, .ref q9, .ref q10, .ref q11, .ref q12, .ref q13, .ref q14, .ref q15, .int 0, .int 0, .int 1, .int 1])), (q1, .inl (G.2.1, 3008, .inl (upd (fun _ => 0) 0 1))), (q2, .inl (G.2.1, 3008, .inl (upd (fun _ => 0) 0 1))), (q3, .inl (G.2.1, 3008, .inl (fun _ => 0))), (q4, .inl (G.2.1, 3008, .inl (upd (fun _ => 0) 0 (-1)))), (q5, .inl (G.2.1, 3008, .inl (fun _ => 0))), (q6, .inl (G.2.1, 3008, .inl (fun _ => 0)))]) rfl (fun H locs w => ?_)
  exact e_v C hr w (fun _ => 0) [0, 1, 2, 3, 4, 5, 6] rfl rfl dX6_enterState_80 (by decide) (by decide)
set_option maxRecDepth 100000 in
set_option maxHeartbeats 4000000 in
theorem k169_leaveState {l : Launch} {s0 : State} {a0 : Array Value} {G : GT} (b0 : B0 l s0 a0 G) (q0 q1 q2 q3 q4 q5 q6 q7 q8 q9 q10 q11 q12 q13 q14 q15 : Nat) (f0 : Nat → Int32) (sz : Nat) : Kv l s0 G yX6_leaveState cX6_leaveState 3 none { frames := 0, cells := 0, slots := 0, locals := 0 } [.ref q0, .int 0] [(q0, .inr (6, [.int 0, .ref q6, .ref q2, .ref q1, .ref q7, .ref q8, .ref q3, .ref q4, .ref q5, .ref q9, .ref q10, .ref q11, .ref q12, .ref q13, .ref q14, .ref q15, .int 0, .int 0, .int 1, .int 1])), (q1, .inl (G.2.1, 3008, .inl (upd (fun _ => 0) 0 1))), (q2, .inl (G.2.1, 3008, .inl (upd (fun _ => 0) 0 1))), (q3, .inl (G.2.1, 3008, .inl (fun _ => 0))), (q4, .inl (G.2.1, 3008, .inl f0)), (q5, .inl (G.2.1, 3008, .inl (fun _ => 0)))] sz (fun u => [(q0, .inr (6, [.int 0, .ref q6, .ref q2, .ref q1, .ref q7, .ref q8, .ref q3, .ref q4, .ref q5, .ref q9, .ref q10, .ref q11, .ref q12, .ref q13, .ref q14, .ref q15, .int 1, .int 1, .int 0, .int 0])), (q1, .inl (G.2.1, 3008, .inl (upd (fun _ => 0) 0 1))), (q2, .inl (G.2.1, 3008, .inl (upd (fun _ => 0) 0 1))), (q3, .inl (G.2.1, 3008, .inl (fun _ => 0))), (q4, .inl (G.2.1, 3008, .inl (upd f0 0 0))), (q5, .inl (G.2.1, 3008, .inl (fun _ => 0)))]) := by
  refine Kv.of b0 (own := RX6) (nm := "leaveState") [(0, .ref q0), (1, .int 0)] rfl rfl (by decide +kernel) (Nat.le_of_ble_eq_true rfl) rfl ?_
  intro p e s m below meth c A C hr H locs w ls hl
  have hx := C.hx
  have hb := C.hb
  refine lv_aload_n hx hb dX6_leaveState_0 rfl (lv_at hl 0 rfl) ?_
  refine lv_dup hx hb dX6_leaveState_1 rfl ?_
  refine r_get C w 0 rfl fr_X6_67 rfl dX6_leaveState_2 ?_
  refine lv_iconst (v := 1) hx hb dX6_leaveState_5 (by decide) ?_
  refine lv_isub hx hb dX6_leaveState_6 ?_
  refine z_i (v := 0) (by decide +kernel) ?_
  refine r_put C w 0 rfl fl_X6_67 (Nat.le_of_ble_eq_true rfl) rfl rfl dX6_leaveState_7 (ws2 := [(q0, .inr (6, [.int 0, .ref q6, .ref q2, .ref q1, .ref q7, .ref q8, .ref q3, .ref q4, .ref q5, .ref q9, .ref q10, .ref q11, .ref q12, .ref q13, .ref q14, .ref q15, .int 0, .int 0, .int 0, .int 1])), (q1, .inl (G.2.1, 3008, .inl (upd (fun _ => 0) 0 1))), (q2, .inl (G.2.1, 3008, .inl (upd (fun _ => 0) 0 1))), (q3, .inl (G.2.1, 3008, .inl (fun _ => 0))), (q4, .inl (G.2.1, 3008, .inl f0)), (q5, .inl (G.2.1, 3008, .inl (fun _ => 0)))]) rfl (fun H locs w => ?_)
  refine lv_aload_n hx hb dX6_leaveState_10 rfl (lv_at hl 0 rfl) ?_
  refine r_get C w 0 rfl fr_X6_67 rfl dX6_leaveState_11 ?_
  refine lv_if_le (tgt := 50) hx hb dX6_leaveState_14 (by decide) (fun _ => ?_) (fun h => absurd (by decide) h)
  refine lv_aload_n hx hb dX6_leaveState_50 rfl (lv_at hl 0 rfl) ?_
  refine r_get C w 0 rfl fr_X6_21 rfl dX6_leaveState_51 ?_
  refine lv_iload_n hx hb dX6_leaveState_54 rfl (lv_at hl 1 rfl) ?_
  refine r_iald C w 1 rfl (IX.of (k := 0) (by decide +kernel)) (v := 1) rfl dX6_leaveState_55 ?_
  refine lv_aload_n hx hb dX6_leaveState_56 rfl (lv_at hl 0 rfl) ?_
  refine r_get C w 0 rfl fr_X6_17 rfl dX6_leaveState_57 ?_
  refine lv_iload_n hx hb dX6_leaveState_60 rfl (lv_at hl 1 rfl) ?_
  refine r_iald C w 2 rfl (IX.of (k := 0) (by decide +kernel)) (v := 1) rfl dX6_leaveState_61 ?_
  refine lv_icmp_ne (tgt := 142) hx hb dX6_leaveState_62 (by decide) (fun h => absurd (by decide) h) (fun _ => ?_)
  refine lv_iconst (v := (-1)) hx hb dX6_leaveState_65 (by decide) ?_
  refine lv_istore_n (lv' := [(2, .int (-1)), (0, .ref q0), (1, .int 0)]) hx hb dX6_leaveState_66 rfl hl (by decide) rfl (fun ls hl => ?_)
  refine lv_aload_n hx hb dX6_leaveState_67 rfl (lv_at hl 1 rfl) ?_
  refine r_get C w 0 rfl fr_X6_70 rfl dX6_leaveState_68 ?_
  refine lv_if_le (tgt := 132) hx hb dX6_leaveState_71 (by decide) (fun h => absurd h (by decide)) (fun _ => ?_)
  refine lv_iload_n hx hb dX6_leaveState_74 rfl (lv_at hl 0 rfl) ?_
  refine lv_iload_n hx hb dX6_leaveState_75 rfl (lv_at hl 2 rfl) ?_
  refine lv_icmp_eq (tgt := 132) hx hb dX6_leaveState_76 (by decide) (fun h => absurd h (by decide)) (fun _ => ?_)
  refine lv_aload_n hx hb dX6_leaveState_79 rfl (lv_at hl 1 rfl) ?_
  refine lv_dup hx hb dX6_leaveState_80 rfl ?_
  refine r_get C w 0 rfl fr_X6_70 rfl dX6_leaveState_81 ?_
  refine lv_iconst (v := 1) hx hb dX6_leaveState_84 (by decide) ?_
  refine lv_isub hx hb dX6_leaveState_85 ?_
  refine z_i (v := 0) (by decide +kernel) ?_
  refine r_put C w 0 rfl fl_X6_70 (Nat.le_of_ble_eq_true rfl) rfl rfl dX6_leaveState_86 (ws2 := [(q0, .inr (6, [.int 0, .ref q6, .ref q2, .ref q1, .ref q7, .ref q8, .ref q3, .ref q4, .ref q5, .ref q9, .ref q10, .ref q11, .ref q12, .ref q13, .ref q14, .ref q15, .int 0, .int 0, .int 0, .int 0])), (q1, .inl (G.2.1, 3008, .inl (upd (fun _ => 0) 0 1))), (q2, .inl (G.2.1, 3008, .inl (upd (fun _ => 0) 0 1))), (q3, .inl (G.2.1, 3008, .inl (fun _ => 0))), (q4, .inl (G.2.1, 3008, .inl f0)), (q5, .inl (G.2.1, 3008, .inl (fun _ => 0)))]) rfl (fun H locs w => ?_)
  refine lv_aload_n hx hb dX6_leaveState_89 rfl (lv_at hl 1 rfl) ?_
  refine r_get C w 0 rfl fr_X6_30 rfl dX6_leaveState_90 ?_
  refine lv_aload_n hx hb dX6_leaveState_93 rfl (lv_at hl 1 rfl) ?_
  refine r_get C w 0 rfl fr_X6_70 rfl dX6_leaveState_94 ?_
  refine r_iald C w 3 rfl (IX.of (k := 0) (by decide +kernel)) (v := 0) rfl dX6_leaveState_97 ?_
  refine lv_istore_n (lv' := [(2, .int 0), (0, .ref q0), (1, .int 0)]) hx hb dX6_leaveState_98 rfl hl (by decide) rfl (fun ls hl => ?_)
  refine lv_aload_n hx hb dX6_leaveState_99 rfl (lv_at hl 1 rfl) ?_
  refine r_get C w 0 rfl fr_X6_33 rfl dX6_leaveState_100 ?_
  refine lv_iload_n hx hb dX6_leaveState_103 rfl (lv_at hl 0 rfl) ?_
  refine lv_aload_n hx hb dX6_leaveState_104 rfl (lv_at hl 1 rfl) ?_
  refine r_get C w 0 rfl fr_X6_61 rfl dX6_leaveState_105 ?_
  refine r_iast C w 4 rfl (IX.of (k := 0) (by decide +kernel)) (g := (upd f0 0 0)) rfl dX6_leaveState_108 (ws2 := [(q0, .inr (6, [.int 0, .ref q6, .ref q2, .ref q1, .ref q7, .ref q8, .ref q3, .ref q4, .ref q5, .ref q9, .ref q10, .ref q11, .ref q12, .ref q13, .ref q14, .ref q15, .int 0, .int 0, .int 0, .int 0])), (q1, .inl (G.2.1, 3008, .inl (upd (fun _ => 0) 0 1))), (q2, .inl (G.2.1, 3008, .inl (upd (fun _ => 0) 0 1))), (q3, .inl (G.2.1, 3008, .inl (fun _ => 0))), (q4, .inl (G.2.1, 3008, .inl (upd f0 0 0))), (q5, .inl (G.2.1, 3008, .inl (fun _ => 0)))]) rfl (fun H locs w => ?_)
  refine lv_aload_n hx hb dX6_leaveState_109 rfl (lv_at hl 1 rfl) ?_
  refine r_get C w 0 rfl fr_X6_36 rfl dX6_leaveState_110 ?_
  refine lv_aload_n hx hb dX6_leaveState_113 rfl (lv_at hl 1 rfl) ?_
  refine r_get C w 0 rfl fr_X6_64 rfl dX6_leaveState_114 ?_
  refine lv_iload_n hx hb dX6_leaveState_117 rfl (lv_at hl 0 rfl) ?_
  refine r_iast C w 5 rfl (IX.of (k := 0) (by decide +kernel)) (g := (fun _ => 0)) (upd_c _ _) dX6_leaveState_118 (ws2 := [(q0, .inr (6, [.int 0, .ref q6, .ref q2, .ref q1, .ref q7, .ref q8, .ref q3, .ref q4, .ref q5, .ref q9, .ref q10, .ref q11, .ref q12, .ref q13, .ref q14, .ref q15, .int 0, .int 0, .int 0, .int 0])), (q1, .inl (G.2.1, 3008, .inl (upd (fun _ => 0) 0 1))), (q2, .inl (G.2.1, 3008, .inl (upd (fun _ => 0) 0 1))), (q3, .inl (G.2.1, 3008, .inl (fun _ => 0))), (q4, .inl (G.2.1, 3008, .inl (upd f0 0 0))), (q5, .inl (G.2.1, 3008, .inl (fun _ => 0)))]) rfl (fun H locs w => ?_)
  refine lv_aload_n hx hb dX6_leaveState_119 rfl (lv_at hl 1 rfl) ?_
  refine lv_dup hx hb dX6_leaveState_120 rfl ?_
  refine r_get C w 0 rfl fr_X6_64 rfl dX6_leaveState_121 ?_
  refine lv_iconst (v := 1) hx hb dX6_leaveState_124 (by decide) ?_
  refine lv_iadd hx hb dX6_leaveState_125 ?_
  refine z_i (v := 1) (by decide +kernel) ?_
  refine r_put C w 0 rfl fl_X6_64 (Nat.le_of_ble_eq_true rfl) rfl rfl dX6_leaveState_126 (ws2 := [(q0, .inr (6, [.int 0, .ref q6, .ref q2, .ref q1, .ref q7, .ref q8, .ref q3, .ref q4, .ref q5, .ref q9, .ref q10, .ref q11, .ref q12, .ref q13, .ref q14, .ref q15, .int 0, .int 1, .int 0, .int 0])), (q1, .inl (G.2.1, 3008, .inl (upd (fun _ => 0) 0 1))), (q2, .inl (G.2.1, 3008, .inl (upd (fun _ => 0) 0 1))), (q3, .inl (G.2.1, 3008, .inl (fun _ => 0))), (q4, .inl (G.2.1, 3008, .inl (upd f0 0 0))), (q5, .inl (G.2.1, 3008, .inl (fun _ => 0)))]) rfl (fun H locs w => ?_)
  refine lv_goto (tgt := 67) hx hb dX6_leaveState_129 (by decide) ?_
  refine lv_aload_n hx hb dX6_leaveState_67 rfl (lv_at hl 1 rfl) ?_
  refine r_get C w 0 rfl fr_X6_70 rfl dX6_leaveState_68 ?_
  refine lv_if_le (tgt := 132) hx hb dX6_leaveState_71 (by decide) (fun _ => ?_) (fun h => absurd (by decide) h)
  refine lv_aload_n hx hb dX6_leaveState_132 rfl (lv_at hl 1 rfl) ?_
  refine lv_dup hx hb dX6_leaveState_133 rfl ?_
  refine r_get C w 0 rfl fr_X6_61 rfl dX6_leaveState_134 ?_
  refine lv_iconst (v := 1) hx hb dX6_leaveState_137 (by decide) ?_
  refine lv_iadd hx hb dX6_leaveState_138 ?_
  refine z_i (v := 1) (by decide +kernel) ?_
  refine r_put C w 0 rfl fl_X6_61 (Nat.le_of_ble_eq_true rfl) rfl rfl dX6_leaveState_139 (ws2 := [(q0, .inr (6, [.int 0, .ref q6, .ref q2, .ref q1, .ref q7, .ref q8, .ref q3, .ref q4, .ref q5, .ref q9, .ref q10, .ref q11, .ref q12, .ref q13, .ref q14, .ref q15, .int 1, .int 1, .int 0, .int 0])), (q1, .inl (G.2.1, 3008, .inl (upd (fun _ => 0) 0 1))), (q2, .inl (G.2.1, 3008, .inl (upd (fun _ => 0) 0 1))), (q3, .inl (G.2.1, 3008, .inl (fun _ => 0))), (q4, .inl (G.2.1, 3008, .inl (upd f0 0 0))), (q5, .inl (G.2.1, 3008, .inl (fun _ => 0)))]) rfl (fun H locs w => ?_)
  exact e_v C hr w (fun _ => 0) [0, 1, 2, 3, 4, 5] rfl rfl dX6_leaveState_142 (by decide) (by decide)
set_option maxRecDepth 100000 in
set_option maxHeartbeats 4000000 in
theorem k170_findOpen {l : Launch} {s0 : State} {a0 : Array Value} {G : GT} (b0 : B0 l s0 a0 G) (q0 q1 q2 q3 q4 q5 q6 q7 q8 q9 q10 q11 q12 q13 q14 q15 q16 q17 q18 q19 q20 q21 q22 q23 q24 q25 q26 q27 q28 q29 q30 q31 q32 q33 q34 q35 q36 q37 q38 : Nat) (sz : Nat) : Kv l s0 G yX6_findOpen cX6_findOpen 4 none { frames := 1, cells := 0, slots := 0, locals := 23 } [.ref q0] [(q0, .inr (6, [.int 0, .ref q2, .ref q5, .ref q6, .ref q7, .ref q8, .ref q9, .ref q10, .ref q11, .ref q1, .ref q12, .ref q13, .ref q14, .ref q15, .ref q16, .ref q17, .int 1, .int 1, .int 0, .int 0])), (q1, .inl (G.2.1, 3008, .inl (fun _ => 0))), (q2, .inr (1, [.int 0, .ref q4, .ref q18, .ref q3, .ref q19, .ref q20, .ref q21, .ref q22, .int 1])), (q3, .inr (7, [.ref q23, .int 0, .int 1, .int 3008, .ref q24])), (q4, .inr (2, [.int 0, .int 0, .ref q25, .ref q26, .ref q27, .ref q28, .ref q29, .ref q30, .ref q31, .ref q32, .ref q33, .ref q34, .ref q35, .ref q36, .ref q37, .ref q38, .int 0]))] sz (fun u => [(q0, .inr (6, [.int 0, .ref q2, .ref q5, .ref q6, .ref q7, .ref q8, .ref q9, .ref q10, .ref q11, .ref q1, .ref q12, .ref q13, .ref q14, .ref q15, .ref q16, .ref q17, .int 1, .int 1, .int 0, .int 0])), (q1, .inl (G.2.1, 3008, .inl (fun _ => 0))), (q2, .inr (1, [.int 0, .ref q4, .ref q18, .ref q3, .ref q19, .ref q20, .ref q21, .ref q22, .int 1])), (q3, .inr (7, [.ref q23, .int 0, .int 1, .int 3008, .ref q24])), (q4, .inr (2, [.int 0, .int 0, .ref q25, .ref q26, .ref q27, .ref q28, .ref q29, .ref q30, .ref q31, .ref q32, .ref q33, .ref q34, .ref q35, .ref q36, .ref q37, .ref q38, .int 0]))]) := by
  refine Kv.of b0 (own := RX6) (nm := "findOpen") [(0, .ref q0)] rfl rfl (by decide +kernel) (Nat.le_of_ble_eq_true rfl) rfl ?_
  intro p e s m below meth c A C hr H locs w ls hl
  have hx := C.hx
  have hb := C.hb
  refine lv_aload_n hx hb dX6_findOpen_0 rfl (lv_at hl 0 rfl) ?_
  refine r_get C w 0 rfl fr_X6_39 rfl dX6_findOpen_1 ?_
  refine lv_iconst (v := 0) hx hb dX6_findOpen_4 (by decide) ?_
  refine fin_v C w (run_S C w ms_X6_73 (k_fillI C.b0 q1 3008 (by decide) (fun _ => 0) 0 H.size) [1] rfl rfl (by decide) rfl hl.1 rfl (Nat.le_of_ble_eq_true rfl) dX6_findOpen_5 (cells2 := 0) (slots2 := 0) (by decide)) [1] [0, 2, 3, 4] rfl rfl (by decide) (cells2 := 0) (slots2 := 0) (by decide) (fun u1 H locs w => ?_)
  have w : Wd s G A [(q0, .inr (6, [.int 0, .ref q2, .ref q5, .ref q6, .ref q7, .ref q8, .ref q9, .ref q10, .ref q11, .ref q1, .ref q12, .ref q13, .ref q14, .ref q15, .ref q16, .ref q17, .int 1, .int 1, .int 0, .int 0])), (q2, .inr (1, [.int 0, .ref q4, .ref q18, .ref q3, .ref q19, .ref q20, .ref q21, .ref q22, .int 1])), (q3, .inr (7, [.ref q23, .int 0, .int 1, .int 3008, .ref q24])), (q4, .inr (2, [.int 0, .int 0, .ref q25, .ref q26, .ref q27, .ref q28, .ref q29, .ref q30, .ref q31, .ref q32, .ref q33, .ref q34, .ref q35, .ref q36, .ref q37, .ref q38, .int 0])), (q1, .inl (G.2.1, 3008, .inl (fun _ => 0)))] H locs := w
  refine lv_iconst (v := 0) hx hb dX6_findOpen_8 (by decide) ?_
  refine lv_istore_n (lv' := [(1, .int 0), (0, .ref q0)]) hx hb dX6_findOpen_9 rfl hl (by decide) rfl (fun ls hl => ?_)
  refine lv_iload_n hx hb dX6_findOpen_10 rfl (lv_at hl 0 rfl) ?_
  refine lv_aload_n hx hb dX6_findOpen_11 rfl (lv_at hl 1 rfl) ?_
  refine r_get C w 0 rfl fr_X6_83 rfl dX6_findOpen_12 ?_
  refine fin_i C w (run_V C w mv_X6_87 (k116_size C.b0 q2 q3 q4 q18 q19 q20 q21 q22 q23 q24 H.size) [1, 2] rfl rfl 1 rfl rfl (by decide) rfl hl.1 rfl (Nat.le_of_ble_eq_true rfl) dX6_findOpen_15 (cells2 := 0) (slots2 := 0) (by decide)) [1, 2] [0, 3, 4] rfl rfl (by decide) (cells2 := 0) (slots2 := 0) (by decide) (fun u2 H locs w => ?_)
  have w : Wd s G A [(q0, .inr (6, [.int 0, .ref q2, .ref q5, .ref q6, .ref q7, .ref q8, .ref q9, .ref q10, .ref q11, .ref q1, .ref q12, .ref q13, .ref q14, .ref q15, .ref q16, .ref q17, .int 1, .int 1, .int 0, .int 0])), (q4, .inr (2, [.int 0, .int 0, .ref q25, .ref q26, .ref q27, .ref q28, .ref q29, .ref q30, .ref q31, .ref q32, .ref q33, .ref q34, .ref q35, .ref q36, .ref q37, .ref q38, .int 0])), (q1, .inl (G.2.1, 3008, .inl (fun _ => 0))), (q2, .inr (1, [.int 0, .ref q4, .ref q18, .ref q3, .ref q19, .ref q20, .ref q21, .ref q22, .int 1])), (q3, .inr (7, [.ref q23, .int 0, .int 1, .int 3008, .ref q24]))] H locs := w
  refine lv_icmp_ge (tgt := 96) hx hb dX6_findOpen_18 (by decide) (fun h => absurd h (by decide)) (fun _ => ?_)
  refine lv_iconst (v := 0) hx hb dX6_findOpen_21 (by decide) ?_
  refine lv_istore_n (lv' := [(2, .int 0), (1, .int 0), (0, .ref q0)]) hx hb dX6_findOpen_22 rfl hl (by decide) rfl (fun ls hl => ?_)
  refine lv_iload_n hx hb dX6_findOpen_23 rfl (lv_at hl 0 rfl) ?_
  refine lv_aload_n hx hb dX6_findOpen_24 rfl (lv_at hl 2 rfl) ?_
  refine r_get C w 0 rfl fr_X6_83 rfl dX6_findOpen_25 ?_
  refine r_get C w 3 rfl fr_X6_91 rfl dX6_findOpen_28 ?_
  refine r_get C w 1 rfl fr_X6_95 rfl dX6_findOpen_31 ?_
  refine lv_icmp_ge (tgt := 90) hx hb dX6_findOpen_34 (by decide) (fun _ => ?_) (fun h => absurd (by decide) h)
  refine lv_iinc (v := 1) (lv' := [(1, .int 1), (2, .int 0), (0, .ref q0)]) hx hb dX6_findOpen_90 hl (k := 1) rfl (by decide +kernel) (by decide) rfl (fun ls hl => ?_)
  refine lv_goto (tgt := 10) hx hb dX6_findOpen_93 (by decide) ?_
  refine lv_iload_n hx hb dX6_findOpen_10 rfl (lv_at hl 0 rfl) ?_
  refine lv_aload_n hx hb dX6_findOpen_11 rfl (lv_at hl 2 rfl) ?_
  refine r_get C w 0 rfl fr_X6_83 rfl dX6_findOpen_12 ?_
  refine fin_i C w (run_V C w mv_X6_87 (k116_size C.b0 q2 q3 q4 q18 q19 q20 q21 q22 q23 q24 H.size) [3, 4] rfl rfl 3 rfl rfl (by decide) rfl hl.1 rfl (Nat.le_of_ble_eq_true rfl) dX6_findOpen_15 (cells2 := 0) (slots2 := 0) (by decide)) [3, 4] [0, 1, 2] rfl rfl (by decide) (cells2 := 0) (slots2 := 0) (by decide) (fun u3 H locs w => ?_)
  have w : Wd s G A [(q0, .inr (6, [.int 0, .ref q2, .ref q5, .ref q6, .ref q7, .ref q8, .ref q9, .ref q10, .ref q11, .ref q1, .ref q12, .ref q13, .ref q14, .ref q15, .ref q16, .ref q17, .int 1, .int 1, .int 0, .int 0])), (q4, .inr (2, [.int 0, .int 0, .ref q25, .ref q26, .ref q27, .ref q28, .ref q29, .ref q30, .ref q31, .ref q32, .ref q33, .ref q34, .ref q35, .ref q36, .ref q37, .ref q38, .int 0])), (q1, .inl (G.2.1, 3008, .inl (fun _ => 0))), (q2, .inr (1, [.int 0, .ref q4, .ref q18, .ref q3, .ref q19, .ref q20, .ref q21, .ref q22, .int 1])), (q3, .inr (7, [.ref q23, .int 0, .int 1, .int 3008, .ref q24]))] H locs := w
  refine lv_icmp_ge (tgt := 96) hx hb dX6_findOpen_18 (by decide) (fun _ => ?_) (fun h => absurd (by decide) h)
  exact e_v C hr w (fun _ => 0) [0, 2, 3, 4, 1] rfl rfl dX6_findOpen_96 (by decide) (by decide)
set_option maxRecDepth 100000 in
set_option maxHeartbeats 4000000 in
theorem k171_tie {l : Launch} {s0 : State} {a0 : Array Value} {G : GT} (b0 : B0 l s0 a0 G) (q0 q1 q2 q3 q4 q5 q6 q7 q8 q9 q10 q11 q12 q13 q14 q15 q16 q17 q18 q19 q20 q21 q22 q23 q24 q25 q26 q27 q28 q29 q30 q31 q32 q33 q34 q35 q36 q37 q38 : Nat) (sz : Nat) : Kv l s0 G yX6_tie cX6_tie 5 none { frames := 2, cells := 0, slots := 0, locals := 46 } [.ref q0, .int 0] [(q0, .inr (6, [.int (-1), .ref q7, .ref q1, .ref q2, .ref q3, .ref q5, .ref q6, .ref q4, .ref q10, .ref q11, .ref q12, .ref q13, .ref q14, .ref q15, .ref q16, .ref q17, .int 0, .int 0, .int 0, .int 0])), (q1, .inl (G.2.1, 3008, .inl (fun _ => 0))), (q2, .inl (G.2.1, 3008, .inl (fun _ => 0))), (q3, .inl (G.2.1, 3008, .inl (fun _ => 0))), (q4, .inl (G.2.1, 3008, .inl (fun _ => 0))), (q5, .inl (G.2.1, 3008, .inl (fun _ => 0))), (q6, .inl (G.2.1, 3008, .inl (fun _ => 0))), (q7, .inr (1, [.int 0, .ref q9, .ref q18, .ref q8, .ref q19, .ref q20, .ref q21, .ref q22, .int 1])), (q8, .inr (7, [.ref q23, .int 0, .int 1, .int 3008, .ref q24])), (q9, .inr (2, [.int 0, .int 0, .ref q25, .ref q26, .ref q27, .ref q28, .ref q29, .ref q30, .ref q31, .ref q32, .ref q33, .ref q34, .ref q35, .ref q36, .ref q37, .ref q38, .int 0])), (q10, .inl (G.2.1, 3008, .inl (fun _ => 0))), (q11, .inl (G.2.1, 3008, .inl (fun _ => 0)))] sz (fun u => [(q0, .inr (6, [.int 0, .ref q7, .ref q1, .ref q2, .ref q3, .ref q5, .ref q6, .ref q4, .ref q10, .ref q11, .ref q12, .ref q13, .ref q14, .ref q15, .ref q16, .ref q17, .int 1, .int 1, .int 0, .int 0])), (q1, .inl (G.2.1, 3008, .inl (upd (fun _ => 0) 0 1))), (q2, .inl (G.2.1, 3008, .inl (upd (fun _ => 0) 0 1))), (q3, .inl (G.2.1, 3008, .inl (fun _ => 0))), (q4, .inl (G.2.1, 3008, .inl (upd (upd (fun _ => 0) 0 (-1)) 0 0))), (q5, .inl (G.2.1, 3008, .inl (fun _ => 0))), (q6, .inl (G.2.1, 3008, .inl (fun _ => 0))), (q7, .inr (1, [.int 0, .ref q9, .ref q18, .ref q8, .ref q19, .ref q20, .ref q21, .ref q22, .int 1])), (q8, .inr (7, [.ref q23, .int 0, .int 1, .int 3008, .ref q24])), (q9, .inr (2, [.int 0, .int 0, .ref q25, .ref q26, .ref q27, .ref q28, .ref q29, .ref q30, .ref q31, .ref q32, .ref q33, .ref q34, .ref q35, .ref q36, .ref q37, .ref q38, .int 0])), (q10, .inl (G.2.1, 3008, .inl (fun _ => 0))), (q11, .inl (G.2.1, 3008, .inl (fun _ => 0)))]) := by
  refine Kv.of b0 (own := RX6) (nm := "tie") [(0, .ref q0), (1, .int 0)] rfl rfl (by decide +kernel) (Nat.le_of_ble_eq_true rfl) rfl ?_
  intro p e s m below meth c A C hr H locs w ls hl
  have hx := C.hx
  have hb := C.hb
  refine lv_aload_n hx hb dX6_tie_0 rfl (lv_at hl 0 rfl) ?_
  refine lv_iload_n hx hb dX6_tie_1 rfl (lv_at hl 1 rfl) ?_
  refine r_put C w 0 rfl fl_X6_9 (Nat.le_of_ble_eq_true rfl) rfl rfl dX6_tie_2 (ws2 := [(q0, .inr (6, [.int 0, .ref q7, .ref q1, .ref q2, .ref q3, .ref q5, .ref q6, .ref q4, .ref q10, .ref q11, .ref q12, .ref q13, .ref q14, .ref q15, .ref q16, .ref q17, .int 0, .int 0, .int 0, .int 0])), (q1, .inl (G.2.1, 3008, .inl (fun _ => 0))), (q2, .inl (G.2.1, 3008, .inl (fun _ => 0))), (q3, .inl (G.2.1, 3008, .inl (fun _ => 0))), (q4, .inl (G.2.1, 3008, .inl (fun _ => 0))), (q5, .inl (G.2.1, 3008, .inl (fun _ => 0))), (q6, .inl (G.2.1, 3008, .inl (fun _ => 0))), (q7, .inr (1, [.int 0, .ref q9, .ref q18, .ref q8, .ref q19, .ref q20, .ref q21, .ref q22, .int 1])), (q8, .inr (7, [.ref q23, .int 0, .int 1, .int 3008, .ref q24])), (q9, .inr (2, [.int 0, .int 0, .ref q25, .ref q26, .ref q27, .ref q28, .ref q29, .ref q30, .ref q31, .ref q32, .ref q33, .ref q34, .ref q35, .ref q36, .ref q37, .ref q38, .int 0])), (q10, .inl (G.2.1, 3008, .inl (fun _ => 0))), (q11, .inl (G.2.1, 3008, .inl (fun _ => 0)))]) rfl (fun H locs w => ?_)
  refine lv_aload_n hx hb dX6_tie_5 rfl (lv_at hl 0 rfl) ?_
  refine lv_iconst (v := 0) hx hb dX6_tie_6 (by decide) ?_
  refine r_put C w 0 rfl fl_X6_61 (Nat.le_of_ble_eq_true rfl) rfl rfl dX6_tie_7 (ws2 := [(q0, .inr (6, [.int 0, .ref q7, .ref q1, .ref q2, .ref q3, .ref q5, .ref q6, .ref q4, .ref q10, .ref q11, .ref q12, .ref q13, .ref q14, .ref q15, .ref q16, .ref q17, .int 0, .int 0, .int 0, .int 0])), (q1, .inl (G.2.1, 3008, .inl (fun _ => 0))), (q2, .inl (G.2.1, 3008, .inl (fun _ => 0))), (q3, .inl (G.2.1, 3008, .inl (fun _ => 0))), (q4, .inl (G.2.1, 3008, .inl (fun _ => 0))), (q5, .inl (G.2.1, 3008, .inl (fun _ => 0))), (q6, .inl (G.2.1, 3008, .inl (fun _ => 0))), (q7, .inr (1, [.int 0, .ref q9, .ref q18, .ref q8, .ref q19, .ref q20, .ref q21, .ref q22, .int 1])), (q8, .inr (7, [.ref q23, .int 0, .int 1, .int 3008, .ref q24])), (q9, .inr (2, [.int 0, .int 0, .ref q25, .ref q26, .ref q27, .ref q28, .ref q29, .ref q30, .ref q31, .ref q32, .ref q33, .ref q34, .ref q35, .ref q36, .ref q37, .ref q38, .int 0])), (q10, .inl (G.2.1, 3008, .inl (fun _ => 0))), (q11, .inl (G.2.1, 3008, .inl (fun _ => 0)))]) rfl (fun H locs w => ?_)
  refine lv_aload_n hx hb dX6_tie_10 rfl (lv_at hl 0 rfl) ?_
  refine lv_iconst (v := 0) hx hb dX6_tie_11 (by decide) ?_
  refine r_put C w 0 rfl fl_X6_64 (Nat.le_of_ble_eq_true rfl) rfl rfl dX6_tie_12 (ws2 := [(q0, .inr (6, [.int 0, .ref q7, .ref q1, .ref q2, .ref q3, .ref q5, .ref q6, .ref q4, .ref q10, .ref q11, .ref q12, .ref q13, .ref q14, .ref q15, .ref q16, .ref q17, .int 0, .int 0, .int 0, .int 0])), (q1, .inl (G.2.1, 3008, .inl (fun _ => 0))), (q2, .inl (G.2.1, 3008, .inl (fun _ => 0))), (q3, .inl (G.2.1, 3008, .inl (fun _ => 0))), (q4, .inl (G.2.1, 3008, .inl (fun _ => 0))), (q5, .inl (G.2.1, 3008, .inl (fun _ => 0))), (q6, .inl (G.2.1, 3008, .inl (fun _ => 0))), (q7, .inr (1, [.int 0, .ref q9, .ref q18, .ref q8, .ref q19, .ref q20, .ref q21, .ref q22, .int 1])), (q8, .inr (7, [.ref q23, .int 0, .int 1, .int 3008, .ref q24])), (q9, .inr (2, [.int 0, .int 0, .ref q25, .ref q26, .ref q27, .ref q28, .ref q29, .ref q30, .ref q31, .ref q32, .ref q33, .ref q34, .ref q35, .ref q36, .ref q37, .ref q38, .int 0])), (q10, .inl (G.2.1, 3008, .inl (fun _ => 0))), (q11, .inl (G.2.1, 3008, .inl (fun _ => 0)))]) rfl (fun H locs w => ?_)
  refine lv_aload_n hx hb dX6_tie_15 rfl (lv_at hl 0 rfl) ?_
  refine lv_iconst (v := 0) hx hb dX6_tie_16 (by decide) ?_
  refine r_put C w 0 rfl fl_X6_67 (Nat.le_of_ble_eq_true rfl) rfl rfl dX6_tie_17 (ws2 := [(q0, .inr (6, [.int 0, .ref q7, .ref q1, .ref q2, .ref q3, .ref q5, .ref q6, .ref q4, .ref q10, .ref q11, .ref q12, .ref q13, .ref q14, .ref q15, .ref q16, .ref q17, .int 0, .int 0, .int 0, .int 0])), (q1, .inl (G.2.1, 3008, .inl (fun _ => 0))), (q2, .inl (G.2.1, 3008, .inl (fun _ => 0))), (q3, .inl (G.2.1, 3008, .inl (fun _ => 0))), (q4, .inl (G.2.1, 3008, .inl (fun _ => 0))), (q5, .inl (G.2.1, 3008, .inl (fun _ => 0))), (q6, .inl (G.2.1, 3008, .inl (fun _ => 0))), (q7, .inr (1, [.int 0, .ref q9, .ref q18, .ref q8, .ref q19, .ref q20, .ref q21, .ref q22, .int 1])), (q8, .inr (7, [.ref q23, .int 0, .int 1, .int 3008, .ref q24])), (q9, .inr (2, [.int 0, .int 0, .ref q25, .ref q26, .ref q27, .ref q28, .ref q29, .ref q30, .ref q31, .ref q32, .ref q33, .ref q34, .ref q35, .ref q36, .ref q37, .ref q38, .int 0])), (q10, .inl (G.2.1, 3008, .inl (fun _ => 0))), (q11, .inl (G.2.1, 3008, .inl (fun _ => 0)))]) rfl (fun H locs w => ?_)
  refine lv_aload_n hx hb dX6_tie_20 rfl (lv_at hl 0 rfl) ?_
  refine lv_iconst (v := 0) hx hb dX6_tie_21 (by decide) ?_
  refine r_put C w 0 rfl fl_X6_70 (Nat.le_of_ble_eq_true rfl) rfl rfl dX6_tie_22 (ws2 := [(q0, .inr (6, [.int 0, .ref q7, .ref q1, .ref q2, .ref q3, .ref q5, .ref q6, .ref q4, .ref q10, .ref q11, .ref q12, .ref q13, .ref q14, .ref q15, .ref q16, .ref q17, .int 0, .int 0, .int 0, .int 0])), (q1, .inl (G.2.1, 3008, .inl (fun _ => 0))), (q2, .inl (G.2.1, 3008, .inl (fun _ => 0))), (q3, .inl (G.2.1, 3008, .inl (fun _ => 0))), (q4, .inl (G.2.1, 3008, .inl (fun _ => 0))), (q5, .inl (G.2.1, 3008, .inl (fun _ => 0))), (q6, .inl (G.2.1, 3008, .inl (fun _ => 0))), (q7, .inr (1, [.int 0, .ref q9, .ref q18, .ref q8, .ref q19, .ref q20, .ref q21, .ref q22, .int 1])), (q8, .inr (7, [.ref q23, .int 0, .int 1, .int 3008, .ref q24])), (q9, .inr (2, [.int 0, .int 0, .ref q25, .ref q26, .ref q27, .ref q28, .ref q29, .ref q30, .ref q31, .ref q32, .ref q33, .ref q34, .ref q35, .ref q36, .ref q37, .ref q38, .int 0])), (q10, .inl (G.2.1, 3008, .inl (fun _ => 0))), (q11, .inl (G.2.1, 3008, .inl (fun _ => 0)))]) rfl (fun H locs w => ?_)
  refine lv_aload_n hx hb dX6_tie_25 rfl (lv_at hl 0 rfl) ?_
  refine r_get C w 0 rfl fr_X6_17 rfl dX6_tie_26 ?_
  refine lv_iconst (v := 0) hx hb dX6_tie_29 (by decide) ?_
  refine fin_v C w (run_S C w ms_X6_73 (k_fillI C.b0 q1 3008 (by decide) (fun _ => 0) 0 H.size) [1] rfl rfl (by decide) rfl hl.1 rfl (Nat.le_of_ble_eq_true rfl) dX6_tie_30 (cells2 := 0) (slots2 := 0) (by decide)) [1] [0, 2, 3, 4, 5, 6, 7, 8, 9, 10, 11] rfl rfl (by decide) (cells2 := 0) (slots2 := 0) (by decide) (fun u1 H locs w => ?_)
  have w : Wd s G A [(q0, .inr (6, [.int 0, .ref q7, .ref q1, .ref q2, .ref q3, .ref q5, .ref q6, .ref q4, .ref q10, .ref q11, .ref q12, .ref q13, .ref q14, .ref q15, .ref q16, .ref q17, .int 0, .int 0, .int 0, .int 0])), (q2, .inl (G.2.1, 3008, .inl (fun _ => 0))), (q3, .inl (G.2.1, 3008, .inl (fun _ => 0))), (q4, .inl (G.2.1, 3008, .inl (fun _ => 0))), (q5, .inl (G.2.1, 3008, .inl (fun _ => 0))), (q6, .inl (G.2.1, 3008, .inl (fun _ => 0))), (q7, .inr (1, [.int 0, .ref q9, .ref q18, .ref q8, .ref q19, .ref q20, .ref q21, .ref q22, .int 1])), (q8, .inr (7, [.ref q23, .int 0, .int 1, .int 3008, .ref q24])), (q9, .inr (2, [.int 0, .int 0, .ref q25, .ref q26, .ref q27, .ref q28, .ref q29, .ref q30, .ref q31, .ref q32, .ref q33, .ref q34, .ref q35, .ref q36, .ref q37, .ref q38, .int 0])), (q10, .inl (G.2.1, 3008, .inl (fun _ => 0))), (q11, .inl (G.2.1, 3008, .inl (fun _ => 0))), (q1, .inl (G.2.1, 3008, .inl (fun _ => 0)))] H locs := w
  refine lv_aload_n hx hb dX6_tie_33 rfl (lv_at hl 0 rfl) ?_
  refine lv_iconst (v := 0) hx hb dX6_tie_34 (by decide) ?_
  refine fin_v C w (run_V C w mv_X6_79 (k168_enterState C.b0 q0 q1 q2 q3 q4 q5 q6 q7 q10 q11 q12 q13 q14 q15 q16 q17 H.size) [0, 11, 1, 2, 3, 4, 5] rfl rfl 0 rfl rfl (by decide) rfl hl.1 rfl (Nat.le_of_ble_eq_true rfl) dX6_tie_35 (cells2 := 0) (slots2 := 0) (by decide)) [0, 11, 1, 2, 3, 4, 5] [6, 7, 8, 9, 10] rfl rfl (by decide) (cells2 := 0) (slots2 := 0) (by decide) (fun u2 H locs w => ?_)
  have w : Wd s G A [(q7, .inr (1, [.int 0, .ref q9, .ref q18, .ref q8, .ref q19, .ref q20, .ref q21, .ref q22, .int 1])), (q8, .inr (7, [.ref q23, .int 0, .int 1, .int 3008, .ref q24])), (q9, .inr (2, [.int 0, .int 0, .ref q25, .ref q26, .ref q27, .ref q28, .ref q29, .ref q30, .ref q31, .ref q32, .ref q33, .ref q34, .ref q35, .ref q36, .ref q37, .ref q38, .int 0])), (q10, .inl (G.2.1, 3008, .inl (fun _ => 0))), (q11, .inl (G.2.1, 3008, .inl (fun _ => 0))), (q0, .inr (6, [.int 0, .ref q7, .ref q1, .ref q2, .ref q3, .ref q5, .ref q6, .ref q4, .ref q10, .ref q11, .ref q12, .ref q13, .ref q14, .ref q15, .ref q16, .ref q17, .int 0, .int 0, .int 1, .int 1])), (q1, .inl (G.2.1, 3008, .inl (upd (fun _ => 0) 0 1))), (q2, .inl (G.2.1, 3008, .inl (upd (fun _ => 0) 0 1))), (q3, .inl (G.2.1, 3008, .inl (fun _ => 0))), (q4, .inl (G.2.1, 3008, .inl (upd (fun _ => 0) 0 (-1)))), (q5, .inl (G.2.1, 3008, .inl (fun _ => 0))), (q6, .inl (G.2.1, 3008, .inl (fun _ => 0)))] H locs := w
  refine lv_aload_n hx hb dX6_tie_38 rfl (lv_at hl 0 rfl) ?_
  refine r_get C w 5 rfl fr_X6_83 rfl dX6_tie_39 ?_
  refine fin_i C w (run_V C w mv_X6_87 (k116_size C.b0 q7 q8 q9 q18 q19 q20 q21 q22 q23 q24 H.size) [0, 1] rfl rfl 0 rfl rfl (by decide) rfl hl.1 rfl (Nat.le_of_ble_eq_true rfl) dX6_tie_42 (cells2 := 0) (slots2 := 0) (by decide)) [0, 1] [2, 3, 4, 5, 6, 7, 8, 9, 10, 11] rfl rfl (by decide) (cells2 := 0) (slots2 := 0) (by decide) (fun u3 H locs w => ?_)
  have w : Wd s G A [(q9, .inr (2, [.int 0, .int 0, .ref q25, .ref q26, .ref q27, .ref q28, .ref q29, .ref q30, .ref q31, .ref q32, .ref q33, .ref q34, .ref q35, .ref q36, .ref q37, .ref q38, .int 0])), (q10, .inl (G.2.1, 3008, .inl (fun _ => 0))), (q11, .inl (G.2.1, 3008, .inl (fun _ => 0))), (q0, .inr (6, [.int 0, .ref q7, .ref q1, .ref q2, .ref q3, .ref q5, .ref q6, .ref q4, .ref q10, .ref q11, .ref q12, .ref q13, .ref q14, .ref q15, .ref q16, .ref q17, .int 0, .int 0, .int 1, .int 1])), (q1, .inl (G.2.1, 3008, .inl (upd (fun _ => 0) 0 1))), (q2, .inl (G.2.1, 3008, .inl (upd (fun _ => 0) 0 1))), (q3, .inl (G.2.1, 3008, .inl (fun _ => 0))), (q4, .inl (G.2.1, 3008, .inl (upd (fun _ => 0) 0 (-1)))), (q5, .inl (G.2.1, 3008, .inl (fun _ => 0))), (q6, .inl (G.2.1, 3008, .inl (fun _ => 0))), (q7, .inr (1, [.int 0, .ref q9, .ref q18, .ref q8, .ref q19, .ref q20, .ref q21, .ref q22, .int 1])), (q8, .inr (7, [.ref q23, .int 0, .int 1, .int 3008, .ref q24]))] H locs := w
  refine lv_bipush (v := 10) hx hb dX6_tie_45 (by decide) ?_
  refine lv_imul hx hb dX6_tie_47 ?_
  refine z_i (v := 10) (by decide +kernel) ?_
  refine lv_istore_n (lv' := [(2, .int 10), (0, .ref q0), (1, .int 0)]) hx hb dX6_tie_48 rfl hl (by decide) rfl (fun ls hl => ?_)
  refine lv_iconst (v := 0) hx hb dX6_tie_49 (by decide) ?_
  refine lv_istore_n (lv' := [(3, .int 0), (2, .int 10), (0, .ref q0), (1, .int 0)]) hx hb dX6_tie_50 rfl hl (by decide) rfl (fun ls hl => ?_)
  refine lv_iload_n hx hb dX6_tie_51 rfl (lv_at hl 0 rfl) ?_
  refine lv_iload_n hx hb dX6_tie_52 rfl (lv_at hl 1 rfl) ?_
  refine lv_icmp_ge (tgt := 117) hx hb dX6_tie_53 (by decide) (fun h => absurd h (by decide)) (fun _ => ?_)
  refine lv_aload_n hx hb dX6_tie_56 rfl (lv_at hl 2 rfl) ?_
  refine r_get C w 3 rfl fr_X6_67 rfl dX6_tie_57 ?_
  refine lv_if_le (tgt := 117) hx hb dX6_tie_60 (by decide) (fun h => absurd h (by decide)) (fun _ => ?_)
  refine lv_aload_n hx hb dX6_tie_63 rfl (lv_at hl 2 rfl) ?_
  refine r_get C w 3 rfl fr_X6_27 rfl dX6_tie_64 ?_
  refine lv_aload_n hx hb dX6_tie_67 rfl (lv_at hl 2 rfl) ?_
  refine r_get C w 3 rfl fr_X6_67 rfl dX6_tie_68 ?_
  refine lv_iconst (v := 1) hx hb dX6_tie_71 (by decide) ?_
  refine lv_isub hx hb dX6_tie_72 ?_
  refine z_i (v := 0) (by decide +kernel) ?_
  refine r_iald C w 8 rfl (IX.of (k := 0) (by decide +kernel)) (v := 0) rfl dX6_tie_73 ?_
  refine lv_istore (lv' := [(4, .int 0), (3, .int 0), (2, .int 10), (0, .ref q0), (1, .int 0)]) hx hb dX6_tie_74 hl (by decide) rfl (fun ls hl => ?_)
  refine lv_aload_n hx hb dX6_tie_76 rfl (lv_at hl 3 rfl) ?_
  refine r_get C w 3 rfl fr_X6_24 rfl dX6_tie_77 ?_
  refine lv_iload hx hb dX6_tie_80 (lv_at hl 0 rfl) ?_
  refine r_iald C w 6 rfl (IX.of (k := 0) (by decide +kernel)) (v := 0) rfl dX6_tie_82 ?_
  refine lv_aload_n hx hb dX6_tie_83 rfl (lv_at hl 3 rfl) ?_
  refine r_get C w 3 rfl fr_X6_83 rfl dX6_tie_84 ?_
  refine r_get C w 10 rfl fr_X6_91 rfl dX6_tie_87 ?_
  refine r_get C w 0 rfl fr_X6_95 rfl dX6_tie_90 ?_
  refine lv_icmp_ge (tgt := 105) hx hb dX6_tie_93 (by decide) (fun _ => ?_) (fun h => absurd (by decide) h)
  refine lv_aload_n hx hb dX6_tie_105 rfl (lv_at hl 3 rfl) ?_
  refine lv_iload hx hb dX6_tie_106 (lv_at hl 0 rfl) ?_
  refine fin_v C w (run_V C w mv_X6_103 (k169_leaveState C.b0 q0 q2 q1 q6 q4 q10 q7 q3 q5 q11 q12 q13 q14 q15 q16 q17 (upd (fun _ => 0) 0 (-1)) H.size) [3, 5, 4, 9, 7, 1] rfl rfl 3 rfl rfl (by decide) rfl hl.1 rfl (Nat.le_of_ble_eq_true rfl) dX6_tie_108 (cells2 := 0) (slots2 := 0) (by decide)) [3, 5, 4, 9, 7, 1] [0, 2, 6, 8, 10, 11] rfl rfl (by decide) (cells2 := 0) (slots2 := 0) (by decide) (fun u4 H locs w => ?_)
  have w : Wd s G A [(q9, .inr (2, [.int 0, .int 0, .ref q25, .ref q26, .ref q27, .ref q28, .ref q29, .ref q30, .ref q31, .ref q32, .ref q33, .ref q34, .ref q35, .ref q36, .ref q37, .ref q38, .int 0])), (q11, .inl (G.2.1, 3008, .inl (fun _ => 0))), (q3, .inl (G.2.1, 3008, .inl (fun _ => 0))), (q5, .inl (G.2.1, 3008, .inl (fun _ => 0))), (q7, .inr (1, [.int 0, .ref q9, .ref q18, .ref q8, .ref q19, .ref q20, .ref q21, .ref q22, .int 1])), (q8, .inr (7, [.ref q23, .int 0, .int 1, .int 3008, .ref q24])), (q0, .inr (6, [.int 0, .ref q7, .ref q1, .ref q2, .ref q3, .ref q5, .ref q6, .ref q4, .ref q10, .ref q11, .ref q12, .ref q13, .ref q14, .ref q15, .ref q16, .ref q17, .int 1, .int 1, .int 0, .int 0])), (q2, .inl (G.2.1, 3008, .inl (upd (fun _ => 0) 0 1))), (q1, .inl (G.2.1, 3008, .inl (upd (fun _ => 0) 0 1))), (q6, .inl (G.2.1, 3008, .inl (fun _ => 0))), (q4, .inl (G.2.1, 3008, .inl (upd (upd (fun _ => 0) 0 (-1)) 0 0))), (q10, .inl (G.2.1, 3008, .inl (fun _ => 0)))] H locs := w
  refine lv_iinc (v := 1) (lv' := [(3, .int 1), (4, .int 0), (2, .int 10), (0, .ref q0), (1, .int 0)]) hx hb dX6_tie_111 hl (k := 1) rfl (by decide +kernel) (by decide) rfl (fun ls hl => ?_)
  refine lv_goto (tgt := 51) hx hb dX6_tie_114 (by decide) ?_
  refine lv_iload_n hx hb dX6_tie_51 rfl (lv_at hl 0 rfl) ?_
  refine lv_iload_n hx hb dX6_tie_52 rfl (lv_at hl 2 rfl) ?_
  refine lv_icmp_ge (tgt := 117) hx hb dX6_tie_53 (by decide) (fun h => absurd h (by decide)) (fun _ => ?_)
  refine lv_aload_n hx hb dX6_tie_56 rfl (lv_at hl 3 rfl) ?_
  refine r_get C w 6 rfl fr_X6_67 rfl dX6_tie_57 ?_
  refine lv_if_le (tgt := 117) hx hb dX6_tie_60 (by decide) (fun _ => ?_) (fun h => absurd (by decide) h)
  refine lv_aload_n hx hb dX6_tie_117 rfl (lv_at hl 3 rfl) ?_
  refine fin_v C w (run_V C w mv_X6_106 (k170_findOpen C.b0 q0 q11 q7 q8 q9 q1 q2 q3 q5 q6 q4 q10 q12 q13 q14 q15 q16 q17 q18 q19 q20 q21 q22 q23 q24 q25 q26 q27 q28 q29 q30 q31 q32 q33 q34 q35 q36 q37 q38 H.size) [6, 1, 4, 5, 0] rfl rfl 6 rfl rfl (by decide) rfl hl.1 rfl (Nat.le_of_ble_eq_true rfl) dX6_tie_118 (cells2 := 0) (slots2 := 0) (by decide)) [6, 1, 4, 5, 0] [2, 3, 7, 8, 9, 10, 11] rfl rfl (by decide) (cells2 := 0) (slots2 := 0) (by decide) (fun u5 H locs w => ?_)
  have w : Wd s G A [(q3, .inl (G.2.1, 3008, .inl (fun _ => 0))), (q5, .inl (G.2.1, 3008, .inl (fun _ => 0))), (q2, .inl (G.2.1, 3008, .inl (upd (fun _ => 0) 0 1))), (q1, .inl (G.2.1, 3008, .inl (upd (fun _ => 0) 0 1))), (q6, .inl (G.2.1, 3008, .inl (fun _ => 0))), (q4, .inl (G.2.1, 3008, .inl (upd (upd (fun _ => 0) 0 (-1)) 0 0))), (q10, .inl (G.2.1, 3008, .inl (fun _ => 0))), (q0, .inr (6, [.int 0, .ref q7, .ref q1, .ref q2, .ref q3, .ref q5, .ref q6, .ref q4, .ref q10, .ref q11, .ref q12, .ref q13, .ref q14, .ref q15, .ref q16, .ref q17, .int 1, .int 1, .int 0, .int 0])), (q11, .inl (G.2.1, 3008, .inl (fun _ => 0))), (q7, .inr (1, [.int 0, .ref q9, .ref q18, .ref q8, .ref q19, .ref q20, .ref q21, .ref q22, .int 1])), (q8, .inr (7, [.ref q23, .int 0, .int 1, .int 3008, .ref q24])), (q9, .inr (2, [.int 0, .int 0, .ref q25, .ref q26, .ref q27, .ref q28, .ref q29, .ref q30, .ref q31, .ref q32, .ref q33, .ref q34, .ref q35, .ref q36, .ref q37, .ref q38, .int 0]))] H locs := w
  exact e_v C hr w (fun _ => 0) [7, 3, 2, 0, 5, 1, 4, 9, 10, 11, 6, 8] rfl rfl dX6_tie_121 (by decide) (by decide)
