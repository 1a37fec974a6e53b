set_option maxRecDepth 100000 in
set_option maxHeartbeats 4000000 in
theorem k392_base {l : Launch} {s0 : State} {a0 : Array Value} {G : GT} (b0 : B0 l s0 a0 G) (q0 q1 q2 q3 q4 q5 q6 q7 q8 q9 q10 q11 q12 q13 q14 q15 q16 q17 q18 q19 q20 q21 q22 q23 q24 q25 q26 q27 q28 q29 q30 q31 q32 q33 q34 q35 q36 q37 q38 q39 q40 q41 q42 : Nat) (x0 : Int32) (h0 : ¬ 1 < x0) (h1 : ¬ x0 < 0) (sz : Nat) : Ki l s0 G yX12_base cX12_base 2 (some .int) { frames := 2, cells := 0, slots := 0, locals := 70 } [.ref q0, .int x0] [(q0, .inr (12, [.int 0, .int 0, .int 0, .int 0, .int 0, .int 0, .int 0, .int (-1), .ref q3, .ref q1, .ref q4, .int 0, .ref q5, .ref q6, .ref q7, .ref q8, .ref q9, .ref q10, .ref q11, .int 0, .ref q12, .ref q13, .ref q14, .ref q15, .ref q16, .ref q17, .ref q18, .int 0, .int (-1), .int 0, .ref q19, .ref q20, .ref q21, .ref q22, .ref q23, .ref q24, .ref q25, .ref q26, .int 0, .ref q27, .ref q28, .ref q29, .ref q2, .ref q30, .int 0, .ref q31, .ref q32, .ref q33, .ref q34, .int 0, .ref q35, .ref q36, .ref q37, .ref q38, .int 0, .int 0, .ref q39, .ref q40, .ref q41, .ref q42])), (q1, .inl (G.2.1, 242, .inl (fun _ => 0))), (q2, .inl (G.2.2.1, 64, .inr (.inl (fun _ => 0))))] sz 0 (fun u => [(q0, .inr (12, [.int 0, .int 0, .int 0, .int 0, .int 0, .int 0, .int 0, .int (-1), .ref q3, .ref q1, .ref q4, .int 0, .ref q5, .ref q6, .ref q7, .ref q8, .ref q9, .ref q10, .ref q11, .int 0, .ref q12, .ref q13, .ref q14, .ref q15, .ref q16, .ref q17, .ref q18, .int 0, .int (-1), .int 0, .ref q19, .ref q20, .ref q21, .ref q22, .ref q23, .ref q24, .ref q25, .ref q26, .int 0, .ref q27, .ref q28, .ref q29, .ref q2, .ref q30, .int 0, .ref q31, .ref q32, .ref q33, .ref q34, .int 0, .ref q35, .ref q36, .ref q37, .ref q38, .int 0, .int 0, .ref q39, .ref q40, .ref q41, .ref q42])), (q1, .inl (G.2.1, 242, .inl (fun _ => 0))), (q2, .inl (G.2.2.1, 64, .inr (.inl (fun _ => 0))))]) := by
  refine Ki.of b0 (own := RX12) (nm := "base") [(0, .ref q0), (1, .int x0)] rfl rfl (by decide +kernel) (Nat.le_of_ble_eq_true rfl) rfl ?_
  intro p e s m below meth c A C hr H locs w ls hl
  have hx := C.hx
  have hb := C.hb
  refine lv_aload_n hx hb dX12_base_0 rfl (lv_at hl 0 rfl) ?_
  refine lv_iconst (v := 0) hx hb dX12_base_1 (by decide) ?_
  refine r_put C w 0 rfl fl_X12_1 (Nat.le_of_ble_eq_true rfl) rfl rfl dX12_base_2 (ws2 := [(q0, .inr (12, [.int 0, .int 0, .int 0, .int 0, .int 0, .int 0, .int 0, .int (-1), .ref q3, .ref q1, .ref q4, .int 0, .ref q5, .ref q6, .ref q7, .ref q8, .ref q9, .ref q10, .ref q11, .int 0, .ref q12, .ref q13, .ref q14, .ref q15, .ref q16, .ref q17, .ref q18, .int 0, .int (-1), .int 0, .ref q19, .ref q20, .ref q21, .ref q22, .ref q23, .ref q24, .ref q25, .ref q26, .int 0, .ref q27, .ref q28, .ref q29, .ref q2, .ref q30, .int 0, .ref q31, .ref q32, .ref q33, .ref q34, .int 0, .ref q35, .ref q36, .ref q37, .ref q38, .int 0, .int 0, .ref q39, .ref q40, .ref q41, .ref q42])), (q1, .inl (G.2.1, 242, .inl (fun _ => 0))), (q2, .inl (G.2.2.1, 64, .inr (.inl (fun _ => 0))))]) rfl (fun H locs w => ?_)
  refine lv_aload_n hx hb dX12_base_5 rfl (lv_at hl 0 rfl) ?_
  refine lv_iload_n hx hb dX12_base_6 rfl (lv_at hl 1 rfl) ?_
  refine lv_iconst (v := 0) hx hb dX12_base_7 (by decide) ?_
  refine lv_iconst (v := 1) hx hb dX12_base_8 (by decide) ?_
  refine fin_i C w (run_S C w ms_X12_289 (k55_within C.b0 x0 h0 h1 H.size) [] rfl rfl (by decide) rfl hl.1 rfl (Nat.le_of_ble_eq_true rfl) dX12_base_9 (cells2 := 0) (slots2 := 0) (by decide)) [] [0, 1, 2] rfl rfl (by decide) (cells2 := 0) (slots2 := 0) (by decide) (fun u1 H locs w => ?_)
  have w : Wd s G A [(q0, .inr (12, [.int 0, .int 0, .int 0, .int 0, .int 0, .int 0, .int 0, .int (-1), .ref q3, .ref q1, .ref q4, .int 0, .ref q5, .ref q6, .ref q7, .ref q8, .ref q9, .ref q10, .ref q11, .int 0, .ref q12, .ref q13, .ref q14, .ref q15, .ref q16, .ref q17, .ref q18, .int 0, .int (-1), .int 0, .ref q19, .ref q20, .ref q21, .ref q22, .ref q23, .ref q24, .ref q25, .ref q26, .int 0, .ref q27, .ref q28, .ref q29, .ref q2, .ref q30, .int 0, .ref q31, .ref q32, .ref q33, .ref q34, .int 0, .ref q35, .ref q36, .ref q37, .ref q38, .int 0, .int 0, .ref q39, .ref q40, .ref q41, .ref q42])), (q1, .inl (G.2.1, 242, .inl (fun _ => 0))), (q2, .inl (G.2.2.1, 64, .inr (.inl (fun _ => 0))))] H locs := w
  refine lv_iconst (v := 1) hx hb dX12_base_12 (by decide) ?_
  refine fin_i C w (run_V C w mv_X12_267 (k32_may C.b0 q0 q3 q1 q4 q5 q6 q7 q8 q9 q10 q11 q12 q13 q14 q15 q16 q17 q18 q19 q20 q21 q22 q23 q24 q25 q26 q27 q28 q29 q2 q30 q31 q32 q33 q34 q35 q36 q37 q38 q39 q40 q41 q42 H.size) [0] rfl rfl 0 rfl rfl (by decide) rfl hl.1 rfl (Nat.le_of_ble_eq_true rfl) dX12_base_13 (cells2 := 0) (slots2 := 0) (by decide)) [0] [1, 2] rfl rfl (by decide) (cells2 := 0) (slots2 := 0) (by decide) (fun u2 H locs w => ?_)
  have w : Wd s G A [(q1, .inl (G.2.1, 242, .inl (fun _ => 0))), (q2, .inl (G.2.2.1, 64, .inr (.inl (fun _ => 0)))), (q0, .inr (12, [.int 0, .int 0, .int 0, .int 0, .int 0, .int 0, .int 0, .int (-1), .ref q3, .ref q1, .ref q4, .int 0, .ref q5, .ref q6, .ref q7, .ref q8, .ref q9, .ref q10, .ref q11, .int 0, .ref q12, .ref q13, .ref q14, .ref q15, .ref q16, .ref q17, .ref q18, .int 0, .int (-1), .int 0, .ref q19, .ref q20, .ref q21, .ref q22, .ref q23, .ref q24, .ref q25, .ref q26, .int 0, .ref q27, .ref q28, .ref q29, .ref q2, .ref q30, .int 0, .ref q31, .ref q32, .ref q33, .ref q34, .int 0, .ref q35, .ref q36, .ref q37, .ref q38, .int 0, .int 0, .ref q39, .ref q40, .ref q41, .ref q42]))] H locs := w
  refine lv_if_ne (tgt := 21) hx hb dX12_base_16 (by decide) (fun _ => ?_) (fun h => h.elim (by decide))
  refine lv_aload_n hx hb dX12_base_21 rfl (lv_at hl 0 rfl) ?_
  refine lv_iload_n hx hb dX12_base_22 rfl (lv_at hl 1 rfl) ?_
  refine fin_v C w (run_V C w mv_X12_389 (k391_bases C.b0 q0 q1 q2 q3 q4 q5 q6 q7 q8 q9 q10 q11 q12 q13 q14 q15 q16 q17 q18 q19 q20 q21 q22 q23 q24 q25 q26 q27 q28 q29 q30 q31 q32 q33 q34 q35 q36 q37 q38 q39 q40 q41 q42 x0 h1 H.size) [2, 0, 1] rfl rfl 2 rfl rfl (by decide) rfl hl.1 rfl (Nat.le_of_ble_eq_true rfl) dX12_base_23 (cells2 := 0) (slots2 := 0) (by decide)) [2, 0, 1] [] rfl rfl (by decide) (cells2 := 0) (slots2 := 0) (by decide) (fun u3 H locs w => ?_)
  have w : Wd s G A [(q0, .inr (12, [.int 0, .int 0, .int 0, .int 0, .int 0, .int 0, .int 0, .int (-1), .ref q3, .ref q1, .ref q4, .int 0, .ref q5, .ref q6, .ref q7, .ref q8, .ref q9, .ref q10, .ref q11, .int 0, .ref q12, .ref q13, .ref q14, .ref q15, .ref q16, .ref q17, .ref q18, .int 0, .int (-1), .int 0, .ref q19, .ref q20, .ref q21, .ref q22, .ref q23, .ref q24, .ref q25, .ref q26, .int 0, .ref q27, .ref q28, .ref q29, .ref q2, .ref q30, .int 0, .ref q31, .ref q32, .ref q33, .ref q34, .int 0, .ref q35, .ref q36, .ref q37, .ref q38, .int 0, .int 0, .ref q39, .ref q40, .ref q41, .ref q42])), (q1, .inl (G.2.1, 242, .inl (fun _ => 0))), (q2, .inl (G.2.2.1, 64, .inr (.inl (fun _ => 0))))] H locs := w
  refine lv_aload_n hx hb dX12_base_26 rfl (lv_at hl 0 rfl) ?_
  refine r_get C w 0 rfl fr_X12_386 rfl dX12_base_27 ?_
  exact e_i C hr w (fun _ => 0) [0, 1, 2] rfl rfl rfl dX12_base_30 (by decide) (by decide)
set_option maxRecDepth 100000 in
set_option maxHeartbeats 4000000 in
theorem k393_kept {l : Launch} {s0 : State} {a0 : Array Value} {G : GT} (b0 : B0 l s0 a0 G) (q0 q1 q2 q3 q4 q5 q6 q7 q8 q9 q10 q11 q12 q13 q14 q15 q16 q17 q18 q19 q20 q21 q22 q23 q24 : Nat) (x0 : Int32) (x1 : Int32) (sz : Nat) : Kx l s0 G yX11_kept cX11_kept 3 (some .long) { frames := 7, cells := 1, slots := 6, locals := 111 } [.ref q0, .int x0, .int x1] [(q0, .inr (11, [.ref q2, .ref q3, .ref q4, .ref q5, .ref q6, .ref q7, .ref q8, .ref q9, .ref q1, .ref q10, .int 0, .int (-1), .int 0, .int 0, .null, .null, .null, .null, .null])), (q1, .inr (2, [.int 0, .int 0, .ref q11, .ref q12, .ref q13, .ref q14, .ref q15, .ref q16, .ref q17, .ref q18, .ref q19, .ref q20, .ref q21, .ref q22, .ref q23, .ref q24, .int 0]))] sz "java/lang/IndexOutOfBoundsException" := by
  refine Kx.of b0 (own := RX11) (nm := "kept") [(0, .ref q0), (1, .int x0), (2, .int x1)] rfl rfl (by decide +kernel) (Nat.le_of_ble_eq_true rfl) rfl ?_
  intro p e s m below meth c A C ht H locs w ls hl
  have hx := C.hx
  have hb := C.hb
  refine lv_aload_n hx hb dX11_kept_0 rfl (lv_at hl 0 rfl) ?_
  refine lv_iload_n hx hb dX11_kept_1 rfl (lv_at hl 2 rfl) ?_
  refine fin_x C w (run_Vx C w mv_X11_107 (k69_needPlace C.b0 q0 q1 q2 q3 q4 q5 q6 q7 q8 q9 q10 q11 q12 q13 q14 q15 q16 q17 q18 q19 q20 q21 q22 q23 q24 x1 H.size) [0, 1] rfl rfl 0 rfl rfl (by decide) rfl hl.1 rfl (Nat.le_of_ble_eq_true rfl) dX11_kept_2 (cells2 := 1) (slots2 := 6) (by decide)) [0, 1] [] rfl rfl (by decide) (cells2 := 1) (slots2 := 6) (by decide) (fun qx2 ce H locs w hce hcv hcl => ?_)
  have w : Wd s G A [(q0, .inr (11, [.ref q2, .ref q3, .ref q4, .ref q5, .ref q6, .ref q7, .ref q8, .ref q9, .ref q1, .ref q10, .int 0, .int (-1), .int 0, .int 0, .null, .null, .null, .null, .null])), (q1, .inr (2, [.int 0, .int 0, .ref q11, .ref q12, .ref q13, .ref q14, .ref q15, .ref q16, .ref q17, .ref q18, .ref q19, .ref q20, .ref q21, .ref q22, .ref q23, .ref q24, .int 0]))] H locs := w
  exact r_out C ht w [0, 1] rfl rfl hce hcv hcl (by decide) (by decide)
set_option maxRecDepth 100000 in
set_option maxHeartbeats 4000000 in
theorem k394_kept {l : Launch} {s0 : State} {a0 : Array Value} {G : GT} (b0 : B0 l s0 a0 G) (q0 q1 q2 q3 q4 q5 q6 q7 q8 q9 q10 q11 q12 q13 q14 q15 q16 q17 q18 q19 q20 q21 q22 q23 q24 q25 : Nat) (x0 : Int32) (x1 : Int32) (sz : Nat) : Kh l s0 G yL_kept cL_kept 5 (some .int) [(0, 9, 12, 24), (0, 9, 16, 13)] { frames := 8, cells := 1, slots := 6, locals := 133 } [.ref q0, .int x0, .int x1, .ref q2] [(q0, .inr (11, [.ref q3, .ref q4, .ref q5, .ref q6, .ref q7, .ref q8, .ref q9, .ref q10, .ref q1, .ref q11, .int 0, .int (-1), .int 0, .int 0, .null, .null, .null, .null, .null])), (q1, .inr (2, [.int 0, .int 0, .ref q12, .ref q13, .ref q14, .ref q15, .ref q16, .ref q17, .ref q18, .ref q19, .ref q20, .ref q21, .ref q22, .ref q23, .ref q24, .ref q25, .int 0]))] sz 1 (fun u => [(q0, .inr (11, [.ref q3, .ref q4, .ref q5, .ref q6, .ref q7, .ref q8, .ref q9, .ref q10, .ref q1, .ref q11, .int 0, .int (-1), .int 0, .int 0, .null, .null, .null, .null, .null])), (q1, .inr (2, [.int 0, .int 0, .ref q12, .ref q13, .ref q14, .ref q15, .ref q16, .ref q17, .ref q18, .ref q19, .ref q20, .ref q21, .ref q22, .ref q23, .ref q24, .ref q25, .int 0]))]) := by
  refine Kh.of b0 (own := RL) (nm := "kept") [(0, .ref q0), (1, .int x0), (2, .int x1), (3, .ref q2)] rfl rfl (by decide +kernel) (Nat.le_of_ble_eq_true rfl) rfl ?_
  intro p e s m below meth c A C hr ht H locs w ls hl
  have hx := C.hx
  have hb := C.hb
  refine lv_aload_n hx hb dL_kept_0 rfl (lv_at hl 3 rfl) ?_
  refine lv_iconst (v := 0) hx hb dL_kept_1 (by decide) ?_
  refine lv_aload_n hx hb dL_kept_2 rfl (lv_at hl 0 rfl) ?_
  refine lv_iload_n hx hb dL_kept_3 rfl (lv_at hl 1 rfl) ?_
  refine lv_iload_n hx hb dL_kept_4 rfl (lv_at hl 2 rfl) ?_
  refine fin_x C w (run_Vx C w mv_L_84 (k393_kept C.b0 q0 q1 q3 q4 q5 q6 q7 q8 q9 q10 q11 q12 q13 q14 q15 q16 q17 q18 q19 q20 q21 q22 q23 q24 q25 x0 x1 H.size) [0, 1] rfl rfl 0 rfl rfl (by decide) rfl hl.1 rfl (Nat.le_of_ble_eq_true rfl) dL_kept_5 (cells2 := 1) (slots2 := 6) (by decide)) [0, 1] [] rfl rfl (by decide) (cells2 := 1) (slots2 := 6) (by decide) (fun qx2 ce H locs w hce hcv hcl => ?_)
  have w : Wd s G A [(q0, .inr (11, [.ref q3, .ref q4, .ref q5, .ref q6, .ref q7, .ref q8, .ref q9, .ref q10, .ref q1, .ref q11, .int 0, .int (-1), .int 0, .int 0, .null, .null, .null, .null, .null])), (q1, .inr (2, [.int 0, .int 0, .ref q12, .ref q13, .ref q14, .ref q15, .ref q16, .ref q17, .ref q18, .ref q19, .ref q20, .ref q21, .ref q22, .ref q23, .ref q24, .ref q25, .int 0]))] H locs := w
  refine r_catch C ht (by decide) (by decide) tl_L_24 tk_java_lang_IndexOutOfBoundsException hce hcv hcl ?_
  refine lv_astore (lv' := [(4, .ref qx2), (0, .ref q0), (1, .int x0), (2, .int x1), (3, .ref q2)]) hx hb dL_kept_12 hl (by decide) rfl (fun ls hl => ?_)
  refine lv_iconst (v := 1) hx hb dL_kept_14 (by decide) ?_
  exact e_i C hr w (fun _ => 0) [0, 1] rfl rfl rfl dL_kept_15 (by decide) (by decide)
set_option maxRecDepth 100000 in
set_option maxHeartbeats 4000000 in
theorem k395_kept {l : Launch} {s0 : State} {a0 : Array Value} {G : GT} (b0 : B0 l s0 a0 G) (q0 q1 q2 q3 q4 q5 q6 q7 q8 q9 q10 q11 q12 q13 q14 q15 q16 q17 q18 q19 q20 q21 q22 q23 q24 q25 q26 q27 q28 q29 q30 q31 q32 q33 q34 q35 q36 q37 q38 q39 q40 q41 q42 : Nat) (x0 : Int32) (x1 : Int32) (sz : Nat) : Kl l s0 G yX12_kept cX12_kept 3 (some .long) { frames := 2, cells := 0, slots := 0, locals := 44 } [.ref q0, .int x0, .int x1] [(q0, .inr (12, [.int 0, .int 0, .int 0, .int 0, .int 0, .int 0, .int 0, .int (-1), .ref q2, .ref q1, .ref q3, .int 0, .ref q4, .ref q5, .ref q6, .ref q7, .ref q8, .ref q9, .ref q10, .int 0, .ref q11, .ref q12, .ref q13, .ref q14, .ref q15, .ref q16, .ref q17, .int 0, .int (-1), .int 0, .ref q18, .ref q19, .ref q20, .ref q21, .ref q22, .ref q23, .ref q24, .ref q25, .int 0, .ref q26, .ref q27, .ref q28, .ref q29, .ref q30, .int 0, .ref q31, .ref q32, .ref q33, .ref q34, .int 0, .ref q35, .ref q36, .ref q37, .ref q38, .int 0, .int 0, .ref q39, .ref q40, .ref q41, .ref q42])), (q1, .inl (G.2.1, 242, .inl (fun _ => 0)))] sz 0 (fun u => [(q0, .inr (12, [.int 1, .int 0, .int 0, .int 0, .int 0, .int 0, .int 0, .int (-1), .ref q2, .ref q1, .ref q3, .int 0, .ref q4, .ref q5, .ref q6, .ref q7, .ref q8, .ref q9, .ref q10, .int 0, .ref q11, .ref q12, .ref q13, .ref q14, .ref q15, .ref q16, .ref q17, .int 0, .int (-1), .int 0, .ref q18, .ref q19, .ref q20, .ref q21, .ref q22, .ref q23, .ref q24, .ref q25, .int 0, .ref q26, .ref q27, .ref q28, .ref q29, .ref q30, .int 0, .ref q31, .ref q32, .ref q33, .ref q34, .int 0, .ref q35, .ref q36, .ref q37, .ref q38, .int 0, .int 0, .ref q39, .ref q40, .ref q41, .ref q42])), (q1, .inl (G.2.1, 242, .inl (fun _ => 0)))]) := by
  refine Kl.of b0 (own := RX12) (nm := "kept") [(0, .ref q0), (1, .int x0), (2, .int x1)] rfl rfl (by decide +kernel) (Nat.le_of_ble_eq_true rfl) rfl ?_
  intro p e s m below meth c A C hr H locs w ls hl
  have hx := C.hx
  have hb := C.hb
  refine lv_aload_n hx hb dX12_kept_0 rfl (lv_at hl 0 rfl) ?_
  refine lv_iconst (v := 0) hx hb dX12_kept_1 (by decide) ?_
  refine r_put C w 0 rfl fl_X12_1 (Nat.le_of_ble_eq_true rfl) rfl rfl dX12_kept_2 (ws2 := [(q0, .inr (12, [.int 0, .int 0, .int 0, .int 0, .int 0, .int 0, .int 0, .int (-1), .ref q2, .ref q1, .ref q3, .int 0, .ref q4, .ref q5, .ref q6, .ref q7, .ref q8, .ref q9, .ref q10, .int 0, .ref q11, .ref q12, .ref q13, .ref q14, .ref q15, .ref q16, .ref q17, .int 0, .int (-1), .int 0, .ref q18, .ref q19, .ref q20, .ref q21, .ref q22, .ref q23, .ref q24, .ref q25, .int 0, .ref q26, .ref q27, .ref q28, .ref q29, .ref q30, .int 0, .ref q31, .ref q32, .ref q33, .ref q34, .int 0, .ref q35, .ref q36, .ref q37, .ref q38, .int 0, .int 0, .ref q39, .ref q40, .ref q41, .ref q42])), (q1, .inl (G.2.1, 242, .inl (fun _ => 0)))]) rfl (fun H locs w => ?_)
  refine lv_aload_n hx hb dX12_kept_5 rfl (lv_at hl 0 rfl) ?_
  refine lv_iload_n hx hb dX12_kept_6 rfl (lv_at hl 2 rfl) ?_
  refine lv_iconst (v := 1) hx hb dX12_kept_7 (by decide) ?_
  refine fin_i C w (run_V C w mv_X12_297 (k72_isPlace C.b0 q0 q1 q2 q3 q4 q5 q6 q7 q8 q9 q10 q11 q12 q13 q14 q15 q16 q17 q18 q19 q20 q21 q22 q23 q24 q25 q26 q27 q28 q29 q30 q31 q32 q33 q34 q35 q36 q37 q38 q39 q40 q41 q42 x1 H.size) [0, 1] rfl rfl 0 rfl rfl (by decide) rfl hl.1 rfl (Nat.le_of_ble_eq_true rfl) dX12_kept_8 (cells2 := 0) (slots2 := 0) (by decide)) [0, 1] [] rfl rfl (by decide) (cells2 := 0) (slots2 := 0) (by decide) (fun u1 H locs w => ?_)
  have w : Wd s G A [(q0, .inr (12, [.int 1, .int 0, .int 0, .int 0, .int 0, .int 0, .int 0, .int (-1), .ref q2, .ref q1, .ref q3, .int 0, .ref q4, .ref q5, .ref q6, .ref q7, .ref q8, .ref q9, .ref q10, .int 0, .ref q11, .ref q12, .ref q13, .ref q14, .ref q15, .ref q16, .ref q17, .int 0, .int (-1), .int 0, .ref q18, .ref q19, .ref q20, .ref q21, .ref q22, .ref q23, .ref q24, .ref q25, .int 0, .ref q26, .ref q27, .ref q28, .ref q29, .ref q30, .int 0, .ref q31, .ref q32, .ref q33, .ref q34, .int 0, .ref q35, .ref q36, .ref q37, .ref q38, .int 0, .int 0, .ref q39, .ref q40, .ref q41, .ref q42])), (q1, .inl (G.2.1, 242, .inl (fun _ => 0)))] H locs := w
  refine lv_if_ne (tgt := 16) hx hb dX12_kept_11 (by decide) (fun h => absurd (by decide) h) (fun _ => ?_)
  refine lv_lconst (v := 0) hx hb dX12_kept_14 (by decide) ?_
  exact e_l C hr w (fun _ => 0) [0, 1] rfl rfl dX12_kept_15 (by decide) (by decide)
set_option maxRecDepth 100000 in
set_option maxHeartbeats 4000000 in
theorem k396_round {l : Launch} {s0 : State} {a0 : Array Value} {G : GT} (b0 : B0 l s0 a0 G) (q0 q1 q2 q3 q4 q5 q6 q7 q8 q9 q10 q11 q12 q13 q14 q15 q16 q17 q18 q19 q20 q21 q22 q23 q24 : Nat) (x0 : Int32) (x1 : Int32) (sz : Nat) : Kx l s0 G yX11_round cX11_round 3 (some .long) { frames := 7, cells := 1, slots := 6, locals := 111 } [.ref q0, .int x0, .int x1] [(q0, .inr (11, [.ref q2, .ref q3, .ref q4, .ref q5, .ref q6, .ref q7, .ref q8, .ref q9, .ref q1, .ref q10, .int 0, .int (-1), .int 0, .int 0, .null, .null, .null, .null, .null])), (q1, .inr (2, [.int 0, .int 0, .ref q11, .ref q12, .ref q13, .ref q14, .ref q15, .ref q16, .ref q17, .ref q18, .ref q19, .ref q20, .ref q21, .ref q22, .ref q23, .ref q24, .int 0]))] sz "java/util/NoSuchElementException" := by
  refine Kx.of b0 (own := RX11) (nm := "round") [(0, .ref q0), (1, .int x0), (2, .int x1)] rfl rfl (by decide +kernel) (Nat.le_of_ble_eq_true rfl) rfl ?_
  intro p e s m below meth c A C ht H locs w ls hl
  have hx := C.hx
  have hb := C.hb
  refine lv_aload_n hx hb dX11_round_0 rfl (lv_at hl 0 rfl) ?_
  refine lv_iload_n hx hb dX11_round_1 rfl (lv_at hl 2 rfl) ?_
  refine fin_x C w (run_Vx C w mv_X11_104 (k60_needAct C.b0 q0 q1 q2 q3 q4 q5 q6 q7 q8 q9 q10 q11 q12 q13 q14 q15 q16 q17 q18 q19 q20 q21 q22 q23 q24 x1 H.size) [0, 1] rfl rfl 0 rfl rfl (by decide) rfl hl.1 rfl (Nat.le_of_ble_eq_true rfl) dX11_round_2 (cells2 := 1) (slots2 := 6) (by decide)) [0, 1] [] rfl rfl (by decide) (cells2 := 1) (slots2 := 6) (by decide) (fun qx2 ce H locs w hce hcv hcl => ?_)
  have w : Wd s G A [(q0, .inr (11, [.ref q2, .ref q3, .ref q4, .ref q5, .ref q6, .ref q7, .ref q8, .ref q9, .ref q1, .ref q10, .int 0, .int (-1), .int 0, .int 0, .null, .null, .null, .null, .null])), (q1, .inr (2, [.int 0, .int 0, .ref q11, .ref q12, .ref q13, .ref q14, .ref q15, .ref q16, .ref q17, .ref q18, .ref q19, .ref q20, .ref q21, .ref q22, .ref q23, .ref q24, .int 0]))] H locs := w
  exact r_out C ht w [0, 1] rfl rfl hce hcv hcl (by decide) (by decide)
set_option maxRecDepth 100000 in
set_option maxHeartbeats 4000000 in
theorem k397_round {l : Launch} {s0 : State} {a0 : Array Value} {G : GT} (b0 : B0 l s0 a0 G) (q0 q1 q2 q3 q4 q5 q6 q7 q8 q9 q10 q11 q12 q13 q14 q15 q16 q17 q18 q19 q20 q21 q22 q23 q24 q25 : Nat) (x0 : Int32) (x1 : Int32) (sz : Nat) : Kh l s0 G yL_round cL_round 5 (some .int) [(0, 9, 12, 22), (0, 9, 16, 13)] { frames := 8, cells := 1, slots := 6, locals := 133 } [.ref q0, .int x0, .int x1, .ref q2] [(q0, .inr (11, [.ref q3, .ref q4, .ref q5, .ref q6, .ref q7, .ref q8, .ref q9, .ref q10, .ref q1, .ref q11, .int 0, .int (-1), .int 0, .int 0, .null, .null, .null, .null, .null])), (q1, .inr (2, [.int 0, .int 0, .ref q12, .ref q13, .ref q14, .ref q15, .ref q16, .ref q17, .ref q18, .ref q19, .ref q20, .ref q21, .ref q22, .ref q23, .ref q24, .ref q25, .int 0]))] sz 1 (fun u => [(q0, .inr (11, [.ref q3, .ref q4, .ref q5, .ref q6, .ref q7, .ref q8, .ref q9, .ref q10, .ref q1, .ref q11, .int 0, .int (-1), .int 0, .int 0, .null, .null, .null, .null, .null])), (q1, .inr (2, [.int 0, .int 0, .ref q12, .ref q13, .ref q14, .ref q15, .ref q16, .ref q17, .ref q18, .ref q19, .ref q20, .ref q21, .ref q22, .ref q23, .ref q24, .ref q25, .int 0]))]) := by
  refine Kh.of b0 (own := RL) (nm := "round") [(0, .ref q0), (1, .int x0), (2, .int x1), (3, .ref q2)] rfl rfl (by decide +kernel) (Nat.le_of_ble_eq_true rfl) rfl ?_
  intro p e s m below meth c A C hr ht H locs w ls hl
  have hx := C.hx
  have hb := C.hb
  refine lv_aload_n hx hb dL_round_0 rfl (lv_at hl 3 rfl) ?_
  refine lv_iconst (v := 0) hx hb dL_round_1 (by decide) ?_
  refine lv_aload_n hx hb dL_round_2 rfl (lv_at hl 0 rfl) ?_
  refine lv_iload_n hx hb dL_round_3 rfl (lv_at hl 1 rfl) ?_
  refine lv_iload_n hx hb dL_round_4 rfl (lv_at hl 2 rfl) ?_
  refine fin_x C w (run_Vx C w mv_L_87 (k396_round C.b0 q0 q1 q3 q4 q5 q6 q7 q8 q9 q10 q11 q12 q13 q14 q15 q16 q17 q18 q19 q20 q21 q22 q23 q24 q25 x0 x1 H.size) [0, 1] rfl rfl 0 rfl rfl (by decide) rfl hl.1 rfl (Nat.le_of_ble_eq_true rfl) dL_round_5 (cells2 := 1) (slots2 := 6) (by decide)) [0, 1] [] rfl rfl (by decide) (cells2 := 1) (slots2 := 6) (by decide) (fun qx2 ce H locs w hce hcv hcl => ?_)
  have w : Wd s G A [(q0, .inr (11, [.ref q3, .ref q4, .ref q5, .ref q6, .ref q7, .ref q8, .ref q9, .ref q10, .ref q1, .ref q11, .int 0, .int (-1), .int 0, .int 0, .null, .null, .null, .null, .null])), (q1, .inr (2, [.int 0, .int 0, .ref q12, .ref q13, .ref q14, .ref q15, .ref q16, .ref q17, .ref q18, .ref q19, .ref q20, .ref q21, .ref q22, .ref q23, .ref q24, .ref q25, .int 0]))] H locs := w
  refine r_catch C ht (by decide) (by decide) tl_L_22 tk_java_util_NoSuchElementException hce hcv hcl ?_
  refine lv_astore (lv' := [(4, .ref qx2), (0, .ref q0), (1, .int x0), (2, .int x1), (3, .ref q2)]) hx hb dL_round_12 hl (by decide) rfl (fun ls hl => ?_)
  refine lv_iconst (v := 1) hx hb dL_round_14 (by decide) ?_
  exact e_i C hr w (fun _ => 0) [0, 1] rfl rfl rfl dL_round_15 (by decide) (by decide)
set_option maxRecDepth 100000 in
set_option maxHeartbeats 4000000 in
theorem k398_round {l : Launch} {s0 : State} {a0 : Array Value} {G : GT} (b0 : B0 l s0 a0 G) (q0 q1 q2 q3 q4 q5 q6 q7 q8 q9 q10 q11 q12 q13 q14 q15 q16 q17 q18 q19 q20 q21 q22 q23 q24 q25 q26 q27 q28 q29 q30 q31 q32 q33 q34 q35 q36 q37 q38 q39 q40 q41 q42 : Nat) (x0 : Int32) (x1 : Int32) (sz : Nat) : Kl l s0 G yX12_round cX12_round 3 (some .long) { frames := 2, cells := 0, slots := 0, locals := 44 } [.ref q0, .int x0, .int x1] [(q0, .inr (12, [.int 0, .int 0, .int 0, .int 0, .int 0, .int 0, .int 0, .int (-1), .ref q2, .ref q1, .ref q3, .int 0, .ref q4, .ref q5, .ref q6, .ref q7, .ref q8, .ref q9, .ref q10, .int 0, .ref q11, .ref q12, .ref q13, .ref q14, .ref q15, .ref q16, .ref q17, .int 0, .int (-1), .int 0, .ref q18, .ref q19, .ref q20, .ref q21, .ref q22, .ref q23, .ref q24, .ref q25, .int 0, .ref q26, .ref q27, .ref q28, .ref q29, .ref q30, .int 0, .ref q31, .ref q32, .ref q33, .ref q34, .int 0, .ref q35, .ref q36, .ref q37, .ref q38, .int 0, .int 0, .ref q39, .ref q40, .ref q41, .ref q42])), (q1, .inl (G.2.1, 242, .inl (fun _ => 0)))] sz 0 (fun u => [(q0, .inr (12, [.int 1, .int 0, .int 0, .int 0, .int 0, .int 0, .int 0, .int (-1), .ref q2, .ref q1, .ref q3, .int 0, .ref q4, .ref q5, .ref q6, .ref q7, .ref q8, .ref q9, .ref q10, .int 0, .ref q11, .ref q12, .ref q13, .ref q14, .ref q15, .ref q16, .ref q17, .int 0, .int (-1), .int 0, .ref q18, .ref q19, .ref q20, .ref q21, .ref q22, .ref q23, .ref q24, .ref q25, .int 0, .ref q26, .ref q27, .ref q28, .ref q29, .ref q30, .int 0, .ref q31, .ref q32, .ref q33, .ref q34, .int 0, .ref q35, .ref q36, .ref q37, .ref q38, .int 0, .int 0, .ref q39, .ref q40, .ref q41, .ref q42])), (q1, .inl (G.2.1, 242, .inl (fun _ => 0)))]) := by
  refine Kl.of b0 (own := RX12) (nm := "round") [(0, .ref q0), (1, .int x0), (2, .int x1)] rfl rfl (by decide +kernel) (Nat.le_of_ble_eq_true rfl) rfl ?_
  intro p e s m below meth c A C hr H locs w ls hl
  have hx := C.hx
  have hb := C.hb
  refine lv_aload_n hx hb dX12_round_0 rfl (lv_at hl 0 rfl) ?_
  refine lv_iconst (v := 0) hx hb dX12_round_1 (by decide) ?_
  refine r_put C w 0 rfl fl_X12_1 (Nat.le_of_ble_eq_true rfl) rfl rfl dX12_round_2 (ws2 := [(q0, .inr (12, [.int 0, .int 0, .int 0, .int 0, .int 0, .int 0, .int 0, .int (-1), .ref q2, .ref q1, .ref q3, .int 0, .ref q4, .ref q5, .ref q6, .ref q7, .ref q8, .ref q9, .ref q10, .int 0, .ref q11, .ref q12, .ref q13, .ref q14, .ref q15, .ref q16, .ref q17, .int 0, .int (-1), .int 0, .ref q18, .ref q19, .ref q20, .ref q21, .ref q22, .ref q23, .ref q24, .ref q25, .int 0, .ref q26, .ref q27, .ref q28, .ref q29, .ref q30, .int 0, .ref q31, .ref q32, .ref q33, .ref q34, .int 0, .ref q35, .ref q36, .ref q37, .ref q38, .int 0, .int 0, .ref q39, .ref q40, .ref q41, .ref q42])), (q1, .inl (G.2.1, 242, .inl (fun _ => 0)))]) rfl (fun H locs w => ?_)
  refine lv_aload_n hx hb dX12_round_5 rfl (lv_at hl 0 rfl) ?_
  refine lv_iload_n hx hb dX12_round_6 rfl (lv_at hl 2 rfl) ?_
  refine lv_iconst (v := 1) hx hb dX12_round_7 (by decide) ?_
  refine fin_i C w (run_V C w mv_X12_293 (k64_isAct C.b0 q0 q1 q2 q3 q4 q5 q6 q7 q8 q9 q10 q11 q12 q13 q14 q15 q16 q17 q18 q19 q20 q21 q22 q23 q24 q25 q26 q27 q28 q29 q30 q31 q32 q33 q34 q35 q36 q37 q38 q39 q40 q41 q42 x1 H.size) [0, 1] rfl rfl 0 rfl rfl (by decide) rfl hl.1 rfl (Nat.le_of_ble_eq_true rfl) dX12_round_8 (cells2 := 0) (slots2 := 0) (by decide)) [0, 1] [] rfl rfl (by decide) (cells2 := 0) (slots2 := 0) (by decide) (fun u1 H locs w => ?_)
  have w : Wd s G A [(q0, .inr (12, [.int 1, .int 0, .int 0, .int 0, .int 0, .int 0, .int 0, .int (-1), .ref q2, .ref q1, .ref q3, .int 0, .ref q4, .ref q5, .ref q6, .ref q7, .ref q8, .ref q9, .ref q10, .int 0, .ref q11, .ref q12, .ref q13, .ref q14, .ref q15, .ref q16, .ref q17, .int 0, .int (-1), .int 0, .ref q18, .ref q19, .ref q20, .ref q21, .ref q22, .ref q23, .ref q24, .ref q25, .int 0, .ref q26, .ref q27, .ref q28, .ref q29, .ref q30, .int 0, .ref q31, .ref q32, .ref q33, .ref q34, .int 0, .ref q35, .ref q36, .ref q37, .ref q38, .int 0, .int 0, .ref q39, .ref q40, .ref q41, .ref q42])), (q1, .inl (G.2.1, 242, .inl (fun _ => 0)))] H locs := w
  refine lv_if_ne (tgt := 16) hx hb dX12_round_11 (by decide) (fun h => absurd (by decide) h) (fun _ => ?_)
  refine lv_lconst (v := 0) hx hb dX12_round_14 (by decide) ?_
  exact e_l C hr w (fun _ => 0) [0, 1] rfl rfl dX12_round_15 (by decide) (by decide)
set_option maxRecDepth 100000 in
set_option maxHeartbeats 4000000 in
theorem k399_sameSums {l : Launch} {s0 : State} {a0 : Array Value} {G : GT} (b0 : B0 l s0 a0 G) (q0 q1 q2 q3 q4 q5 : Nat) (sz : Nat) : Ki l s0 G yX0_sameSums cX0_sameSums 7 (some .boolean) { frames := 0, cells := 0, slots := 0, locals := 0 } [.ref q0, .ref q1, .ref q2] [(q0, .inr (0, [.ref q3, .int 0, .ref q4, .ref q5, .int 0, .int 0]))] sz 1 (fun u => [(q0, .inr (0, [.ref q3, .int 0, .ref q4, .ref q5, .int 0, .int 0]))]) := by
  refine Ki.of b0 (own := RX0) (nm := "sameSums") [(0, .ref q0), (1, .ref q1), (2, .ref q2)] rfl rfl (by decide +kernel) (Nat.le_of_ble_eq_true rfl) rfl ?_
  intro p e s m below meth c A C hr H locs w ls hl
  have hx := C.hx
  have hb := C.hb
  refine lv_iconst (v := 0) hx hb dX0_sameSums_0 (by decide) ?_
  refine lv_istore_n (lv' := [(3, .int 0), (0, .ref q0), (1, .ref q1), (2, .ref q2)]) hx hb dX0_sameSums_1 rfl hl (by decide) rfl (fun ls hl => ?_)
  refine lv_iload_n hx hb dX0_sameSums_2 rfl (lv_at hl 0 rfl) ?_
  refine lv_aload_n hx hb dX0_sameSums_3 rfl (lv_at hl 1 rfl) ?_
  refine r_get C w 0 rfl fr_X0_46 rfl dX0_sameSums_4 ?_
  refine lv_icmp_ge (tgt := 74) hx hb dX0_sameSums_7 (by decide) (fun _ => ?_) (fun h => absurd (by decide) h)
  refine lv_iconst (v := 1) hx hb dX0_sameSums_74 (by decide) ?_
  exact e_i C hr w (fun _ => 0) [0] rfl rfl (by decide) dX0_sameSums_75 (by decide) (by decide)
set_option maxRecDepth 100000 in
set_option maxHeartbeats 4000000 in
theorem k400_never {l : Launch} {s0 : State} {a0 : Array Value} {G : GT} (b0 : B0 l s0 a0 G) (q0 q1 q2 q3 q4 q5 q6 q7 q8 q9 q10 q11 q12 q13 q14 q15 q16 : Nat) (sz : Nat) : Ki l s0 G yX11_never cX11_never 1 (some .boolean) { frames := 1, cells := 0, slots := 0, locals := 26 } [.ref q0] [(q0, .inr (11, [.ref q3, .ref q4, .ref q1, .ref q5, .ref q2, .ref q6, .ref q7, .ref q8, .ref q9, .ref q10, .int 0, .int (-1), .int 0, .int 0, .null, .null, .null, .null, .null])), (q1, .inr (5, [.ref q11, .ref q12, .ref q13, .int 0])), (q2, .inr (0, [.ref q14, .int 0, .ref q15, .ref q16, .int 0, .int 0]))] sz 0 (fun u => [(q0, .inr (11, [.ref q3, .ref q4, .ref q1, .ref q5, .ref q2, .ref q6, .ref q7, .ref q8, .ref q9, .ref q10, .int 0, .int (-1), .int 0, .int 0, .null, .null, .null, .null, .null])), (q1, .inr (5, [.ref q11, .ref q12, .ref q13, .int 0])), (q2, .inr (0, [.ref q14, .int 0, .ref q15, .ref q16, .int 0, .int 0]))]) := by
  refine Ki.of b0 (own := RX11) (nm := "never") [(0, .ref q0)] rfl rfl (by decide +kernel) (Nat.le_of_ble_eq_true rfl) rfl ?_
  intro p e s m below meth c A C hr H locs w ls hl
  have hx := C.hx
  have hb := C.hb
  refine lv_aload_n hx hb dX11_never_0 rfl (lv_at hl 0 rfl) ?_
  refine r_get C w 0 rfl fr_X11_34 rfl dX11_never_1 ?_
  refine lv_aload_n hx hb dX11_never_4 rfl (lv_at hl 0 rfl) ?_
  refine r_get C w 0 rfl fr_X11_23 rfl dX11_never_5 ?_
  refine r_get C w 1 rfl fr_X11_129 rfl dX11_never_8 ?_
  refine lv_aload_n hx hb dX11_never_11 rfl (lv_at hl 0 rfl) ?_
  refine r_get C w 0 rfl fr_X11_23 rfl dX11_never_12 ?_
  refine r_get C w 1 rfl fr_X11_202 rfl dX11_never_15 ?_
  refine fin_i C w (run_V C w mv_X11_235 (k399_sameSums C.b0 q2 q11 q12 q14 q15 q16 H.size) [2] rfl rfl 2 rfl rfl (by decide) rfl hl.1 rfl (Nat.le_of_ble_eq_true rfl) dX11_never_18 (cells2 := 0) (slots2 := 0) (by decide)) [2] [0, 1] rfl rfl (by decide) (cells2 := 0) (slots2 := 0) (by decide) (fun u1 H locs w => ?_)
  have w : Wd s G A [(q0, .inr (11, [.ref q3, .ref q4, .ref q1, .ref q5, .ref q2, .ref q6, .ref q7, .ref q8, .ref q9, .ref q10, .int 0, .int (-1), .int 0, .int 0, .null, .null, .null, .null, .null])), (q1, .inr (5, [.ref q11, .ref q12, .ref q13, .int 0])), (q2, .inr (0, [.ref q14, .int 0, .ref q15, .ref q16, .int 0, .int 0]))] H locs := w
  refine lv_if_ne (tgt := 28) hx hb dX11_never_21 (by decide) (fun _ => ?_) (fun h => h.elim (by decide))
  refine lv_iconst (v := 0) hx hb dX11_never_28 (by decide) ?_
  exact e_i C hr w (fun _ => 0) [0, 1, 2] rfl rfl (by decide) dX11_never_29 (by decide) (by decide)
set_option maxRecDepth 100000 in
set_option maxHeartbeats 4000000 in
theorem k401_bases {l : Launch} {s0 : State} {a0 : Array Value} {G : GT} (b0 : B0 l s0 a0 G) (q0 q1 q2 q3 q4 q5 q6 q7 q8 q9 q10 q11 q12 q13 q14 q15 q16 q17 q18 q19 q20 q21 q22 q23 q24 q25 q26 q27 q28 q29 q30 q31 q32 q33 q34 q35 q36 q37 q38 q39 q40 q41 q42 : Nat) (sz : Nat) : Kv l s0 G yX12_bases cX12_bases 16 none { frames := 1, cells := 0, slots := 0, locals := 35 } [.ref q0, .int 0] [(q0, .inr (12, [.int 0, .int 0, .int 0, .int 0, .int 0, .int 0, .int 0, .int (-1), .ref q3, .ref q1, .ref q4, .int 0, .ref q5, .ref q6, .ref q7, .ref q8, .ref q9, .ref q10, .ref q11, .int 0, .ref q12, .ref q13, .ref q14, .ref q15, .ref q16, .ref q17, .ref q18, .int 0, .int (-1), .int 0, .ref q19, .ref q20, .ref q21, .ref q22, .ref q23, .ref q24, .ref q25, .ref q26, .int 0, .ref q27, .ref q28, .ref q29, .ref q2, .ref q30, .int 0, .ref q31, .ref q32, .ref q33, .ref q34, .int 0, .ref q35, .ref q36, .ref q37, .ref q38, .int 0, .int 0, .ref q39, .ref q40, .ref q41, .ref q42])), (q1, .inl (G.2.1, 242, .inl (fun _ => 0))), (q2, .inl (G.2.2.1, 64, .inr (.inl (fun _ => 0))))] sz (fun u => [(q0, .inr (12, [.int 0, .int 0, .int 0, .int 0, .int 0, .int 0, .int 0, .int (-1), .ref q3, .ref q1, .ref q4, .int 0, .ref q5, .ref q6, .ref q7, .ref q8, .ref q9, .ref q10, .ref q11, .int 0, .ref q12, .ref q13, .ref q14, .ref q15, .ref q16, .ref q17, .ref q18, .int 0, .int (-1), .int 0, .ref q19, .ref q20, .ref q21, .ref q22, .ref q23, .ref q24, .ref q25, .ref q26, .int 0, .ref q27, .ref q28, .ref q29, .ref q2, .ref q30, .int 0, .ref q31, .ref q32, .ref q33, .ref q34, .int 0, .ref q35, .ref q36, .ref q37, .ref q38, .int 0, .int 0, .ref q39, .ref q40, .ref q41, .ref q42])), (q1, .inl (G.2.1, 242, .inl (fun _ => 0))), (q2, .inl (G.2.2.1, 64, .inr (.inl (fun _ => 0))))]) := by
  refine Kv.of b0 (own := RX12) (nm := "bases") [(0, .ref q0), (1, .int 0)] rfl rfl (by decide +kernel) (Nat.le_of_ble_eq_true rfl) rfl ?_
  intro p e s m below meth c A C hr H locs w ls hl
  have hx := C.hx
  have hb := C.hb
  refine lv_iload_n hx hb dX12_bases_0 rfl (lv_at hl 1 rfl) ?_
  refine lv_if_ne (tgt := 11) hx hb dX12_bases_1 (by decide) (fun h => absurd (by decide) h) (fun _ => ?_)
  refine lv_aload_n hx hb dX12_bases_4 rfl (lv_at hl 0 rfl) ?_
  refine fin_i C w (run_V C w mv_X12_280 (k57_places C.b0 q0 q1 q3 q4 q5 q6 q7 q8 q9 q10 q11 q12 q13 q14 q15 q16 q17 q18 q19 q20 q21 q22 q23 q24 q25 q26 q27 q28 q29 q2 q30 q31 q32 q33 q34 q35 q36 q37 q38 q39 q40 q41 q42 H.size) [0, 1] rfl rfl 0 rfl rfl (by decide) rfl hl.1 rfl (Nat.le_of_ble_eq_true rfl) dX12_bases_5 (cells2 := 0) (slots2 := 0) (by decide)) [0, 1] [2] rfl rfl (by decide) (cells2 := 0) (slots2 := 0) (by decide) (fun u1 H locs w => ?_)
  have w : Wd s G A [(q2, .inl (G.2.2.1, 64, .inr (.inl (fun _ => 0)))), (q0, .inr (12, [.int 0, .int 0, .int 0, .int 0, .int 0, .int 0, .int 0, .int (-1), .ref q3, .ref q1, .ref q4, .int 0, .ref q5, .ref q6, .ref q7, .ref q8, .ref q9, .ref q10, .ref q11, .int 0, .ref q12, .ref q13, .ref q14, .ref q15, .ref q16, .ref q17, .ref q18, .int 0, .int (-1), .int 0, .ref q19, .ref q20, .ref q21, .ref q22, .ref q23, .ref q24, .ref q25, .ref q26, .int 0, .ref q27, .ref q28, .ref q29, .ref q2, .ref q30, .int 0, .ref q31, .ref q32, .ref q33, .ref q34, .int 0, .ref q35, .ref q36, .ref q37, .ref q38, .int 0, .int 0, .ref q39, .ref q40, .ref q41, .ref q42])), (q1, .inl (G.2.1, 242, .inl (fun _ => 0)))] H locs := w
  refine lv_goto (tgt := 15) hx hb dX12_bases_8 (by decide) ?_
  refine lv_istore_n (lv' := [(2, .int 0), (0, .ref q0), (1, .int 0)]) hx hb dX12_bases_15 rfl hl (by decide) rfl (fun ls hl => ?_)
  refine lv_iload_n hx hb dX12_bases_16 rfl (lv_at hl 2 rfl) ?_
  refine lv_if_ne (tgt := 27) hx hb dX12_bases_17 (by decide) (fun h => absurd (by decide) h) (fun _ => ?_)
  refine lv_aload_n hx hb dX12_bases_20 rfl (lv_at hl 1 rfl) ?_
  refine fin_i C w (run_V C w mv_X12_286 (k56_acts C.b0 q0 q1 q3 q4 q5 q6 q7 q8 q9 q10 q11 q12 q13 q14 q15 q16 q17 q18 q19 q20 q21 q22 q23 q24 q25 q26 q27 q28 q29 q2 q30 q31 q32 q33 q34 q35 q36 q37 q38 q39 q40 q41 q42 H.size) [1, 2] rfl rfl 1 rfl rfl (by decide) rfl hl.1 rfl (Nat.le_of_ble_eq_true rfl) dX12_bases_21 (cells2 := 0) (slots2 := 0) (by decide)) [1, 2] [0] rfl rfl (by decide) (cells2 := 0) (slots2 := 0) (by decide) (fun u2 H locs w => ?_)
  have w : Wd s G A [(q2, .inl (G.2.2.1, 64, .inr (.inl (fun _ => 0)))), (q0, .inr (12, [.int 0, .int 0, .int 0, .int 0, .int 0, .int 0, .int 0, .int (-1), .ref q3, .ref q1, .ref q4, .int 0, .ref q5, .ref q6, .ref q7, .ref q8, .ref q9, .ref q10, .ref q11, .int 0, .ref q12, .ref q13, .ref q14, .ref q15, .ref q16, .ref q17, .ref q18, .int 0, .int (-1), .int 0, .ref q19, .ref q20, .ref q21, .ref q22, .ref q23, .ref q24, .ref q25, .ref q26, .int 0, .ref q27, .ref q28, .ref q29, .ref q2, .ref q30, .int 0, .ref q31, .ref q32, .ref q33, .ref q34, .int 0, .ref q35, .ref q36, .ref q37, .ref q38, .int 0, .int 0, .ref q39, .ref q40, .ref q41, .ref q42])), (q1, .inl (G.2.1, 242, .inl (fun _ => 0)))] H locs := w
  refine lv_goto (tgt := 31) hx hb dX12_bases_24 (by decide) ?_
  refine lv_istore_n (lv' := [(3, .int 0), (2, .int 0), (0, .ref q0), (1, .int 0)]) hx hb dX12_bases_31 rfl hl (by decide) rfl (fun ls hl => ?_)
  refine lv_iconst (v := 0) hx hb dX12_bases_32 (by decide) ?_
  refine lv_istore (lv' := [(4, .int 0), (3, .int 0), (2, .int 0), (0, .ref q0), (1, .int 0)]) hx hb dX12_bases_33 hl (by decide) rfl (fun ls hl => ?_)
  refine lv_iload hx hb dX12_bases_35 (lv_at hl 0 rfl) ?_
  refine lv_bipush (v := 8) hx hb dX12_bases_37 (by decide) ?_
  refine lv_icmp_ge (tgt := 118) hx hb dX12_bases_39 (by decide) (fun h => absurd h (by decide)) (fun _ => ?_)
  refine lv_iconst (v := 0) hx hb dX12_bases_42 (by decide) ?_
  refine lv_istore (lv' := [(5, .int 0), (4, .int 0), (3, .int 0), (2, .int 0), (0, .ref q0), (1, .int 0)]) hx hb dX12_bases_43 hl (by decide) rfl (fun ls hl => ?_)
  refine lv_iload hx hb dX12_bases_45 (lv_at hl 0 rfl) ?_
  refine lv_bipush (v := 8) hx hb dX12_bases_47 (by decide) ?_
  refine lv_icmp_ge (tgt := 112) hx hb dX12_bases_49 (by decide) (fun h => absurd h (by decide)) (fun _ => ?_)
  refine lv_aload_n hx hb dX12_bases_52 rfl (lv_at hl 4 rfl) ?_
  refine r_get C w 1 rfl fr_X12_106 rfl dX12_bases_53 ?_
  refine lv_bipush (v := 8) hx hb dX12_bases_56 (by decide) ?_
  refine lv_iload hx hb dX12_bases_58 (lv_at hl 1 rfl) ?_
  refine lv_imul hx hb dX12_bases_60 ?_
  refine z_i (v := 0) (by decide +kernel) ?_
  refine lv_iload hx hb dX12_bases_61 (lv_at hl 0 rfl) ?_
  refine lv_iadd hx hb dX12_bases_63 ?_
  refine z_i (v := 0) (by decide +kernel) ?_
  refine lv_iload hx hb dX12_bases_64 (lv_at hl 1 rfl) ?_
  refine lv_iload_n hx hb dX12_bases_66 rfl (lv_at hl 2 rfl) ?_
  refine lv_icmp_ge (tgt := 104) hx hb dX12_bases_67 (by decide) (fun _ => ?_) (fun h => absurd (by decide) h)
  refine lv_lconst (v := 0) hx hb dX12_bases_104 (by decide) ?_
  refine r_last C w 0 rfl (IX.of (k := 0) (by decide +kernel)) (g := (fun _ => 0)) (updL_c _ _) dX12_bases_105 (ws2 := [(q2, .inl (G.2.2.1, 64, .inr (.inl (fun _ => 0)))), (q0, .inr (12, [.int 0, .int 0, .int 0, .int 0, .int 0, .int 0, .int 0, .int (-1), .ref q3, .ref q1, .ref q4, .int 0, .ref q5, .ref q6, .ref q7, .ref q8, .ref q9, .ref q10, .ref q11, .int 0, .ref q12, .ref q13, .ref q14, .ref q15, .ref q16, .ref q17, .ref q18, .int 0, .int (-1), .int 0, .ref q19, .ref q20, .ref q21, .ref q22, .ref q23, .ref q24, .ref q25, .ref q26, .int 0, .ref q27, .ref q28, .ref q29, .ref q2, .ref q30, .int 0, .ref q31, .ref q32, .ref q33, .ref q34, .int 0, .ref q35, .ref q36, .ref q37, .ref q38, .int 0, .int 0, .ref q39, .ref q40, .ref q41, .ref q42])), (q1, .inl (G.2.1, 242, .inl (fun _ => 0)))]) rfl (fun H locs w => ?_)
  refine lv_iinc (v := 1) (lv' := [(5, .int 1), (4, .int 0), (3, .int 0), (2, .int 0), (0, .ref q0), (1, .int 0)]) hx hb dX12_bases_106 hl (k := 0) rfl (by decide +kernel) (by decide) rfl (fun ls hl => ?_)
  refine lv_goto (tgt := 45) hx hb dX12_bases_109 (by decide) ?_
  refine lv_iload hx hb dX12_bases_45 (lv_at hl 0 rfl) ?_
  refine lv_bipush (v := 8) hx hb dX12_bases_47 (by decide) ?_
  refine lv_icmp_ge (tgt := 112) hx hb dX12_bases_49 (by decide) (fun h => absurd h (by decide)) (fun _ => ?_)
  refine lv_aload_n hx hb dX12_bases_52 rfl (lv_at hl 4 rfl) ?_
  refine r_get C w 1 rfl fr_X12_106 rfl dX12_bases_53 ?_
  refine lv_bipush (v := 8) hx hb dX12_bases_56 (by decide) ?_
  refine lv_iload hx hb dX12_bases_58 (lv_at hl 1 rfl) ?_
  refine lv_imul hx hb dX12_bases_60 ?_
  refine z_i (v := 0) (by decide +kernel) ?_
  refine lv_iload hx hb dX12_bases_61 (lv_at hl 0 rfl) ?_
  refine lv_iadd hx hb dX12_bases_63 ?_
  refine z_i (v := 1) (by decide +kernel) ?_
  refine lv_iload hx hb dX12_bases_64 (lv_at hl 1 rfl) ?_
  refine lv_iload_n hx hb dX12_bases_66 rfl (lv_at hl 2 rfl) ?_
  refine lv_icmp_ge (tgt := 104) hx hb dX12_bases_67 (by decide) (fun _ => ?_) (fun h => absurd (by decide) h)
  refine lv_lconst (v := 0) hx hb dX12_bases_104 (by decide) ?_
  refine r_last C w 0 rfl (IX.of (k := 1) (by decide +kernel)) (g := (fun _ => 0)) (updL_c _ _) dX12_bases_105 (ws2 := [(q2, .inl (G.2.2.1, 64, .inr (.inl (fun _ => 0)))), (q0, .inr (12, [.int 0, .int 0, .int 0, .int 0, .int 0, .int 0, .int 0, .int (-1), .ref q3, .ref q1, .ref q4, .int 0, .ref q5, .ref q6, .ref q7, .ref q8, .ref q9, .ref q10, .ref q11, .int 0, .ref q12, .ref q13, .ref q14, .ref q15, .ref q16, .ref q17, .ref q18, .int 0, .int (-1), .int 0, .ref q19, .ref q20, .ref q21, .ref q22, .ref q23, .ref q24, .ref q25, .ref q26, .int 0, .ref q27, .ref q28, .ref q29, .ref q2, .ref q30, .int 0, .ref q31, .ref q32, .ref q33, .ref q34, .int 0, .ref q35, .ref q36, .ref q37, .ref q38, .int 0, .int 0, .ref q39, .ref q40, .ref q41, .ref q42])), (q1, .inl (G.2.1, 242, .inl (fun _ => 0)))]) rfl (fun H locs w => ?_)
  refine lv_iinc (v := 2) (lv' := [(5, .int 2), (4, .int 0), (3, .int 0), (2, .int 0), (0, .ref q0), (1, .int 0)]) hx hb dX12_bases_106 hl (k := 0) rfl (by decide +kernel) (by decide) rfl (fun ls hl => ?_)
  refine lv_goto (tgt := 45) hx hb dX12_bases_109 (by decide) ?_
  refine lv_iload hx hb dX12_bases_45 (lv_at hl 0 rfl) ?_
  refine lv_bipush (v := 8) hx hb dX12_bases_47 (by decide) ?_
  refine lv_icmp_ge (tgt := 112) hx hb dX12_bases_49 (by decide) (fun h => absurd h (by decide)) (fun _ => ?_)
  refine lv_aload_n hx hb dX12_bases_52 rfl (lv_at hl 4 rfl) ?_
  refine r_get C w 1 rfl fr_X12_106 rfl dX12_bases_53 ?_
  refine lv_bipush (v := 8) hx hb dX12_bases_56 (by decide) ?_
  refine lv_iload hx hb dX12_bases_58 (lv_at hl 1 rfl) ?_
  refine lv_imul hx hb dX12_bases_60 ?_
  refine z_i (v := 0) (by decide +kernel) ?_
  refine lv_iload hx hb dX12_bases_61 (lv_at hl 0 rfl) ?_
  refine lv_iadd hx hb dX12_bases_63 ?_
  refine z_i (v := 2) (by decide +kernel) ?_
  refine lv_iload hx hb dX12_bases_64 (lv_at hl 1 rfl) ?_
  refine lv_iload_n hx hb dX12_bases_66 rfl (lv_at hl 2 rfl) ?_
  refine lv_icmp_ge (tgt := 104) hx hb dX12_bases_67 (by decide) (fun _ => ?_) (fun h => absurd (by decide) h)
  refine lv_lconst (v := 0) hx hb dX12_bases_104 (by decide) ?_
  refine r_last C w 0 rfl (IX.of (k := 2) (by decide +kernel)) (g := (fun _ => 0)) (updL_c _ _) dX12_bases_105 (ws2 := [(q2, .inl (G.2.2.1, 64, .inr (.inl (fun _ => 0)))), (q0, .inr (12, [.int 0, .int 0, .int 0, .int 0, .int 0, .int 0, .int 0, .int (-1), .ref q3, .ref q1, .ref q4, .int 0, .ref q5, .ref q6, .ref q7, .ref q8, .ref q9, .ref q10, .ref q11, .int 0, .ref q12, .ref q13, .ref q14, .ref q15, .ref q16, .ref q17, .ref q18, .int 0, .int (-1), .int 0, .ref q19, .ref q20, .ref q21, .ref q22, .ref q23, .ref q24, .ref q25, .ref q26, .int 0, .ref q27, .ref q28, .ref q29, .ref q2, .ref q30, .int 0, .ref q31, .ref q32, .ref q33, .ref q34, .int 0, .ref q35, .ref q36, .ref q37, .ref q38, .int 0, .int 0, .ref q39, .ref q40, .ref q41, .ref q42])), (q1, .inl (G.2.1, 242, .inl (fun _ => 0)))]) rfl (fun H locs w => ?_)
  refine lv_iinc (v := 3) (lv' := [(5, .int 3), (4, .int 0), (3, .int 0), (2, .int 0), (0, .ref q0), (1, .int 0)]) hx hb dX12_bases_106 hl (k := 0) rfl (by decide +kernel) (by decide) rfl (fun ls hl => ?_)
  refine lv_goto (tgt := 45) hx hb dX12_bases_109 (by decide) ?_
  refine lv_iload hx hb dX12_bases_45 (lv_at hl 0 rfl) ?_
  refine lv_bipush (v := 8) hx hb dX12_bases_47 (by decide) ?_
  refine lv_icmp_ge (tgt := 112) hx hb dX12_bases_49 (by decide) (fun h => absurd h (by decide)) (fun _ => ?_)
  refine lv_aload_n hx hb dX12_bases_52 rfl (lv_at hl 4 rfl) ?_
  refine r_get C w 1 rfl fr_X12_106 rfl dX12_bases_53 ?_
  refine lv_bipush (v := 8) hx hb dX12_bases_56 (by decide) ?_
  refine lv_iload hx hb dX12_bases_58 (lv_at hl 1 rfl) ?_
  refine lv_imul hx hb dX12_bases_60 ?_
  refine z_i (v := 0) (by decide +kernel) ?_
  refine lv_iload hx hb dX12_bases_61 (lv_at hl 0 rfl) ?_
  refine lv_iadd hx hb dX12_bases_63 ?_
  refine z_i (v := 3) (by decide +kernel) ?_
  refine lv_iload hx hb dX12_bases_64 (lv_at hl 1 rfl) ?_
  refine lv_iload_n hx hb dX12_bases_66 rfl (lv_at hl 2 rfl) ?_
  refine lv_icmp_ge (tgt := 104) hx hb dX12_bases_67 (by decide) (fun _ => ?_) (fun h => absurd (by decide) h)
  refine lv_lconst (v := 0) hx hb dX12_bases_104 (by decide) ?_
  refine r_last C w 0 rfl (IX.of (k := 3) (by decide +kernel)) (g := (fun _ => 0)) (updL_c _ _) dX12_bases_105 (ws2 := [(q2, .inl (G.2.2.1, 64, .inr (.inl (fun _ => 0)))), (q0, .inr (12, [.int 0, .int 0, .int 0, .int 0, .int 0, .int 0, .int 0, .int (-1), .ref q3, .ref q1, .ref q4, .int 0, .ref q5, .ref q6, .ref q7, .ref q8, .ref q9, .ref q10, .ref q11, .int 0, .ref q12, .ref q13, .ref q14, .ref q15, .ref q16, .ref q17, .ref q18, .int 0, .int (-1), .int 0, .ref q19, .ref q20, .ref q21, .ref q22, .ref q23, .ref q24, .ref q25, .ref q26, .int 0, .ref q27, .ref q28, .ref q29, .ref q2, .ref q30, .int 0, .ref q31, .ref q32, .ref q33, .ref q34, .int 0, .ref q35, .ref q36, .ref q37, .ref q38, .int 0, .int 0, .ref q39, .ref q40, .ref q41, .ref q42])), (q1, .inl (G.2.1, 242, .inl (fun _ => 0)))]) rfl (fun H locs w => ?_)
  refine lv_iinc (v := 4) (lv' := [(5, .int 4), (4, .int 0), (3, .int 0), (2, .int 0), (0, .ref q0), (1, .int 0)]) hx hb dX12_bases_106 hl (k := 0) rfl (by decide +kernel) (by decide) rfl (fun ls hl => ?_)
  refine lv_goto (tgt := 45) hx hb dX12_bases_109 (by decide) ?_
  refine lv_iload hx hb dX12_bases_45 (lv_at hl 0 rfl) ?_
  refine lv_bipush (v := 8) hx hb dX12_bases_47 (by decide) ?_
  refine lv_icmp_ge (tgt := 112) hx hb dX12_bases_49 (by decide) (fun h => absurd h (by decide)) (fun _ => ?_)
  refine lv_aload_n hx hb dX12_bases_52 rfl (lv_at hl 4 rfl) ?_
  refine r_get C w 1 rfl fr_X12_106 rfl dX12_bases_53 ?_
  refine lv_bipush (v := 8) hx hb dX12_bases_56 (by decide) ?_
  refine lv_iload hx hb dX12_bases_58 (lv_at hl 1 rfl) ?_
  refine lv_imul hx hb dX12_bases_60 ?_
  refine z_i (v := 0) (by decide +kernel) ?_
  refine lv_iload hx hb dX12_bases_61 (lv_at hl 0 rfl) ?_
  refine lv_iadd hx hb dX12_bases_63 ?_
  refine z_i (v := 4) (by decide +kernel) ?_
  refine lv_iload hx hb dX12_bases_64 (lv_at hl 1 rfl) ?_
  refine lv_iload_n hx hb dX12_bases_66 rfl (lv_at hl 2 rfl) ?_
  refine lv_icmp_ge (tgt := 104) hx hb dX12_bases_67 (by decide) (fun _ => ?_) (fun h => absurd (by decide) h)
  refine lv_lconst (v := 0) hx hb dX12_bases_104 (by decide) ?_
  refine r_last C w 0 rfl (IX.of (k := 4) (by decide +kernel)) (g := (fun _ => 0)) (updL_c _ _) dX12_bases_105 (ws2 := [(q2, .inl (G.2.2.1, 64, .inr (.inl (fun _ => 0)))), (q0, .inr (12, [.int 0, .int 0, .int 0, .int 0, .int 0, .int 0, .int 0, .int (-1), .ref q3, .ref q1, .ref q4, .int 0, .ref q5, .ref q6, .ref q7, .ref q8, .ref q9, .ref q10, .ref q11, .int 0, .ref q12, .ref q13, .ref q14, .ref q15, .ref q16, .ref q17, .ref q18, .int 0, .int (-1), .int 0, .ref q19, .ref q20, .ref q21, .ref q22, .ref q23, .ref q24, .ref q25, .ref q26, .int 0, .ref q27, .ref q28, .ref q29, .ref q2, .ref q30, .int 0, .ref q31, .ref q32, .ref q33, .ref q34, .int 0, .ref q35, .ref q36, .ref q37, .ref q38, .int 0, .int 0, .ref q39, .ref q40, .ref q41, .ref q42])), (q1, .inl (G.2.1, 242, .inl (fun _ => 0)))]) rfl (fun H locs w => ?_)
  refine lv_iinc (v := 5) (lv' := [(5, .int 5), (4, .int 0), (3, .int 0), (2, .int 0), (0, .ref q0), (1, .int 0)]) hx hb dX12_bases_106 hl (k := 0) rfl (by decide +kernel) (by decide) rfl (fun ls hl => ?_)
  refine lv_goto (tgt := 45) hx hb dX12_bases_109 (by decide) ?_
  refine lv_iload hx hb dX12_bases_45 (lv_at hl 0 rfl) ?_
  refine lv_bipush (v := 8) hx hb dX12_bases_47 (by decide) ?_
  refine lv_icmp_ge (tgt := 112) hx hb dX12_bases_49 (by decide) (fun h => absurd h (by decide)) (fun _ => ?_)
  refine lv_aload_n hx hb dX12_bases_52 rfl (lv_at hl 4 rfl) ?_
  refine r_get C w 1 rfl fr_X12_106 rfl dX12_bases_53 ?_
  refine lv_bipush (v := 8) hx hb dX12_bases_56 (by decide) ?_
  refine lv_iload hx hb dX12_bases_58 (lv_at hl 1 rfl) ?_
  refine lv_imul hx hb dX12_bases_60 ?_
  refine z_i (v := 0) (by decide +kernel) ?_
  refine lv_iload hx hb dX12_bases_61 (lv_at hl 0 rfl) ?_
  refine lv_iadd hx hb dX12_bases_63 ?_
  refine z_i (v := 5) (by decide +kernel) ?_
  refine lv_iload hx hb dX12_bases_64 (lv_at hl 1 rfl) ?_
  refine lv_iload_n hx hb dX12_bases_66 rfl (lv_at hl 2 rfl) ?_
  refine lv_icmp_ge (tgt := 104) hx hb dX12_bases_67 (by decide) (fun _ => ?_) (fun h => absurd (by decide) h)
  refine lv_lconst (v := 0) hx hb dX12_bases_104 (by decide) ?_
  refine r_last C w 0 rfl (IX.of (k := 5) (by decide +kernel)) (g := (fun _ => 0)) (updL_c _ _) dX12_bases_105 (ws2 := [(q2, .inl (G.2.2.1, 64, .inr (.inl (fun _ => 0)))), (q0, .inr (12, [.int 0, .int 0, .int 0, .int 0, .int 0, .int 0, .int 0, .int (-1), .ref q3, .ref q1, .ref q4, .int 0, .ref q5, .ref q6, .ref q7, .ref q8, .ref q9, .ref q10, .ref q11, .int 0, .ref q12, .ref q13, .ref q14, .ref q15, .ref q16, .ref q17, .ref q18, .int 0, .int (-1), .int 0, .ref q19, .ref q20, .ref q21, .ref q22, .ref q23, .ref q24, .ref q25, .ref q26, .int 0, .ref q27, .ref q28, .ref q29, .ref q2, .ref q30, .int 0, .ref q31, .ref q32, .ref q33, .ref q34, .int 0, .ref q35, .ref q36, .ref q37, .ref q38, .int 0, .int 0, .ref q39, .ref q40, .ref q41, .ref q42])), (q1, .inl (G.2.1, 242, .inl (fun _ => 0)))]) rfl (fun H locs w => ?_)
  refine lv_iinc (v := 6) (lv' := [(5, .int 6), (4, .int 0), (3, .int 0), (2, .int 0), (0, .ref q0), (1, .int 0)]) hx hb dX12_bases_106 hl (k := 0) rfl (by decide +kernel) (by decide) rfl (fun ls hl => ?_)
  refine lv_goto (tgt := 45) hx hb dX12_bases_109 (by decide) ?_
  refine lv_iload hx hb dX12_bases_45 (lv_at hl 0 rfl) ?_
  refine lv_bipush (v := 8) hx hb dX12_bases_47 (by decide) ?_
  refine lv_icmp_ge (tgt := 112) hx hb dX12_bases_49 (by decide) (fun h => absurd h (by decide)) (fun _ => ?_)
  refine lv_aload_n hx hb dX12_bases_52 rfl (lv_at hl 4 rfl) ?_
  refine r_get C w 1 rfl fr_X12_106 rfl dX12_bases_53 ?_
  refine lv_bipush (v := 8) hx hb dX12_bases_56 (by decide) ?_
  refine lv_iload hx hb dX12_bases_58 (lv_at hl 1 rfl) ?_
  refine lv_imul hx hb dX12_bases_60 ?_
  refine z_i (v := 0) (by decide +kernel) ?_
  refine lv_iload hx hb dX12_bases_61 (lv_at hl 0 rfl) ?_
  refine lv_iadd hx hb dX12_bases_63 ?_
  refine z_i (v := 6) (by decide +kernel) ?_
  refine lv_iload hx hb dX12_bases_64 (lv_at hl 1 rfl) ?_
  refine lv_iload_n hx hb dX12_bases_66 rfl (lv_at hl 2 rfl) ?_
  refine lv_icmp_ge (tgt := 104) hx hb dX12_bases_67 (by decide) (fun _ => ?_) (fun h => absurd (by decide) h)
  refine lv_lconst (v := 0) hx hb dX12_bases_104 (by decide) ?_
  refine r_last C w 0 rfl (IX.of (k := 6) (by decide +kernel)) (g := (fun _ => 0)) (updL_c _ _) dX12_bases_105 (ws2 := [(q2, .inl (G.2.2.1, 64, .inr (.inl (fun _ => 0)))), (q0, .inr (12, [.int 0, .int 0, .int 0, .int 0, .int 0, .int 0, .int 0, .int (-1), .ref q3, .ref q1, .ref q4, .int 0, .ref q5, .ref q6, .ref q7, .ref q8, .ref q9, .ref q10, .ref q11, .int 0, .ref q12, .ref q13, .ref q14, .ref q15, .ref q16, .ref q17, .ref q18, .int 0, .int (-1), .int 0, .ref q19, .ref q20, .ref q21, .ref q22, .ref q23, .ref q24, .ref q25, .ref q26, .int 0, .ref q27, .ref q28, .ref q29, .ref q2, .ref q30, .int 0, .ref q31, .ref q32, .ref q33, .ref q34, .int 0, .ref q35, .ref q36, .ref q37, .ref q38, .int 0, .int 0, .ref q39, .ref q40, .ref q41, .ref q42])), (q1, .inl (G.2.1, 242, .inl (fun _ => 0)))]) rfl (fun H locs w => ?_)
  refine lv_iinc (v := 7) (lv' := [(5, .int 7), (4, .int 0), (3, .int 0), (2, .int 0), (0, .ref q0), (1, .int 0)]) hx hb dX12_bases_106 hl (k := 0) rfl (by decide +kernel) (by decide) rfl (fun ls hl => ?_)
  refine lv_goto (tgt := 45) hx hb dX12_bases_109 (by decide) ?_
  refine lv_iload hx hb dX12_bases_45 (lv_at hl 0 rfl) ?_
  refine lv_bipush (v := 8) hx hb dX12_bases_47 (by decide) ?_
  refine lv_icmp_ge (tgt := 112) hx hb dX12_bases_49 (by decide) (fun h => absurd h (by decide)) (fun _ => ?_)
  refine lv_aload_n hx hb dX12_bases_52 rfl (lv_at hl 4 rfl) ?_
  refine r_get C w 1 rfl fr_X12_106 rfl dX12_bases_53 ?_
  refine lv_bipush (v := 8) hx hb dX12_bases_56 (by decide) ?_
  refine lv_iload hx hb dX12_bases_58 (lv_at hl 1 rfl) ?_
  refine lv_imul hx hb dX12_bases_60 ?_
  refine z_i (v := 0) (by decide +kernel) ?_
  refine lv_iload hx hb dX12_bases_61 (lv_at hl 0 rfl) ?_
  refine lv_iadd hx hb dX12_bases_63 ?_
  refine z_i (v := 7) (by decide +kernel) ?_
  refine lv_iload hx hb dX12_bases_64 (lv_at hl 1 rfl) ?_
  refine lv_iload_n hx hb dX12_bases_66 rfl (lv_at hl 2 rfl) ?_
  refine lv_icmp_ge (tgt := 104) hx hb dX12_bases_67 (by decide) (fun _ => ?_) (fun h => absurd (by decide) h)
  refine lv_lconst (v := 0) hx hb dX12_bases_104 (by decide) ?_
  refine r_last C w 0 rfl (IX.of (k := 7) (by decide +kernel)) (g := (fun _ => 0)) (updL_c _ _) dX12_bases_105 (ws2 := [(q2, .inl (G.2.2.1, 64, .inr (.inl (fun _ => 0)))), (q0, .inr (12, [.int 0, .int 0, .int 0, .int 0, .int 0, .int 0, .int 0, .int (-1), .ref q3, .ref q1, .ref q4, .int 0, .ref q5, .ref q6, .ref q7, .ref q8, .ref q9, .ref q10, .ref q11, .int 0, .ref q12, .ref q13, .ref q14, .ref q15, .ref q16, .ref q17, .ref q18, .int 0, .int (-1), .int 0, .ref q19, .ref q20, .ref q21, .ref q22, .ref q23, .ref q24, .ref q25, .ref q26, .int 0, .ref q27, .ref q28, .ref q29, .ref q2, .ref q30, .int 0, .ref q31, .ref q32, .ref q33, .ref q34, .int 0, .ref q35, .ref q36, .ref q37, .ref q38, .int 0, .int 0, .ref q39, .ref q40, .ref q41, .ref q42])), (q1, .inl (G.2.1, 242, .inl (fun _ => 0)))]) rfl (fun H locs w => ?_)
  refine lv_iinc (v := 8) (lv' := [(5, .int 8), (4, .int 0), (3, .int 0), (2, .int 0), (0, .ref q0), (1, .int 0)]) hx hb dX12_bases_106 hl (k := 0) rfl (by decide +kernel) (by decide) rfl (fun ls hl => ?_)
  refine lv_goto (tgt := 45) hx hb dX12_bases_109 (by decide) ?_
  refine lv_iload hx hb dX12_bases_45 (lv_at hl 0 rfl) ?_
  refine lv_bipush (v := 8) hx hb dX12_bases_47 (by decide) ?_
  refine lv_icmp_ge (tgt := 112) hx hb dX12_bases_49 (by decide) (fun _ => ?_) (fun h => absurd (by decide) h)
  refine lv_iinc (v := 1) (lv' := [(4, .int 1), (5, .int 8), (3, .int 0), (2, .int 0), (0, .ref q0), (1, .int 0)]) hx hb dX12_bases_112 hl (k := 1) rfl (by decide +kernel) (by decide) rfl (fun ls hl => ?_)
  refine lv_goto (tgt := 35) hx hb dX12_bases_115 (by decide) ?_
  refine lv_iload hx hb dX12_bases_35 (lv_at hl 0 rfl) ?_
  refine lv_bipush (v := 8) hx hb dX12_bases_37 (by decide) ?_
  refine lv_icmp_ge (tgt := 118) hx hb dX12_bases_39 (by decide) (fun h => absurd h (by decide)) (fun _ => ?_)
  refine lv_iconst (v := 0) hx hb dX12_bases_42 (by decide) ?_
  refine lv_istore (lv' := [(5, .int 0), (4, .int 1), (3, .int 0), (2, .int 0), (0, .ref q0), (1, .int 0)]) hx hb dX12_bases_43 hl (by decide) rfl (fun ls hl => ?_)
  refine lv_iload hx hb dX12_bases_45 (lv_at hl 0 rfl) ?_
  refine lv_bipush (v := 8) hx hb dX12_bases_47 (by decide) ?_
  refine lv_icmp_ge (tgt := 112) hx hb dX12_bases_49 (by decide) (fun h => absurd h (by decide)) (fun _ => ?_)
  refine lv_aload_n hx hb dX12_bases_52 rfl (lv_at hl 4 rfl) ?_
  refine r_get C w 1 rfl fr_X12_106 rfl dX12_bases_53 ?_
  refine lv_bipush (v := 8) hx hb dX12_bases_56 (by decide) ?_
  refine lv_iload hx hb dX12_bases_58 (lv_at hl 1 rfl) ?_
  refine lv_imul hx hb dX12_bases_60 ?_
  refine z_i (v := 8) (by decide +kernel) ?_
  refine lv_iload hx hb dX12_bases_61 (lv_at hl 0 rfl) ?_
  refine lv_iadd hx hb dX12_bases_63 ?_
  refine z_i (v := 8) (by decide +kernel) ?_
  refine lv_iload hx hb dX12_bases_64 (lv_at hl 1 rfl) ?_
  refine lv_iload_n hx hb dX12_bases_66 rfl (lv_at hl 2 rfl) ?_
  refine lv_icmp_ge (tgt := 104) hx hb dX12_bases_67 (by decide) (fun _ => ?_) (fun h => absurd (by decide) h)
  refine lv_lconst (v := 0) hx hb dX12_bases_104 (by decide) ?_
  refine r_last C w 0 rfl (IX.of (k := 8) (by decide +kernel)) (g := (fun _ => 0)) (updL_c _ _) dX12_bases_105 (ws2 := [(q2, .inl (G.2.2.1, 64, .inr (.inl (fun _ => 0)))), (q0, .inr (12, [.int 0, .int 0, .int 0, .int 0, .int 0, .int 0, .int 0, .int (-1), .ref q3, .ref q1, .ref q4, .int 0, .ref q5, .ref q6, .ref q7, .ref q8, .ref q9, .ref q10, .ref q11, .int 0, .ref q12, .ref q13, .ref q14, .ref q15, .ref q16, .ref q17, .ref q18, .int 0, .int (-1), .int 0, .ref q19, .ref q20, .ref q21, .ref q22, .ref q23, .ref q24, .ref q25, .ref q26, .int 0, .ref q27, .ref q28, .ref q29, .ref q2, .ref q30, .int 0, .ref q31, .ref q32, .ref q33, .ref q34, .int 0, .ref q35, .ref q36, .ref q37, .ref q38, .int 0, .int 0, .ref q39, .ref q40, .ref q41, .ref q42])), (q1, .inl (G.2.1, 242, .inl (fun _ => 0)))]) rfl (fun H locs w => ?_)
  refine lv_iinc (v := 1) (lv' := [(5, .int 1), (4, .int 1), (3, .int 0), (2, .int 0), (0, .ref q0), (1, .int 0)]) hx hb dX12_bases_106 hl (k := 0) rfl (by decide +kernel) (by decide) rfl (fun ls hl => ?_)
  refine lv_goto (tgt := 45) hx hb dX12_bases_109 (by decide) ?_
  refine lv_iload hx hb dX12_bases_45 (lv_at hl 0 rfl) ?_
  refine lv_bipush (v := 8) hx hb dX12_bases_47 (by decide) ?_
  refine lv_icmp_ge (tgt := 112) hx hb dX12_bases_49 (by decide) (fun h => absurd h (by decide)) (fun _ => ?_)
  refine lv_aload_n hx hb dX12_bases_52 rfl (lv_at hl 4 rfl) ?_
  refine r_get C w 1 rfl fr_X12_106 rfl dX12_bases_53 ?_
  refine lv_bipush (v := 8) hx hb dX12_bases_56 (by decide) ?_
  refine lv_iload hx hb dX12_bases_58 (lv_at hl 1 rfl) ?_
  refine lv_imul hx hb dX12_bases_60 ?_
  refine z_i (v := 8) (by decide +kernel) ?_
  refine lv_iload hx hb dX12_bases_61 (lv_at hl 0 rfl) ?_
  refine lv_iadd hx hb dX12_bases_63 ?_
  refine z_i (v := 9) (by decide +kernel) ?_
  refine lv_iload hx hb dX12_bases_64 (lv_at hl 1 rfl) ?_
  refine lv_iload_n hx hb dX12_bases_66 rfl (lv_at hl 2 rfl) ?_
  refine lv_icmp_ge (tgt := 104) hx hb dX12_bases_67 (by decide) (fun _ => ?_) (fun h => absurd (by decide) h)
  refine lv_lconst (v := 0) hx hb dX12_bases_104 (by decide) ?_
  refine r_last C w 0 rfl (IX.of (k := 9) (by decide +kernel)) (g := (fun _ => 0)) (updL_c _ _) dX12_bases_105 (ws2 := [(q2, .inl (G.2.2.1, 64, .inr (.inl (fun _ => 0)))), (q0, .inr (12, [.int 0, .int 0, .int 0, .int 0, .int 0, .int 0, .int 0, .int (-1), .ref q3, .ref q1, .ref q4, .int 0, .ref q5, .ref q6, .ref q7, .ref q8, .ref q9, .ref q10, .ref q11, .int 0, .ref q12, .ref q13, .ref q14, .ref q15, .ref q16, .ref q17, .ref q18, .int 0, .int (-1), .int 0, .ref q19, .ref q20, .ref q21, .ref q22, .ref q23, .ref q24, .ref q25, .ref q26, .int 0, .ref q27, .ref q28, .ref q29, .ref q2, .ref q30, .int 0, .ref q31, .ref q32, .ref q33, .ref q34, .int 0, .ref q35, .ref q36, .ref q37, .ref q38, .int 0, .int 0, .ref q39, .ref q40, .ref q41, .ref q42])), (q1, .inl (G.2.1, 242, .inl (fun _ => 0)))]) rfl (fun H locs w => ?_)
  refine lv_iinc (v := 2) (lv' := [(5, .int 2), (4, .int 1), (3, .int 0), (2, .int 0), (0, .ref q0), (1, .int 0)]) hx hb dX12_bases_106 hl (k := 0) rfl (by decide +kernel) (by decide) rfl (fun ls hl => ?_)
  refine lv_goto (tgt := 45) hx hb dX12_bases_109 (by decide) ?_
  refine lv_iload hx hb dX12_bases_45 (lv_at hl 0 rfl) ?_
  refine lv_bipush (v := 8) hx hb dX12_bases_47 (by decide) ?_
  refine lv_icmp_ge (tgt := 112) hx hb dX12_bases_49 (by decide) (fun h => absurd h (by decide)) (fun _ => ?_)
  refine lv_aload_n hx hb dX12_bases_52 rfl (lv_at hl 4 rfl) ?_
  refine r_get C w 1 rfl fr_X12_106 rfl dX12_bases_53 ?_
  refine lv_bipush (v := 8) hx hb dX12_bases_56 (by decide) ?_
  refine lv_iload hx hb dX12_bases_58 (lv_at hl 1 rfl) ?_
  refine lv_imul hx hb dX12_bases_60 ?_
  refine z_i (v := 8) (by decide +kernel) ?_
  refine lv_iload hx hb dX12_bases_61 (lv_at hl 0 rfl) ?_
  refine lv_iadd hx hb dX12_bases_63 ?_
  refine z_i (v := 10) (by decide +kernel) ?_
  refine lv_iload hx hb dX12_bases_64 (lv_at hl 1 rfl) ?_
  refine lv_iload_n hx hb dX12_bases_66 rfl (lv_at hl 2 rfl) ?_
  refine lv_icmp_ge (tgt := 104) hx hb dX12_bases_67 (by decide) (fun _ => ?_) (fun h => absurd (by decide) h)
  refine lv_lconst (v := 0) hx hb dX12_bases_104 (by decide) ?_
  refine r_last C w 0 rfl (IX.of (k := 10) (by decide +kernel)) (g := (fun _ => 0)) (updL_c _ _) dX12_bases_105 (ws2 := [(q2, .inl (G.2.2.1, 64, .inr (.inl (fun _ => 0)))), (q0, .inr (12, [.int 0, .int 0, .int 0, .int 0, .int 0, .int 0, .int 0, .int (-1), .ref q3, .ref q1, .ref q4, .int 0, .ref q5, .ref q6, .ref q7, .ref q8, .ref q9, .ref q10, .ref q11, .int 0, .ref q12, .ref q13, .ref q14, .ref q15, .ref q16, .ref q17, .ref q18, .int 0, .int (-1), .int 0, .ref q19, .ref q20, .ref q21, .ref q22, .ref q23, .ref q24, .ref q25, .ref q26, .int 0, .ref q27, .ref q28, .ref q29, .ref q2, .ref q30, .int 0, .ref q31, .ref q32, .ref q33, .ref q34, .int 0, .ref q35, .ref q36, .ref q37, .ref q38, .int 0, .int 0, .ref q39, .ref q40, .ref q41, .ref q42])), (q1, .inl (G.2.1, 242, .inl (fun _ => 0)))]) rfl (fun H locs w => ?_)
  refine lv_iinc (v := 3) (lv' := [(5, .int 3), (4, .int 1), (3, .int 0), (2, .int 0), (0, .ref q0), (1, .int 0)]) hx hb dX12_bases_106 hl (k := 0) rfl (by decide +kernel) (by decide) rfl (fun ls hl => ?_)
  refine lv_goto (tgt := 45) hx hb dX12_bases_109 (by decide) ?_
  refine lv_iload hx hb dX12_bases_45 (lv_at hl 0 rfl) ?_
  refine lv_bipush (v := 8) hx hb dX12_bases_47 (by decide) ?_
  refine lv_icmp_ge (tgt := 112) hx hb dX12_bases_49 (by decide) (fun h => absurd h (by decide)) (fun _ => ?_)
  refine lv_aload_n hx hb dX12_bases_52 rfl (lv_at hl 4 rfl) ?_
  refine r_get C w 1 rfl fr_X12_106 rfl dX12_bases_53 ?_
  refine lv_bipush (v := 8) hx hb dX12_bases_56 (by decide) ?_
  refine lv_iload hx hb dX12_bases_58 (lv_at hl 1 rfl) ?_
  refine lv_imul hx hb dX12_bases_60 ?_
  refine z_i (v := 8) (by decide +kernel) ?_
  refine lv_iload hx hb dX12_bases_61 (lv_at hl 0 rfl) ?_
  refine lv_iadd hx hb dX12_bases_63 ?_
  refine z_i (v := 11) (by decide +kernel) ?_
  refine lv_iload hx hb dX12_bases_64 (lv_at hl 1 rfl) ?_
  refine lv_iload_n hx hb dX12_bases_66 rfl (lv_at hl 2 rfl) ?_
  refine lv_icmp_ge (tgt := 104) hx hb dX12_bases_67 (by decide) (fun _ => ?_) (fun h => absurd (by decide) h)
  refine lv_lconst (v := 0) hx hb dX12_bases_104 (by decide) ?_
  refine r_last C w 0 rfl (IX.of (k := 11) (by decide +kernel)) (g := (fun _ => 0)) (updL_c _ _) dX12_bases_105 (ws2 := [(q2, .inl (G.2.2.1, 64, .inr (.inl (fun _ => 0)))), (q0, .inr (12, [.int 0, .int 0, .int 0, .int 0, .int 0, .int 0, .int 0, .int (-1), .ref q3, .ref q1, .ref q4, .int 0, .ref q5, .ref q6, .ref q7, .ref q8, .ref q9, .ref q10, .ref q11, .int 0, .ref q12, .ref q13, .ref q14, .ref q15, .ref q16, .ref q17, .ref q18, .int 0, .int (-1), .int 0, .ref q19, .ref q20, .ref q21, .ref q22, .ref q23, .ref q24, .ref q25, .ref q26, .int 0, .ref q27, .ref q28, .ref q29, .ref q2, .ref q30, .int 0, .ref q31, .ref q32, .ref q33, .ref q34, .int 0, .ref q35, .ref q36, .ref q37, .ref q38, .int 0, .int 0, .ref q39, .ref q40, .ref q41, .ref q42])), (q1, .inl (G.2.1, 242, .inl (fun _ => 0)))]) rfl (fun H locs w => ?_)
  refine lv_iinc (v := 4) (lv' := [(5, .int 4), (4, .int 1), (3, .int 0), (2, .int 0), (0, .ref q0), (1, .int 0)]) hx hb dX12_bases_106 hl (k := 0) rfl (by decide +kernel) (by decide) rfl (fun ls hl => ?_)
  refine lv_goto (tgt := 45) hx hb dX12_bases_109 (by decide) ?_
  refine lv_iload hx hb dX12_bases_45 (lv_at hl 0 rfl) ?_
  refine lv_bipush (v := 8) hx hb dX12_bases_47 (by decide) ?_
  refine lv_icmp_ge (tgt := 112) hx hb dX12_bases_49 (by decide) (fun h => absurd h (by decide)) (fun _ => ?_)
  refine lv_aload_n hx hb dX12_bases_52 rfl (lv_at hl 4 rfl) ?_
  refine r_get C w 1 rfl fr_X12_106 rfl dX12_bases_53 ?_
  refine lv_bipush (v := 8) hx hb dX12_bases_56 (by decide) ?_
  refine lv_iload hx hb dX12_bases_58 (lv_at hl 1 rfl) ?_
  refine lv_imul hx hb dX12_bases_60 ?_
  refine z_i (v := 8) (by decide +kernel) ?_
  refine lv_iload hx hb dX12_bases_61 (lv_at hl 0 rfl) ?_
  refine lv_iadd hx hb dX12_bases_63 ?_
  refine z_i (v := 12) (by decide +kernel) ?_
  refine lv_iload hx hb dX12_bases_64 (lv_at hl 1 rfl) ?_
  refine lv_iload_n hx hb dX12_bases_66 rfl (lv_at hl 2 rfl) ?_
  refine lv_icmp_ge (tgt := 104) hx hb dX12_bases_67 (by decide) (fun _ => ?_) (fun h => absurd (by decide) h)
  refine lv_lconst (v := 0) hx hb dX12_bases_104 (by decide) ?_
  refine r_last C w 0 rfl (IX.of (k := 12) (by decide +kernel)) (g := (fun _ => 0)) (updL_c _ _) dX12_bases_105 (ws2 := [(q2, .inl (G.2.2.1, 64, .inr (.inl (fun _ => 0)))), (q0, .inr (12, [.int 0, .int 0, .int 0, .int 0, .int 0, .int 0, .int 0, .int (-1), .ref q3, .ref q1, .ref q4, .int 0, .ref q5, .ref q6, .ref q7, .ref q8, .ref q9, .ref q10, .ref q11, .int 0, .ref q12, .ref q13, .ref q14, .ref q15, .ref q16, .ref q17, .ref q18, .int 0, .int (-1), .int 0, .ref q19, .ref q20, .ref q21, .ref q22, .ref q23, .ref q24, .ref q25, .ref q26, .int 0, .ref q27, .ref q28, .ref q29, .ref q2, .ref q30, .int 0, .ref q31, .ref q32, .ref q33, .ref q34, .int 0, .ref q35, .ref q36, .ref q37, .ref q38, .int 0, .int 0, .ref q39, .ref q40, .ref q41, .ref q42])), (q1, .inl (G.2.1, 242, .inl (fun _ => 0)))]) rfl (fun H locs w => ?_)
  refine lv_iinc (v := 5) (lv' := [(5, .int 5), (4, .int 1), (3, .int 0), (2, .int 0), (0, .ref q0), (1, .int 0)]) hx hb dX12_bases_106 hl (k := 0) rfl (by decide +kernel) (by decide) rfl (fun ls hl => ?_)
  refine lv_goto (tgt := 45) hx hb dX12_bases_109 (by decide) ?_
  refine lv_iload hx hb dX12_bases_45 (lv_at hl 0 rfl) ?_
  refine lv_bipush (v := 8) hx hb dX12_bases_47 (by decide) ?_
  refine lv_icmp_ge (tgt := 112) hx hb dX12_bases_49 (by decide) (fun h => absurd h (by decide)) (fun _ => ?_)
  refine lv_aload_n hx hb dX12_bases_52 rfl (lv_at hl 4 rfl) ?_
  refine r_get C w 1 rfl fr_X12_106 rfl dX12_bases_53 ?_
  refine lv_bipush (v := 8) hx hb dX12_bases_56 (by decide) ?_
  refine lv_iload hx hb dX12_bases_58 (lv_at hl 1 rfl) ?_
  refine lv_imul hx hb dX12_bases_60 ?_
  refine z_i (v := 8) (by decide +kernel) ?_
  refine lv_iload hx hb dX12_bases_61 (lv_at hl 0 rfl) ?_
  refine lv_iadd hx hb dX12_bases_63 ?_
  refine z_i (v := 13) (by decide +kernel) ?_
  refine lv_iload hx hb dX12_bases_64 (lv_at hl 1 rfl) ?_
  refine lv_iload_n hx hb dX12_bases_66 rfl (lv_at hl 2 rfl) ?_
  refine lv_icmp_ge (tgt := 104) hx hb dX12_bases_67 (by decide) (fun _ => ?_) (fun h => absurd (by decide) h)
  refine lv_lconst (v := 0) hx hb dX12_bases_104 (by decide) ?_
  refine r_last C w 0 rfl (IX.of (k := 13) (by decide +kernel)) (g := (fun _ => 0)) (updL_c _ _) dX12_bases_105 (ws2 := [(q2, .inl (G.2.2.1, 64, .inr (.inl (fun _ => 0)))), (q0, .inr (12, [.int 0, .int 0, .int 0, .int 0, .int 0, .int 0, .int 0, .int (-1), .ref q3, .ref q1, .ref q4, .int 0, .ref q5, .ref q6, .ref q7, .ref q8, .ref q9, .ref q10, .ref q11, .int 0, .ref q12, .ref q13, .ref q14, .ref q15, .ref q16, .ref q17, .ref q18, .int 0, .int (-1), .int 0, .ref q19, .ref q20, .ref q21, .ref q22, .ref q23, .ref q24, .ref q25, .ref q26, .int 0, .ref q27, .ref q28, .ref q29, .ref q2, .ref q30, .int 0, .ref q31, .ref q32, .ref q33, .ref q34, .int 0, .ref q35, .ref q36, .ref q37, .ref q38, .int 0, .int 0, .ref q39, .ref q40, .ref q41, .ref q42])), (q1, .inl (G.2.1, 242, .inl (fun _ => 0)))]) rfl (fun H locs w => ?_)
  refine lv_iinc (v := 6) (lv' := [(5, .int 6), (4, .int 1), (3, .int 0), (2, .int 0), (0, .ref q0), (1, .int 0)]) hx hb dX12_bases_106 hl (k := 0) rfl (by decide +kernel) (by decide) rfl (fun ls hl => ?_)
  refine lv_goto (tgt := 45) hx hb dX12_bases_109 (by decide) ?_
  refine lv_iload hx hb dX12_bases_45 (lv_at hl 0 rfl) ?_
  refine lv_bipush (v := 8) hx hb dX12_bases_47 (by decide) ?_
  refine lv_icmp_ge (tgt := 112) hx hb dX12_bases_49 (by decide) (fun h => absurd h (by decide)) (fun _ => ?_)
  refine lv_aload_n hx hb dX12_bases_52 rfl (lv_at hl 4 rfl) ?_
  refine r_get C w 1 rfl fr_X12_106 rfl dX12_bases_53 ?_
  refine lv_bipush (v := 8) hx hb dX12_bases_56 (by decide) ?_
  refine lv_iload hx hb dX12_bases_58 (lv_at hl 1 rfl) ?_
  refine lv_imul hx hb dX12_bases_60 ?_
  refine z_i (v := 8) (by decide +kernel) ?_
  refine lv_iload hx hb dX12_bases_61 (lv_at hl 0 rfl) ?_
  refine lv_iadd hx hb dX12_bases_63 ?_
  refine z_i (v := 14) (by decide +kernel) ?_
  refine lv_iload hx hb dX12_bases_64 (lv_at hl 1 rfl) ?_
  refine lv_iload_n hx hb dX12_bases_66 rfl (lv_at hl 2 rfl) ?_
  refine lv_icmp_ge (tgt := 104) hx hb dX12_bases_67 (by decide) (fun _ => ?_) (fun h => absurd (by decide) h)
  refine lv_lconst (v := 0) hx hb dX12_bases_104 (by decide) ?_
  refine r_last C w 0 rfl (IX.of (k := 14) (by decide +kernel)) (g := (fun _ => 0)) (updL_c _ _) dX12_bases_105 (ws2 := [(q2, .inl (G.2.2.1, 64, .inr (.inl (fun _ => 0)))), (q0, .inr (12, [.int 0, .int 0, .int 0, .int 0, .int 0, .int 0, .int 0, .int (-1), .ref q3, .ref q1, .ref q4, .int 0, .ref q5, .ref q6, .ref q7, .ref q8, .ref q9, .ref q10, .ref q11, .int 0, .ref q12, .ref q13, .ref q14, .ref q15, .ref q16, .ref q17, .ref q18, .int 0, .int (-1), .int 0, .ref q19, .ref q20, .ref q21, .ref q22, .ref q23, .ref q24, .ref q25, .ref q26, .int 0, .ref q27, .ref q28, .ref q29, .ref q2, .ref q30, .int 0, .ref q31, .ref q32, .ref q33, .ref q34, .int 0, .ref q35, .ref q36, .ref q37, .ref q38, .int 0, .int 0, .ref q39, .ref q40, .ref q41, .ref q42])), (q1, .inl (G.2.1, 242, .inl (fun _ => 0)))]) rfl (fun H locs w => ?_)
  refine lv_iinc (v := 7) (lv' := [(5, .int 7), (4, .int 1), (3, .int 0), (2, .int 0), (0, .ref q0), (1, .int 0)]) hx hb dX12_bases_106 hl (k := 0) rfl (by decide +kernel) (by decide) rfl (fun ls hl => ?_)
  refine lv_goto (tgt := 45) hx hb dX12_bases_109 (by decide) ?_
  refine lv_iload hx hb dX12_bases_45 (lv_at hl 0 rfl) ?_
  refine lv_bipush (v := 8) hx hb dX12_bases_47 (by decide) ?_
  refine lv_icmp_ge (tgt := 112) hx hb dX12_bases_49 (by decide) (fun h => absurd h (by decide)) (fun _ => ?_)
  refine lv_aload_n hx hb dX12_bases_52 rfl (lv_at hl 4 rfl) ?_
  refine r_get C w 1 rfl fr_X12_106 rfl dX12_bases_53 ?_
  refine lv_bipush (v := 8) hx hb dX12_bases_56 (by decide) ?_
  refine lv_iload hx hb dX12_bases_58 (lv_at hl 1 rfl) ?_
  refine lv_imul hx hb dX12_bases_60 ?_
  refine z_i (v := 8) (by decide +kernel) ?_
  refine lv_iload hx hb dX12_bases_61 (lv_at hl 0 rfl) ?_
  refine lv_iadd hx hb dX12_bases_63 ?_
  refine z_i (v := 15) (by decide +kernel) ?_
  refine lv_iload hx hb dX12_bases_64 (lv_at hl 1 rfl) ?_
  refine lv_iload_n hx hb dX12_bases_66 rfl (lv_at hl 2 rfl) ?_
  refine lv_icmp_ge (tgt := 104) hx hb dX12_bases_67 (by decide) (fun _ => ?_) (fun h => absurd (by decide) h)
  refine lv_lconst (v := 0) hx hb dX12_bases_104 (by decide) ?_
  refine r_last C w 0 rfl (IX.of (k := 15) (by decide +kernel)) (g := (fun _ => 0)) (updL_c _ _) dX12_bases_105 (ws2 := [(q2, .inl (G.2.2.1, 64, .inr (.inl (fun _ => 0)))), (q0, .inr (12, [.int 0, .int 0, .int 0, .int 0, .int 0, .int 0, .int 0, .int (-1), .ref q3, .ref q1, .ref q4, .int 0, .ref q5, .ref q6, .ref q7, .ref q8, .ref q9, .ref q10, .ref q11, .int 0, .ref q12, .ref q13, .ref q14, .ref q15, .ref q16, .ref q17, .ref q18, .int 0, .int (-1), .int 0, .ref q19, .ref q20, .ref q21, .ref q22, .ref q23, .ref q24, .ref q25, .ref q26, .int 0, .ref q27, .ref q28, .ref q29, .ref q2, .ref q30, .int 0, .ref q31, .ref q32, .ref q33, .ref q34, .int 0, .ref q35, .ref q36, .ref q37, .ref q38, .int 0, .int 0, .ref q39, .ref q40, .ref q41, .ref q42])), (q1, .inl (G.2.1, 242, .inl (fun _ => 0)))]) rfl (fun H locs w => ?_)
  refine lv_iinc (v := 8) (lv' := [(5, .int 8), (4, .int 1), (3, .int 0), (2, .int 0), (0, .ref q0), (1, .int 0)]) hx hb dX12_bases_106 hl (k := 0) rfl (by decide +kernel) (by decide) rfl (fun ls hl => ?_)
  refine lv_goto (tgt := 45) hx hb dX12_bases_109 (by decide) ?_
  refine lv_iload hx hb dX12_bases_45 (lv_at hl 0 rfl) ?_
  refine lv_bipush (v := 8) hx hb dX12_bases_47 (by decide) ?_
  refine lv_icmp_ge (tgt := 112) hx hb dX12_bases_49 (by decide) (fun _ => ?_) (fun h => absurd (by decide) h)
  refine lv_iinc (v := 2) (lv' := [(4, .int 2), (5, .int 8), (3, .int 0), (2, .int 0), (0, .ref q0), (1, .int 0)]) hx hb dX12_bases_112 hl (k := 1) rfl (by decide +kernel) (by decide) rfl (fun ls hl => ?_)
  refine lv_goto (tgt := 35) hx hb dX12_bases_115 (by decide) ?_
  refine lv_iload hx hb dX12_bases_35 (lv_at hl 0 rfl) ?_
  refine lv_bipush (v := 8) hx hb dX12_bases_37 (by decide) ?_
  refine lv_icmp_ge (tgt := 118) hx hb dX12_bases_39 (by decide) (fun h => absurd h (by decide)) (fun _ => ?_)
  refine lv_iconst (v := 0) hx hb dX12_bases_42 (by decide) ?_
  refine lv_istore (lv' := [(5, .int 0), (4, .int 2), (3, .int 0), (2, .int 0), (0, .ref q0), (1, .int 0)]) hx hb dX12_bases_43 hl (by decide) rfl (fun ls hl => ?_)
  refine lv_iload hx hb dX12_bases_45 (lv_at hl 0 rfl) ?_
  refine lv_bipush (v := 8) hx hb dX12_bases_47 (by decide) ?_
  refine lv_icmp_ge (tgt := 112) hx hb dX12_bases_49 (by decide) (fun h => absurd h (by decide)) (fun _ => ?_)
  refine lv_aload_n hx hb dX12_bases_52 rfl (lv_at hl 4 rfl) ?_
  refine r_get C w 1 rfl fr_X12_106 rfl dX12_bases_53 ?_
  refine lv_bipush (v := 8) hx hb dX12_bases_56 (by decide) ?_
  refine lv_iload hx hb dX12_bases_58 (lv_at hl 1 rfl) ?_
  refine lv_imul hx hb dX12_bases_60 ?_
  refine z_i (v := 16) (by decide +kernel) ?_
  refine lv_iload hx hb dX12_bases_61 (lv_at hl 0 rfl) ?_
  refine lv_iadd hx hb dX12_bases_63 ?_
  refine z_i (v := 16) (by decide +kernel) ?_
  refine lv_iload hx hb dX12_bases_64 (lv_at hl 1 rfl) ?_
  refine lv_iload_n hx hb dX12_bases_66 rfl (lv_at hl 2 rfl) ?_
  refine lv_icmp_ge (tgt := 104) hx hb dX12_bases_67 (by decide) (fun _ => ?_) (fun h => absurd (by decide) h)
  refine lv_lconst (v := 0) hx hb dX12_bases_104 (by decide) ?_
  refine r_last C w 0 rfl (IX.of (k := 16) (by decide +kernel)) (g := (fun _ => 0)) (updL_c _ _) dX12_bases_105 (ws2 := [(q2, .inl (G.2.2.1, 64, .inr (.inl (fun _ => 0)))), (q0, .inr (12, [.int 0, .int 0, .int 0, .int 0, .int 0, .int 0, .int 0, .int (-1), .ref q3, .ref q1, .ref q4, .int 0, .ref q5, .ref q6, .ref q7, .ref q8, .ref q9, .ref q10, .ref q11, .int 0, .ref q12, .ref q13, .ref q14, .ref q15, .ref q16, .ref q17, .ref q18, .int 0, .int (-1), .int 0, .ref q19, .ref q20, .ref q21, .ref q22, .ref q23, .ref q24, .ref q25, .ref q26, .int 0, .ref q27, .ref q28, .ref q29, .ref q2, .ref q30, .int 0, .ref q31, .ref q32, .ref q33, .ref q34, .int 0, .ref q35, .ref q36, .ref q37, .ref q38, .int 0, .int 0, .ref q39, .ref q40, .ref q41, .ref q42])), (q1, .inl (G.2.1, 242, .inl (fun _ => 0)))]) rfl (fun H locs w => ?_)
  refine lv_iinc (v := 1) (lv' := [(5, .int 1), (4, .int 2), (3, .int 0), (2, .int 0), (0, .ref q0), (1, .int 0)]) hx hb dX12_bases_106 hl (k := 0) rfl (by decide +kernel) (by decide) rfl (fun ls hl => ?_)
  refine lv_goto (tgt := 45) hx hb dX12_bases_109 (by decide) ?_
  refine lv_iload hx hb dX12_bases_45 (lv_at hl 0 rfl) ?_
  refine lv_bipush (v := 8) hx hb dX12_bases_47 (by decide) ?_
  refine lv_icmp_ge (tgt := 112) hx hb dX12_bases_49 (by decide) (fun h => absurd h (by decide)) (fun _ => ?_)
  refine lv_aload_n hx hb dX12_bases_52 rfl (lv_at hl 4 rfl) ?_
  refine r_get C w 1 rfl fr_X12_106 rfl dX12_bases_53 ?_
  refine lv_bipush (v := 8) hx hb dX12_bases_56 (by decide) ?_
  refine lv_iload hx hb dX12_bases_58 (lv_at hl 1 rfl) ?_
  refine lv_imul hx hb dX12_bases_60 ?_
  refine z_i (v := 16) (by decide +kernel) ?_
  refine lv_iload hx hb dX12_bases_61 (lv_at hl 0 rfl) ?_
  refine lv_iadd hx hb dX12_bases_63 ?_
  refine z_i (v := 17) (by decide +kernel) ?_
  refine lv_iload hx hb dX12_bases_64 (lv_at hl 1 rfl) ?_
  refine lv_iload_n hx hb dX12_bases_66 rfl (lv_at hl 2 rfl) ?_
  refine lv_icmp_ge (tgt := 104) hx hb dX12_bases_67 (by decide) (fun _ => ?_) (fun h => absurd (by decide) h)
  refine lv_lconst (v := 0) hx hb dX12_bases_104 (by decide) ?_
  refine r_last C w 0 rfl (IX.of (k := 17) (by decide +kernel)) (g := (fun _ => 0)) (updL_c _ _) dX12_bases_105 (ws2 := [(q2, .inl (G.2.2.1, 64, .inr (.inl (fun _ => 0)))), (q0, .inr (12, [.int 0, .int 0, .int 0, .int 0, .int 0, .int 0, .int 0, .int (-1), .ref q3, .ref q1, .ref q4, .int 0, .ref q5, .ref q6, .ref q7, .ref q8, .ref q9, .ref q10, .ref q11, .int 0, .ref q12, .ref q13, .ref q14, .ref q15, .ref q16, .ref q17, .ref q18, .int 0, .int (-1), .int 0, .ref q19, .ref q20, .ref q21, .ref q22, .ref q23, .ref q24, .ref q25, .ref q26, .int 0, .ref q27, .ref q28, .ref q29, .ref q2, .ref q30, .int 0, .ref q31, .ref q32, .ref q33, .ref q34, .int 0, .ref q35, .ref q36, .ref q37, .ref q38, .int 0, .int 0, .ref q39, .ref q40, .ref q41, .ref q42])), (q1, .inl (G.2.1, 242, .inl (fun _ => 0)))]) rfl (fun H locs w => ?_)
  refine lv_iinc (v := 2) (lv' := [(5, .int 2), (4, .int 2), (3, .int 0), (2, .int 0), (0, .ref q0), (1, .int 0)]) hx hb dX12_bases_106 hl (k := 0) rfl (by decide +kernel) (by decide) rfl (fun ls hl => ?_)
  refine lv_goto (tgt := 45) hx hb dX12_bases_109 (by decide) ?_
  refine lv_iload hx hb dX12_bases_45 (lv_at hl 0 rfl) ?_
  refine lv_bipush (v := 8) hx hb dX12_bases_47 (by decide) ?_
  refine lv_icmp_ge (tgt := 112) hx hb dX12_bases_49 (by decide) (fun h => absurd h (by decide)) (fun _ => ?_)
  refine lv_aload_n hx hb dX12_bases_52 rfl (lv_at hl 4 rfl) ?_
  refine r_get C w 1 rfl fr_X12_106 rfl dX12_bases_53 ?_
  refine lv_bipush (v := 8) hx hb dX12_bases_56 (by decide) ?_
  refine lv_iload hx hb dX12_bases_58 (lv_at hl 1 rfl) ?_
  refine lv_imul hx hb dX12_bases_60 ?_
  refine z_i (v := 16) (by decide +kernel) ?_
  refine lv_iload hx hb dX12_bases_61 (lv_at hl 0 rfl) ?_
  refine lv_iadd hx hb dX12_bases_63 ?_
  refine z_i (v := 18) (by decide +kernel) ?_
  refine lv_iload hx hb dX12_bases_64 (lv_at hl 1 rfl) ?_
  refine lv_iload_n hx hb dX12_bases_66 rfl (lv_at hl 2 rfl) ?_
  refine lv_icmp_ge (tgt := 104) hx hb dX12_bases_67 (by decide) (fun _ => ?_) (fun h => absurd (by decide) h)
  refine lv_lconst (v := 0) hx hb dX12_bases_104 (by decide) ?_
  refine r_last C w 0 rfl (IX.of (k := 18) (by decide +kernel)) (g := (fun _ => 0)) (updL_c _ _) dX12_bases_105 (ws2 := [(q2, .inl (G.2.2.1, 64, .inr (.inl (fun _ => 0)))), (q0, .inr (12, [.int 0, .int 0, .int 0, .int 0, .int 0, .int 0, .int 0, .int (-1), .ref q3, .ref q1, .ref q4, .int 0, .ref q5, .ref q6, .ref q7, .ref q8, .ref q9, .ref q10, .ref q11, .int 0, .ref q12, .ref q13, .ref q14, .ref q15, .ref q16, .ref q17, .ref q18, .int 0, .int (-1), .int 0, .ref q19, .ref q20, .ref q21, .ref q22, .ref q23, .ref q24, .ref q25, .ref q26, .int 0, .ref q27, .ref q28, .ref q29, .ref q2, .ref q30, .int 0, .ref q31, .ref q32, .ref q33, .ref q34, .int 0, .ref q35, .ref q36, .ref q37, .ref q38, .int 0, .int 0, .ref q39, .ref q40, .ref q41, .ref q42])), (q1, .inl (G.2.1, 242, .inl (fun _ => 0)))]) rfl (fun H locs w => ?_)
  refine lv_iinc (v := 3) (lv' := [(5, .int 3), (4, .int 2), (3, .int 0), (2, .int 0), (0, .ref q0), (1, .int 0)]) hx hb dX12_bases_106 hl (k := 0) rfl (by decide +kernel) (by decide) rfl (fun ls hl => ?_)
  refine lv_goto (tgt := 45) hx hb dX12_bases_109 (by decide) ?_
  refine lv_iload hx hb dX12_bases_45 (lv_at hl 0 rfl) ?_
  refine lv_bipush (v := 8) hx hb dX12_bases_47 (by decide) ?_
  refine lv_icmp_ge (tgt := 112) hx hb dX12_bases_49 (by decide) (fun h => absurd h (by decide)) (fun _ => ?_)
  refine lv_aload_n hx hb dX12_bases_52 rfl (lv_at hl 4 rfl) ?_
  refine r_get C w 1 rfl fr_X12_106 rfl dX12_bases_53 ?_
  refine lv_bipush (v := 8) hx hb dX12_bases_56 (by decide) ?_
  refine lv_iload hx hb dX12_bases_58 (lv_at hl 1 rfl) ?_
  refine lv_imul hx hb dX12_bases_60 ?_
  refine z_i (v := 16) (by decide +kernel) ?_
  refine lv_iload hx hb dX12_bases_61 (lv_at hl 0 rfl) ?_
  refine lv_iadd hx hb dX12_bases_63 ?_
  refine z_i (v := 19) (by decide +kernel) ?_
  refine lv_iload hx hb dX12_bases_64 (lv_at hl 1 rfl) ?_
  refine lv_iload_n hx hb dX12_bases_66 rfl (lv_at hl 2 rfl) ?_
  refine lv_icmp_ge (tgt := 104) hx hb dX12_bases_67 (by decide) (fun _ => ?_) (fun h => absurd (by decide) h)
  refine lv_lconst (v := 0) hx hb dX12_bases_104 (by decide) ?_
  refine r_last C w 0 rfl (IX.of (k := 19) (by decide +kernel)) (g := (fun _ => 0)) (updL_c _ _) dX12_bases_105 (ws2 := [(q2, .inl (G.2.2.1, 64, .inr (.inl (fun _ => 0)))), (q0, .inr (12, [.int 0, .int 0, .int 0, .int 0, .int 0, .int 0, .int 0, .int (-1), .ref q3, .ref q1, .ref q4, .int 0, .ref q5, .ref q6, .ref q7, .ref q8, .ref q9, .ref q10, .ref q11, .int 0, .ref q12, .ref q13, .ref q14, .ref q15, .ref q16, .ref q17, .ref q18, .int 0, .int (-1), .int 0, .ref q19, .ref q20, .ref q21, .ref q22, .ref q23, .ref q24, .ref q25, .ref q26, .int 0, .ref q27, .ref q28, .ref q29, .ref q2, .ref q30, .int 0, .ref q31, .ref q32, .ref q33, .ref q34, .int 0, .ref q35, .ref q36, .ref q37, .ref q38, .int 0, .int 0, .ref q39, .ref q40, .ref q41, .ref q42])), (q1, .inl (G.2.1, 242, .inl (fun _ => 0)))]) rfl (fun H locs w => ?_)
  refine lv_iinc (v := 4) (lv' := [(5, .int 4), (4, .int 2), (3, .int 0), (2, .int 0), (0, .ref q0), (1, .int 0)]) hx hb dX12_bases_106 hl (k := 0) rfl (by decide +kernel) (by decide) rfl (fun ls hl => ?_)
  refine lv_goto (tgt := 45) hx hb dX12_bases_109 (by decide) ?_
  refine lv_iload hx hb dX12_bases_45 (lv_at hl 0 rfl) ?_
  refine lv_bipush (v := 8) hx hb dX12_bases_47 (by decide) ?_
  refine lv_icmp_ge (tgt := 112) hx hb dX12_bases_49 (by decide) (fun h => absurd h (by decide)) (fun _ => ?_)
  refine lv_aload_n hx hb dX12_bases_52 rfl (lv_at hl 4 rfl) ?_
  refine r_get C w 1 rfl fr_X12_106 rfl dX12_bases_53 ?_
  refine lv_bipush (v := 8) hx hb dX12_bases_56 (by decide) ?_
  refine lv_iload hx hb dX12_bases_58 (lv_at hl 1 rfl) ?_
  refine lv_imul hx hb dX12_bases_60 ?_
  refine z_i (v := 16) (by decide +kernel) ?_
  refine lv_iload hx hb dX12_bases_61 (lv_at hl 0 rfl) ?_
  refine lv_iadd hx hb dX12_bases_63 ?_
  refine z_i (v := 20) (by decide +kernel) ?_
  refine lv_iload hx hb dX12_bases_64 (lv_at hl 1 rfl) ?_
  refine lv_iload_n hx hb dX12_bases_66 rfl (lv_at hl 2 rfl) ?_
  refine lv_icmp_ge (tgt := 104) hx hb dX12_bases_67 (by decide) (fun _ => ?_) (fun h => absurd (by decide) h)
  refine lv_lconst (v := 0) hx hb dX12_bases_104 (by decide) ?_
  refine r_last C w 0 rfl (IX.of (k := 20) (by decide +kernel)) (g := (fun _ => 0)) (updL_c _ _) dX12_bases_105 (ws2 := [(q2, .inl (G.2.2.1, 64, .inr (.inl (fun _ => 0)))), (q0, .inr (12, [.int 0, .int 0, .int 0, .int 0, .int 0, .int 0, .int 0, .int (-1), .ref q3, .ref q1, .ref q4, .int 0, .ref q5, .ref q6, .ref q7, .ref q8, .ref q9, .ref q10, .ref q11, .int 0, .ref q12, .ref q13, .ref q14, .ref q15, .ref q16, .ref q17, .ref q18, .int 0, .int (-1), .int 0, .ref q19, .ref q20, .ref q21, .ref q22, .ref q23, .ref q24, .ref q25, .ref q26, .int 0, .ref q27, .ref q28, .ref q29, .ref q2, .ref q30, .int 0, .ref q31, .ref q32, .ref q33, .ref q34, .int 0, .ref q35, .ref q36, .ref q37, .ref q38, .int 0, .int 0, .ref q39, .ref q40, .ref q41, .ref q42])), (q1, .inl (G.2.1, 242, .inl (fun _ => 0)))]) rfl (fun H locs w => ?_)
  refine lv_iinc (v := 5) (lv' := [(5, .int 5), (4, .int 2), (3, .int 0), (2, .int 0), (0, .ref q0), (1, .int 0)]) hx hb dX12_bases_106 hl (k := 0) rfl (by decide +kernel) (by decide) rfl (fun ls hl => ?_)
  refine lv_goto (tgt := 45) hx hb dX12_bases_109 (by decide) ?_
  refine lv_iload hx hb dX12_bases_45 (lv_at hl 0 rfl) ?_
  refine lv_bipush (v := 8) hx hb dX12_bases_47 (by decide) ?_
  refine lv_icmp_ge (tgt := 112) hx hb dX12_bases_49 (by decide) (fun h => absurd h (by decide)) (fun _ => ?_)
  refine lv_aload_n hx hb dX12_bases_52 rfl (lv_at hl 4 rfl) ?_
  refine r_get C w 1 rfl fr_X12_106 rfl dX12_bases_53 ?_
  refine lv_bipush (v := 8) hx hb dX12_bases_56 (by decide) ?_
  refine lv_iload hx hb dX12_bases_58 (lv_at hl 1 rfl) ?_
  refine lv_imul hx hb dX12_bases_60 ?_
  refine z_i (v := 16) (by decide +kernel) ?_
  refine lv_iload hx hb dX12_bases_61 (lv_at hl 0 rfl) ?_
  refine lv_iadd hx hb dX12_bases_63 ?_
  refine z_i (v := 21) (by decide +kernel) ?_
  refine lv_iload hx hb dX12_bases_64 (lv_at hl 1 rfl) ?_
  refine lv_iload_n hx hb dX12_bases_66 rfl (lv_at hl 2 rfl) ?_
  refine lv_icmp_ge (tgt := 104) hx hb dX12_bases_67 (by decide) (fun _ => ?_) (fun h => absurd (by decide) h)
  refine lv_lconst (v := 0) hx hb dX12_bases_104 (by decide) ?_
  refine r_last C w 0 rfl (IX.of (k := 21) (by decide +kernel)) (g := (fun _ => 0)) (updL_c _ _) dX12_bases_105 (ws2 := [(q2, .inl (G.2.2.1, 64, .inr (.inl (fun _ => 0)))), (q0, .inr (12, [.int 0, .int 0, .int 0, .int 0, .int 0, .int 0, .int 0, .int (-1), .ref q3, .ref q1, .ref q4, .int 0, .ref q5, .ref q6, .ref q7, .ref q8, .ref q9, .ref q10, .ref q11, .int 0, .ref q12, .ref q13, .ref q14, .ref q15, .ref q16, .ref q17, .ref q18, .int 0, .int (-1), .int 0, .ref q19, .ref q20, .ref q21, .ref q22, .ref q23, .ref q24, .ref q25, .ref q26, .int 0, .ref q27, .ref q28, .ref q29, .ref q2, .ref q30, .int 0, .ref q31, .ref q32, .ref q33, .ref q34, .int 0, .ref q35, .ref q36, .ref q37, .ref q38, .int 0, .int 0, .ref q39, .ref q40, .ref q41, .ref q42])), (q1, .inl (G.2.1, 242, .inl (fun _ => 0)))]) rfl (fun H locs w => ?_)
  refine lv_iinc (v := 6) (lv' := [(5, .int 6), (4, .int 2), (3, .int 0), (2, .int 0), (0, .ref q0), (1, .int 0)]) hx hb dX12_bases_106 hl (k := 0) rfl (by decide +kernel) (by decide) rfl (fun ls hl => ?_)
  refine lv_goto (tgt := 45) hx hb dX12_bases_109 (by decide) ?_
  refine lv_iload hx hb dX12_bases_45 (lv_at hl 0 rfl) ?_
  refine lv_bipush (v := 8) hx hb dX12_bases_47 (by decide) ?_
  refine lv_icmp_ge (tgt := 112) hx hb dX12_bases_49 (by decide) (fun h => absurd h (by decide)) (fun _ => ?_)
  refine lv_aload_n hx hb dX12_bases_52 rfl (lv_at hl 4 rfl) ?_
  refine r_get C w 1 rfl fr_X12_106 rfl dX12_bases_53 ?_
  refine lv_bipush (v := 8) hx hb dX12_bases_56 (by decide) ?_
  refine lv_iload hx hb dX12_bases_58 (lv_at hl 1 rfl) ?_
  refine lv_imul hx hb dX12_bases_60 ?_
  refine z_i (v := 16) (by decide +kernel) ?_
  refine lv_iload hx hb dX12_bases_61 (lv_at hl 0 rfl) ?_
  refine lv_iadd hx hb dX12_bases_63 ?_
  refine z_i (v := 22) (by decide +kernel) ?_
  refine lv_iload hx hb dX12_bases_64 (lv_at hl 1 rfl) ?_
  refine lv_iload_n hx hb dX12_bases_66 rfl (lv_at hl 2 rfl) ?_
  refine lv_icmp_ge (tgt := 104) hx hb dX12_bases_67 (by decide) (fun _ => ?_) (fun h => absurd (by decide) h)
  refine lv_lconst (v := 0) hx hb dX12_bases_104 (by decide) ?_
  refine r_last C w 0 rfl (IX.of (k := 22) (by decide +kernel)) (g := (fun _ => 0)) (updL_c _ _) dX12_bases_105 (ws2 := [(q2, .inl (G.2.2.1, 64, .inr (.inl (fun _ => 0)))), (q0, .inr (12, [.int 0, .int 0, .int 0, .int 0, .int 0, .int 0, .int 0, .int (-1), .ref q3, .ref q1, .ref q4, .int 0, .ref q5, .ref q6, .ref q7, .ref q8, .ref q9, .ref q10, .ref q11, .int 0, .ref q12, .ref q13, .ref q14, .ref q15, .ref q16, .ref q17, .ref q18, .int 0, .int (-1), .int 0, .ref q19, .ref q20, .ref q21, .ref q22, .ref q23, .ref q24, .ref q25, .ref q26, .int 0, .ref q27, .ref q28, .ref q29, .ref q2, .ref q30, .int 0, .ref q31, .ref q32, .ref q33, .ref q34, .int 0, .ref q35, .ref q36, .ref q37, .ref q38, .int 0, .int 0, .ref q39, .ref q40, .ref q41, .ref q42])), (q1, .inl (G.2.1, 242, .inl (fun _ => 0)))]) rfl (fun H locs w => ?_)
  refine lv_iinc (v := 7) (lv' := [(5, .int 7), (4, .int 2), (3, .int 0), (2, .int 0), (0, .ref q0), (1, .int 0)]) hx hb dX12_bases_106 hl (k := 0) rfl (by decide +kernel) (by decide) rfl (fun ls hl => ?_)
  refine lv_goto (tgt := 45) hx hb dX12_bases_109 (by decide) ?_
  refine lv_iload hx hb dX12_bases_45 (lv_at hl 0 rfl) ?_
  refine lv_bipush (v := 8) hx hb dX12_bases_47 (by decide) ?_
  refine lv_icmp_ge (tgt := 112) hx hb dX12_bases_49 (by decide) (fun h => absurd h (by decide)) (fun _ => ?_)
  refine lv_aload_n hx hb dX12_bases_52 rfl (lv_at hl 4 rfl) ?_
  refine r_get C w 1 rfl fr_X12_106 rfl dX12_bases_53 ?_
  refine lv_bipush (v := 8) hx hb dX12_bases_56 (by decide) ?_
  refine lv_iload hx hb dX12_bases_58 (lv_at hl 1 rfl) ?_
  refine lv_imul hx hb dX12_bases_60 ?_
  refine z_i (v := 16) (by decide +kernel) ?_
  refine lv_iload hx hb dX12_bases_61 (lv_at hl 0 rfl) ?_
  refine lv_iadd hx hb dX12_bases_63 ?_
  refine z_i (v := 23) (by decide +kernel) ?_
  refine lv_iload hx hb dX12_bases_64 (lv_at hl 1 rfl) ?_
  refine lv_iload_n hx hb dX12_bases_66 rfl (lv_at hl 2 rfl) ?_
  refine lv_icmp_ge (tgt := 104) hx hb dX12_bases_67 (by decide) (fun _ => ?_) (fun h => absurd (by decide) h)
  refine lv_lconst (v := 0) hx hb dX12_bases_104 (by decide) ?_
  refine r_last C w 0 rfl (IX.of (k := 23) (by decide +kernel)) (g := (fun _ => 0)) (updL_c _ _) dX12_bases_105 (ws2 := [(q2, .inl (G.2.2.1, 64, .inr (.inl (fun _ => 0)))), (q0, .inr (12, [.int 0, .int 0, .int 0, .int 0, .int 0, .int 0, .int 0, .int (-1), .ref q3, .ref q1, .ref q4, .int 0, .ref q5, .ref q6, .ref q7, .ref q8, .ref q9, .ref q10, .ref q11, .int 0, .ref q12, .ref q13, .ref q14, .ref q15, .ref q16, .ref q17, .ref q18, .int 0, .int (-1), .int 0, .ref q19, .ref q20, .ref q21, .ref q22, .ref q23, .ref q24, .ref q25, .ref q26, .int 0, .ref q27, .ref q28, .ref q29, .ref q2, .ref q30, .int 0, .ref q31, .ref q32, .ref q33, .ref q34, .int 0, .ref q35, .ref q36, .ref q37, .ref q38, .int 0, .int 0, .ref q39, .ref q40, .ref q41, .ref q42])), (q1, .inl (G.2.1, 242, .inl (fun _ => 0)))]) rfl (fun H locs w => ?_)
  refine lv_iinc (v := 8) (lv' := [(5, .int 8), (4, .int 2), (3, .int 0), (2, .int 0), (0, .ref q0), (1, .int 0)]) hx hb dX12_bases_106 hl (k := 0) rfl (by decide +kernel) (by decide) rfl (fun ls hl => ?_)
  refine lv_goto (tgt := 45) hx hb dX12_bases_109 (by decide) ?_
  refine lv_iload hx hb dX12_bases_45 (lv_at hl 0 rfl) ?_
  refine lv_bipush (v := 8) hx hb dX12_bases_47 (by decide) ?_
  refine lv_icmp_ge (tgt := 112) hx hb dX12_bases_49 (by decide) (fun _ => ?_) (fun h => absurd (by decide) h)
  refine lv_iinc (v := 3) (lv' := [(4, .int 3), (5, .int 8), (3, .int 0), (2, .int 0), (0, .ref q0), (1, .int 0)]) hx hb dX12_bases_112 hl (k := 1) rfl (by decide +kernel) (by decide) rfl (fun ls hl => ?_)
  refine lv_goto (tgt := 35) hx hb dX12_bases_115 (by decide) ?_
  refine lv_iload hx hb dX12_bases_35 (lv_at hl 0 rfl) ?_
  refine lv_bipush (v := 8) hx hb dX12_bases_37 (by decide) ?_
  refine lv_icmp_ge (tgt := 118) hx hb dX12_bases_39 (by decide) (fun h => absurd h (by decide)) (fun _ => ?_)
  refine lv_iconst (v := 0) hx hb dX12_bases_42 (by decide) ?_
  refine lv_istore (lv' := [(5, .int 0), (4, .int 3), (3, .int 0), (2, .int 0), (0, .ref q0), (1, .int 0)]) hx hb dX12_bases_43 hl (by decide) rfl (fun ls hl => ?_)
  refine lv_iload hx hb dX12_bases_45 (lv_at hl 0 rfl) ?_
  refine lv_bipush (v := 8) hx hb dX12_bases_47 (by decide) ?_
  refine lv_icmp_ge (tgt := 112) hx hb dX12_bases_49 (by decide) (fun h => absurd h (by decide)) (fun _ => ?_)
  refine lv_aload_n hx hb dX12_bases_52 rfl (lv_at hl 4 rfl) ?_
  refine r_get C w 1 rfl fr_X12_106 rfl dX12_bases_53 ?_
  refine lv_bipush (v := 8) hx hb dX12_bases_56 (by decide) ?_
  refine lv_iload hx hb dX12_bases_58 (lv_at hl 1 rfl) ?_
  refine lv_imul hx hb dX12_bases_60 ?_
  refine z_i (v := 24) (by decide +kernel) ?_
  refine lv_iload hx hb dX12_bases_61 (lv_at hl 0 rfl) ?_
  refine lv_iadd hx hb dX12_bases_63 ?_
  refine z_i (v := 24) (by decide +kernel) ?_
  refine lv_iload hx hb dX12_bases_64 (lv_at hl 1 rfl) ?_
  refine lv_iload_n hx hb dX12_bases_66 rfl (lv_at hl 2 rfl) ?_
  refine lv_icmp_ge (tgt := 104) hx hb dX12_bases_67 (by decide) (fun _ => ?_) (fun h => absurd (by decide) h)
  refine lv_lconst (v := 0) hx hb dX12_bases_104 (by decide) ?_
  refine r_last C w 0 rfl (IX.of (k := 24) (by decide +kernel)) (g := (fun _ => 0)) (updL_c _ _) dX12_bases_105 (ws2 := [(q2, .inl (G.2.2.1, 64, .inr (.inl (fun _ => 0)))), (q0, .inr (12, [.int 0, .int 0, .int 0, .int 0, .int 0, .int 0, .int 0, .int (-1), .ref q3, .ref q1, .ref q4, .int 0, .ref q5, .ref q6, .ref q7, .ref q8, .ref q9, .ref q10, .ref q11, .int 0, .ref q12, .ref q13, .ref q14, .ref q15, .ref q16, .ref q17, .ref q18, .int 0, .int (-1), .int 0, .ref q19, .ref q20, .ref q21, .ref q22, .ref q23, .ref q24, .ref q25, .ref q26, .int 0, .ref q27, .ref q28, .ref q29, .ref q2, .ref q30, .int 0, .ref q31, .ref q32, .ref q33, .ref q34, .int 0, .ref q35, .ref q36, .ref q37, .ref q38, .int 0, .int 0, .ref q39, .ref q40, .ref q41, .ref q42])), (q1, .inl (G.2.1, 242, .inl (fun _ => 0)))]) rfl (fun H locs w => ?_)
  refine lv_iinc (v := 1) (lv' := [(5, .int 1), (4, .int 3), (3, .int 0), (2, .int 0), (0, .ref q0), (1, .int 0)]) hx hb dX12_bases_106 hl (k := 0) rfl (by decide +kernel) (by decide) rfl (fun ls hl => ?_)
  refine lv_goto (tgt := 45) hx hb dX12_bases_109 (by decide) ?_
  refine lv_iload hx hb dX12_bases_45 (lv_at hl 0 rfl) ?_
  refine lv_bipush (v := 8) hx hb dX12_bases_47 (by decide) ?_
  refine lv_icmp_ge (tgt := 112) hx hb dX12_bases_49 (by decide) (fun h => absurd h (by decide)) (fun _ => ?_)
  refine lv_aload_n hx hb dX12_bases_52 rfl (lv_at hl 4 rfl) ?_
  refine r_get C w 1 rfl fr_X12_106 rfl dX12_bases_53 ?_
  refine lv_bipush (v := 8) hx hb dX12_bases_56 (by decide) ?_
  refine lv_iload hx hb dX12_bases_58 (lv_at hl 1 rfl) ?_
  refine lv_imul hx hb dX12_bases_60 ?_
  refine z_i (v := 24) (by decide +kernel) ?_
  refine lv_iload hx hb dX12_bases_61 (lv_at hl 0 rfl) ?_
  refine lv_iadd hx hb dX12_bases_63 ?_
  refine z_i (v := 25) (by decide +kernel) ?_
  refine lv_iload hx hb dX12_bases_64 (lv_at hl 1 rfl) ?_
  refine lv_iload_n hx hb dX12_bases_66 rfl (lv_at hl 2 rfl) ?_
  refine lv_icmp_ge (tgt := 104) hx hb dX12_bases_67 (by decide) (fun _ => ?_) (fun h => absurd (by decide) h)
  refine lv_lconst (v := 0) hx hb dX12_bases_104 (by decide) ?_
  refine r_last C w 0 rfl (IX.of (k := 25) (by decide +kernel)) (g := (fun _ => 0)) (updL_c _ _) dX12_bases_105 (ws2 := [(q2, .inl (G.2.2.1, 64, .inr (.inl (fun _ => 0)))), (q0, .inr (12, [.int 0, .int 0, .int 0, .int 0, .int 0, .int 0, .int 0, .int (-1), .ref q3, .ref q1, .ref q4, .int 0, .ref q5, .ref q6, .ref q7, .ref q8, .ref q9, .ref q10, .ref q11, .int 0, .ref q12, .ref q13, .ref q14, .ref q15, .ref q16, .ref q17, .ref q18, .int 0, .int (-1), .int 0, .ref q19, .ref q20, .ref q21, .ref q22, .ref q23, .ref q24, .ref q25, .ref q26, .int 0, .ref q27, .ref q28, .ref q29, .ref q2, .ref q30, .int 0, .ref q31, .ref q32, .ref q33, .ref q34, .int 0, .ref q35, .ref q36, .ref q37, .ref q38, .int 0, .int 0, .ref q39, .ref q40, .ref q41, .ref q42])), (q1, .inl (G.2.1, 242, .inl (fun _ => 0)))]) rfl (fun H locs w => ?_)
  refine lv_iinc (v := 2) (lv' := [(5, .int 2), (4, .int 3), (3, .int 0), (2, .int 0), (0, .ref q0), (1, .int 0)]) hx hb dX12_bases_106 hl (k := 0) rfl (by decide +kernel) (by decide) rfl (fun ls hl => ?_)
  refine lv_goto (tgt := 45) hx hb dX12_bases_109 (by decide) ?_
  refine lv_iload hx hb dX12_bases_45 (lv_at hl 0 rfl) ?_
  refine lv_bipush (v := 8) hx hb dX12_bases_47 (by decide) ?_
  refine lv_icmp_ge (tgt := 112) hx hb dX12_bases_49 (by decide) (fun h => absurd h (by decide)) (fun _ => ?_)
  refine lv_aload_n hx hb dX12_bases_52 rfl (lv_at hl 4 rfl) ?_
  refine r_get C w 1 rfl fr_X12_106 rfl dX12_bases_53 ?_
  refine lv_bipush (v := 8) hx hb dX12_bases_56 (by decide) ?_
  refine lv_iload hx hb dX12_bases_58 (lv_at hl 1 rfl) ?_
  refine lv_imul hx hb dX12_bases_60 ?_
  refine z_i (v := 24) (by decide +kernel) ?_
  refine lv_iload hx hb dX12_bases_61 (lv_at hl 0 rfl) ?_
  refine lv_iadd hx hb dX12_bases_63 ?_
  refine z_i (v := 26) (by decide +kernel) ?_
  refine lv_iload hx hb dX12_bases_64 (lv_at hl 1 rfl) ?_
  refine lv_iload_n hx hb dX12_bases_66 rfl (lv_at hl 2 rfl) ?_
  refine lv_icmp_ge (tgt := 104) hx hb dX12_bases_67 (by decide) (fun _ => ?_) (fun h => absurd (by decide) h)
  refine lv_lconst (v := 0) hx hb dX12_bases_104 (by decide) ?_
  refine r_last C w 0 rfl (IX.of (k := 26) (by decide +kernel)) (g := (fun _ => 0)) (updL_c _ _) dX12_bases_105 (ws2 := [(q2, .inl (G.2.2.1, 64, .inr (.inl (fun _ => 0)))), (q0, .inr (12, [.int 0, .int 0, .int 0, .int 0, .int 0, .int 0, .int 0, .int (-1), .ref q3, .ref q1, .ref q4, .int 0, .ref q5, .ref q6, .ref q7, .ref q8, .ref q9, .ref q10, .ref q11, .int 0, .ref q12, .ref q13, .ref q14, .ref q15, .ref q16, .ref q17, .ref q18, .int 0, .int (-1), .int 0, .ref q19, .ref q20, .ref q21, .ref q22, .ref q23, .ref q24, .ref q25, .ref q26, .int 0, .ref q27, .ref q28, .ref q29, .ref q2, .ref q30, .int 0, .ref q31, .ref q32, .ref q33, .ref q34, .int 0, .ref q35, .ref q36, .ref q37, .ref q38, .int 0, .int 0, .ref q39, .ref q40, .ref q41, .ref q42])), (q1, .inl (G.2.1, 242, .inl (fun _ => 0)))]) rfl (fun H locs w => ?_)
  refine lv_iinc (v := 3) (lv' := [(5, .int 3), (4, .int 3), (3, .int 0), (2, .int 0), (0, .ref q0), (1, .int 0)]) hx hb dX12_bases_106 hl (k := 0) rfl (by decide +kernel) (by decide) rfl (fun ls hl => ?_)
  refine lv_goto (tgt := 45) hx hb dX12_bases_109 (by decide) ?_
  refine lv_iload hx hb dX12_bases_45 (lv_at hl 0 rfl) ?_
  refine lv_bipush (v := 8) hx hb dX12_bases_47 (by decide) ?_
  refine lv_icmp_ge (tgt := 112) hx hb dX12_bases_49 (by decide) (fun h => absurd h (by decide)) (fun _ => ?_)
  refine lv_aload_n hx hb dX12_bases_52 rfl (lv_at hl 4 rfl) ?_
  refine r_get C w 1 rfl fr_X12_106 rfl dX12_bases_53 ?_
  refine lv_bipush (v := 8) hx hb dX12_bases_56 (by decide) ?_
  refine lv_iload hx hb dX12_bases_58 (lv_at hl 1 rfl) ?_
  refine lv_imul hx hb dX12_bases_60 ?_
  refine z_i (v := 24) (by decide +kernel) ?_
  refine lv_iload hx hb dX12_bases_61 (lv_at hl 0 rfl) ?_
  refine lv_iadd hx hb dX12_bases_63 ?_
  refine z_i (v := 27) (by decide +kernel) ?_
  refine lv_iload hx hb dX12_bases_64 (lv_at hl 1 rfl) ?_
  refine lv_iload_n hx hb dX12_bases_66 rfl (lv_at hl 2 rfl) ?_
  refine lv_icmp_ge (tgt := 104) hx hb dX12_bases_67 (by decide) (fun _ => ?_) (fun h => absurd (by decide) h)
  refine lv_lconst (v := 0) hx hb dX12_bases_104 (by decide) ?_
  refine r_last C w 0 rfl (IX.of (k := 27) (by decide +kernel)) (g := (fun _ => 0)) (updL_c _ _) dX12_bases_105 (ws2 := [(q2, .inl (G.2.2.1, 64, .inr (.inl (fun _ => 0)))), (q0, .inr (12, [.int 0, .int 0, .int 0, .int 0, .int 0, .int 0, .int 0, .int (-1), .ref q3, .ref q1, .ref q4, .int 0, .ref q5, .ref q6, .ref q7, .ref q8, .ref q9, .ref q10, .ref q11, .int 0, .ref q12, .ref q13, .ref q14, .ref q15, .ref q16, .ref q17, .ref q18, .int 0, .int (-1), .int 0, .ref q19, .ref q20, .ref q21, .ref q22, .ref q23, .ref q24, .ref q25, .ref q26, .int 0, .ref q27, .ref q28, .ref q29, .ref q2, .ref q30, .int 0, .ref q31, .ref q32, .ref q33, .ref q34, .int 0, .ref q35, .ref q36, .ref q37, .ref q38, .int 0, .int 0, .ref q39, .ref q40, .ref q41, .ref q42])), (q1, .inl (G.2.1, 242, .inl (fun _ => 0)))]) rfl (fun H locs w => ?_)
  refine lv_iinc (v := 4) (lv' := [(5, .int 4), (4, .int 3), (3, .int 0), (2, .int 0), (0, .ref q0), (1, .int 0)]) hx hb dX12_bases_106 hl (k := 0) rfl (by decide +kernel) (by decide) rfl (fun ls hl => ?_)
  refine lv_goto (tgt := 45) hx hb dX12_bases_109 (by decide) ?_
  refine lv_iload hx hb dX12_bases_45 (lv_at hl 0 rfl) ?_
  refine lv_bipush (v := 8) hx hb dX12_bases_47 (by decide) ?_
  refine lv_icmp_ge (tgt := 112) hx hb dX12_bases_49 (by decide) (fun h => absurd h (by decide)) (fun _ => ?_)
  refine lv_aload_n hx hb dX12_bases_52 rfl (lv_at hl 4 rfl) ?_
  refine r_get C w 1 rfl fr_X12_106 rfl dX12_bases_53 ?_
  refine lv_bipush (v := 8) hx hb dX12_bases_56 (by decide) ?_
  refine lv_iload hx hb dX12_bases_58 (lv_at hl 1 rfl) ?_
  refine lv_imul hx hb dX12_bases_60 ?_
  refine z_i (v := 24) (by decide +kernel) ?_
  refine lv_iload hx hb dX12_bases_61 (lv_at hl 0 rfl) ?_
  refine lv_iadd hx hb dX12_bases_63 ?_
  refine z_i (v := 28) (by decide +kernel) ?_
  refine lv_iload hx hb dX12_bases_64 (lv_at hl 1 rfl) ?_
  refine lv_iload_n hx hb dX12_bases_66 rfl (lv_at hl 2 rfl) ?_
  refine lv_icmp_ge (tgt := 104) hx hb dX12_bases_67 (by decide) (fun _ => ?_) (fun h => absurd (by decide) h)
  refine lv_lconst (v := 0) hx hb dX12_bases_104 (by decide) ?_
  refine r_last C w 0 rfl (IX.of (k := 28) (by decide +kernel)) (g := (fun _ => 0)) (updL_c _ _) dX12_bases_105 (ws2 := [(q2, .inl (G.2.2.1, 64, .inr (.inl (fun _ => 0)))), (q0, .inr (12, [.int 0, .int 0, .int 0, .int 0, .int 0, .int 0, .int 0, .int (-1), .ref q3, .ref q1, .ref q4, .int 0, .ref q5, .ref q6, .ref q7, .ref q8, .ref q9, .ref q10, .ref q11, .int 0, .ref q12, .ref q13, .ref q14, .ref q15, .ref q16, .ref q17, .ref q18, .int 0, .int (-1), .int 0, .ref q19, .ref q20, .ref q21, .ref q22, .ref q23, .ref q24, .ref q25, .ref q26, .int 0, .ref q27, .ref q28, .ref q29, .ref q2, .ref q30, .int 0, .ref q31, .ref q32, .ref q33, .ref q34, .int 0, .ref q35, .ref q36, .ref q37, .ref q38, .int 0, .int 0, .ref q39, .ref q40, .ref q41, .ref q42])), (q1, .inl (G.2.1, 242, .inl (fun _ => 0)))]) rfl (fun H locs w => ?_)
  refine lv_iinc (v := 5) (lv' := [(5, .int 5), (4, .int 3), (3, .int 0), (2, .int 0), (0, .ref q0), (1, .int 0)]) hx hb dX12_bases_106 hl (k := 0) rfl (by decide +kernel) (by decide) rfl (fun ls hl => ?_)
  refine lv_goto (tgt := 45) hx hb dX12_bases_109 (by decide) ?_
  refine lv_iload hx hb dX12_bases_45 (lv_at hl 0 rfl) ?_
  refine lv_bipush (v := 8) hx hb dX12_bases_47 (by decide) ?_
  refine lv_icmp_ge (tgt := 112) hx hb dX12_bases_49 (by decide) (fun h => absurd h (by decide)) (fun _ => ?_)
  refine lv_aload_n hx hb dX12_bases_52 rfl (lv_at hl 4 rfl) ?_
  refine r_get C w 1 rfl fr_X12_106 rfl dX12_bases_53 ?_
  refine lv_bipush (v := 8) hx hb dX12_bases_56 (by decide) ?_
  refine lv_iload hx hb dX12_bases_58 (lv_at hl 1 rfl) ?_
  refine lv_imul hx hb dX12_bases_60 ?_
  refine z_i (v := 24) (by decide +kernel) ?_
  refine lv_iload hx hb dX12_bases_61 (lv_at hl 0 rfl) ?_
  refine lv_iadd hx hb dX12_bases_63 ?_
  refine z_i (v := 29) (by decide +kernel) ?_
  refine lv_iload hx hb dX12_bases_64 (lv_at hl 1 rfl) ?_
  refine lv_iload_n hx hb dX12_bases_66 rfl (lv_at hl 2 rfl) ?_
  refine lv_icmp_ge (tgt := 104) hx hb dX12_bases_67 (by decide) (fun _ => ?_) (fun h => absurd (by decide) h)
  refine lv_lconst (v := 0) hx hb dX12_bases_104 (by decide) ?_
  refine r_last C w 0 rfl (IX.of (k := 29) (by decide +kernel)) (g := (fun _ => 0)) (updL_c _ _) dX12_bases_105 (ws2 := [(q2, .inl (G.2.2.1, 64, .inr (.inl (fun _ => 0)))), (q0, .inr (12, [.int 0, .int 0, .int 0, .int 0, .int 0, .int 0, .int 0, .int (-1), .ref q3, .ref q1, .ref q4, .int 0, .ref q5, .ref q6, .ref q7, .ref q8, .ref q9, .ref q10, .ref q11, .int 0, .ref q12, .ref q13, .ref q14, .ref q15, .ref q16, .ref q17, .ref q18, .int 0, .int (-1), .int 0, .ref q19, .ref q20, .ref q21, .ref q22, .ref q23, .ref q24, .ref q25, .ref q26, .int 0, .ref q27, .ref q28, .ref q29, .ref q2, .ref q30, .int 0, .ref q31, .ref q32, .ref q33, .ref q34, .int 0, .ref q35, .ref q36, .ref q37, .ref q38, .int 0, .int 0, .ref q39, .ref q40, .ref q41, .ref q42])), (q1, .inl (G.2.1, 242, .inl (fun _ => 0)))]) rfl (fun H locs w => ?_)
  refine lv_iinc (v := 6) (lv' := [(5, .int 6), (4, .int 3), (3, .int 0), (2, .int 0), (0, .ref q0), (1, .int 0)]) hx hb dX12_bases_106 hl (k := 0) rfl (by decide +kernel) (by decide) rfl (fun ls hl => ?_)
  refine lv_goto (tgt := 45) hx hb dX12_bases_109 (by decide) ?_
  refine lv_iload hx hb dX12_bases_45 (lv_at hl 0 rfl) ?_
  refine lv_bipush (v := 8) hx hb dX12_bases_47 (by decide) ?_
  refine lv_icmp_ge (tgt := 112) hx hb dX12_bases_49 (by decide) (fun h => absurd h (by decide)) (fun _ => ?_)
  refine lv_aload_n hx hb dX12_bases_52 rfl (lv_at hl 4 rfl) ?_
  refine r_get C w 1 rfl fr_X12_106 rfl dX12_bases_53 ?_
  refine lv_bipush (v := 8) hx hb dX12_bases_56 (by decide) ?_
  refine lv_iload hx hb dX12_bases_58 (lv_at hl 1 rfl) ?_
  refine lv_imul hx hb dX12_bases_60 ?_
  refine z_i (v := 24) (by decide +kernel) ?_
  refine lv_iload hx hb dX12_bases_61 (lv_at hl 0 rfl) ?_
  refine lv_iadd hx hb dX12_bases_63 ?_
  refine z_i (v := 30) (by decide +kernel) ?_
  refine lv_iload hx hb dX12_bases_64 (lv_at hl 1 rfl) ?_
  refine lv_iload_n hx hb dX12_bases_66 rfl (lv_at hl 2 rfl) ?_
  refine lv_icmp_ge (tgt := 104) hx hb dX12_bases_67 (by decide) (fun _ => ?_) (fun h => absurd (by decide) h)
  refine lv_lconst (v := 0) hx hb dX12_bases_104 (by decide) ?_
  refine r_last C w 0 rfl (IX.of (k := 30) (by decide +kernel)) (g := (fun _ => 0)) (updL_c _ _) dX12_bases_105 (ws2 := [(q2, .inl (G.2.2.1, 64, .inr (.inl (fun _ => 0)))), (q0, .inr (12, [.int 0, .int 0, .int 0, .int 0, .int 0, .int 0, .int 0, .int (-1), .ref q3, .ref q1, .ref q4, .int 0, .ref q5, .ref q6, .ref q7, .ref q8, .ref q9, .ref q10, .ref q11, .int 0, .ref q12, .ref q13, .ref q14, .ref q15, .ref q16, .ref q17, .ref q18, .int 0, .int (-1), .int 0, .ref q19, .ref q20, .ref q21, .ref q22, .ref q23, .ref q24, .ref q25, .ref q26, .int 0, .ref q27, .ref q28, .ref q29, .ref q2, .ref q30, .int 0, .ref q31, .ref q32, .ref q33, .ref q34, .int 0, .ref q35, .ref q36, .ref q37, .ref q38, .int 0, .int 0, .ref q39, .ref q40, .ref q41, .ref q42])), (q1, .inl (G.2.1, 242, .inl (fun _ => 0)))]) rfl (fun H locs w => ?_)
  refine lv_iinc (v := 7) (lv' := [(5, .int 7), (4, .int 3), (3, .int 0), (2, .int 0), (0, .ref q0), (1, .int 0)]) hx hb dX12_bases_106 hl (k := 0) rfl (by decide +kernel) (by decide) rfl (fun ls hl => ?_)
  refine lv_goto (tgt := 45) hx hb dX12_bases_109 (by decide) ?_
  refine lv_iload hx hb dX12_bases_45 (lv_at hl 0 rfl) ?_
  refine lv_bipush (v := 8) hx hb dX12_bases_47 (by decide) ?_
  refine lv_icmp_ge (tgt := 112) hx hb dX12_bases_49 (by decide) (fun h => absurd h (by decide)) (fun _ => ?_)
  refine lv_aload_n hx hb dX12_bases_52 rfl (lv_at hl 4 rfl) ?_
  refine r_get C w 1 rfl fr_X12_106 rfl dX12_bases_53 ?_
  refine lv_bipush (v := 8) hx hb dX12_bases_56 (by decide) ?_
  refine lv_iload hx hb dX12_bases_58 (lv_at hl 1 rfl) ?_
  refine lv_imul hx hb dX12_bases_60 ?_
  refine z_i (v := 24) (by decide +kernel) ?_
  refine lv_iload hx hb dX12_bases_61 (lv_at hl 0 rfl) ?_
  refine lv_iadd hx hb dX12_bases_63 ?_
  refine z_i (v := 31) (by decide +kernel) ?_
  refine lv_iload hx hb dX12_bases_64 (lv_at hl 1 rfl) ?_
  refine lv_iload_n hx hb dX12_bases_66 rfl (lv_at hl 2 rfl) ?_
  refine lv_icmp_ge (tgt := 104) hx hb dX12_bases_67 (by decide) (fun _ => ?_) (fun h => absurd (by decide) h)
  refine lv_lconst (v := 0) hx hb dX12_bases_104 (by decide) ?_
  refine r_last C w 0 rfl (IX.of (k := 31) (by decide +kernel)) (g := (fun _ => 0)) (updL_c _ _) dX12_bases_105 (ws2 := [(q2, .inl (G.2.2.1, 64, .inr (.inl (fun _ => 0)))), (q0, .inr (12, [.int 0, .int 0, .int 0, .int 0, .int 0, .int 0, .int 0, .int (-1), .ref q3, .ref q1, .ref q4, .int 0, .ref q5, .ref q6, .ref q7, .ref q8, .ref q9, .ref q10, .ref q11, .int 0, .ref q12, .ref q13, .ref q14, .ref q15, .ref q16, .ref q17, .ref q18, .int 0, .int (-1), .int 0, .ref q19, .ref q20, .ref q21, .ref q22, .ref q23, .ref q24, .ref q25, .ref q26, .int 0, .ref q27, .ref q28, .ref q29, .ref q2, .ref q30, .int 0, .ref q31, .ref q32, .ref q33, .ref q34, .int 0, .ref q35, .ref q36, .ref q37, .ref q38, .int 0, .int 0, .ref q39, .ref q40, .ref q41, .ref q42])), (q1, .inl (G.2.1, 242, .inl (fun _ => 0)))]) rfl (fun H locs w => ?_)
  refine lv_iinc (v := 8) (lv' := [(5, .int 8), (4, .int 3), (3, .int 0), (2, .int 0), (0, .ref q0), (1, .int 0)]) hx hb dX12_bases_106 hl (k := 0) rfl (by decide +kernel) (by decide) rfl (fun ls hl => ?_)
  refine lv_goto (tgt := 45) hx hb dX12_bases_109 (by decide) ?_
  refine lv_iload hx hb dX12_bases_45 (lv_at hl 0 rfl) ?_
  refine lv_bipush (v := 8) hx hb dX12_bases_47 (by decide) ?_
  refine lv_icmp_ge (tgt := 112) hx hb dX12_bases_49 (by decide) (fun _ => ?_) (fun h => absurd (by decide) h)
  refine lv_iinc (v := 4) (lv' := [(4, .int 4), (5, .int 8), (3, .int 0), (2, .int 0), (0, .ref q0), (1, .int 0)]) hx hb dX12_bases_112 hl (k := 1) rfl (by decide +kernel) (by decide) rfl (fun ls hl => ?_)
  refine lv_goto (tgt := 35) hx hb dX12_bases_115 (by decide) ?_
  refine lv_iload hx hb dX12_bases_35 (lv_at hl 0 rfl) ?_
  refine lv_bipush (v := 8) hx hb dX12_bases_37 (by decide) ?_
  refine lv_icmp_ge (tgt := 118) hx hb dX12_bases_39 (by decide) (fun h => absurd h (by decide)) (fun _ => ?_)
  refine lv_iconst (v := 0) hx hb dX12_bases_42 (by decide) ?_
  refine lv_istore (lv' := [(5, .int 0), (4, .int 4), (3, .int 0), (2, .int 0), (0, .ref q0), (1, .int 0)]) hx hb dX12_bases_43 hl (by decide) rfl (fun ls hl => ?_)
  refine lv_iload hx hb dX12_bases_45 (lv_at hl 0 rfl) ?_
  refine lv_bipush (v := 8) hx hb dX12_bases_47 (by decide) ?_
  refine lv_icmp_ge (tgt := 112) hx hb dX12_bases_49 (by decide) (fun h => absurd h (by decide)) (fun _ => ?_)
  refine lv_aload_n hx hb dX12_bases_52 rfl (lv_at hl 4 rfl) ?_
  refine r_get C w 1 rfl fr_X12_106 rfl dX12_bases_53 ?_
  refine lv_bipush (v := 8) hx hb dX12_bases_56 (by decide) ?_
  refine lv_iload hx hb dX12_bases_58 (lv_at hl 1 rfl) ?_
  refine lv_imul hx hb dX12_bases_60 ?_
  refine z_i (v := 32) (by decide +kernel) ?_
  refine lv_iload hx hb dX12_bases_61 (lv_at hl 0 rfl) ?_
  refine lv_iadd hx hb dX12_bases_63 ?_
  refine z_i (v := 32) (by decide +kernel) ?_
  refine lv_iload hx hb dX12_bases_64 (lv_at hl 1 rfl) ?_
  refine lv_iload_n hx hb dX12_bases_66 rfl (lv_at hl 2 rfl) ?_
  refine lv_icmp_ge (tgt := 104) hx hb dX12_bases_67 (by decide) (fun _ => ?_) (fun h => absurd (by decide) h)
  refine lv_lconst (v := 0) hx hb dX12_bases_104 (by decide) ?_
  refine r_last C w 0 rfl (IX.of (k := 32) (by decide +kernel)) (g := (fun _ => 0)) (updL_c _ _) dX12_bases_105 (ws2 := [(q2, .inl (G.2.2.1, 64, .inr (.inl (fun _ => 0)))), (q0, .inr (12, [.int 0, .int 0, .int 0, .int 0, .int 0, .int 0, .int 0, .int (-1), .ref q3, .ref q1, .ref q4, .int 0, .ref q5, .ref q6, .ref q7, .ref q8, .ref q9, .ref q10, .ref q11, .int 0, .ref q12, .ref q13, .ref q14, .ref q15, .ref q16, .ref q17, .ref q18, .int 0, .int (-1), .int 0, .ref q19, .ref q20, .ref q21, .ref q22, .ref q23, .ref q24, .ref q25, .ref q26, .int 0, .ref q27, .ref q28, .ref q29, .ref q2, .ref q30, .int 0, .ref q31, .ref q32, .ref q33, .ref q34, .int 0, .ref q35, .ref q36, .ref q37, .ref q38, .int 0, .int 0, .ref q39, .ref q40, .ref q41, .ref q42])), (q1, .inl (G.2.1, 242, .inl (fun _ => 0)))]) rfl (fun H locs w => ?_)
  refine lv_iinc (v := 1) (lv' := [(5, .int 1), (4, .int 4), (3, .int 0), (2, .int 0), (0, .ref q0), (1, .int 0)]) hx hb dX12_bases_106 hl (k := 0) rfl (by decide +kernel) (by decide) rfl (fun ls hl => ?_)
  refine lv_goto (tgt := 45) hx hb dX12_bases_109 (by decide) ?_
  refine lv_iload hx hb dX12_bases_45 (lv_at hl 0 rfl) ?_
  refine lv_bipush (v := 8) hx hb dX12_bases_47 (by decide) ?_
  refine lv_icmp_ge (tgt := 112) hx hb dX12_bases_49 (by decide) (fun h => absurd h (by decide)) (fun _ => ?_)
  refine lv_aload_n hx hb dX12_bases_52 rfl (lv_at hl 4 rfl) ?_
  refine r_get C w 1 rfl fr_X12_106 rfl dX12_bases_53 ?_
  refine lv_bipush (v := 8) hx hb dX12_bases_56 (by decide) ?_
  refine lv_iload hx hb dX12_bases_58 (lv_at hl 1 rfl) ?_
  refine lv_imul hx hb dX12_bases_60 ?_
  refine z_i (v := 32) (by decide +kernel) ?_
  refine lv_iload hx hb dX12_bases_61 (lv_at hl 0 rfl) ?_
  refine lv_iadd hx hb dX12_bases_63 ?_
  refine z_i (v := 33) (by decide +kernel) ?_
  refine lv_iload hx hb dX12_bases_64 (lv_at hl 1 rfl) ?_
  refine lv_iload_n hx hb dX12_bases_66 rfl (lv_at hl 2 rfl) ?_
  refine lv_icmp_ge (tgt := 104) hx hb dX12_bases_67 (by decide) (fun _ => ?_) (fun h => absurd (by decide) h)
  refine lv_lconst (v := 0) hx hb dX12_bases_104 (by decide) ?_
  refine r_last C w 0 rfl (IX.of (k := 33) (by decide +kernel)) (g := (fun _ => 0)) (updL_c _ _) dX12_bases_105 (ws2 := [(q2, .inl (G.2.2.1, 64, .inr (.inl (fun _ => 0)))), (q0, .inr (12, [.int 0, .int 0, .int 0, .int 0, .int 0, .int 0, .int 0, .int (-1), .ref q3, .ref q1, .ref q4, .int 0, .ref q5, .ref q6, .ref q7, .ref q8, .ref q9, .ref q10, .ref q11, .int 0, .ref q12, .ref q13, .ref q14, .ref q15, .ref q16, .ref q17, .ref q18, .int 0, .int (-1), .int 0, .ref q19, .ref q20, .ref q21, .ref q22, .ref q23, .ref q24, .ref q25, .ref q26, .int 0, .ref q27, .ref q28, .ref q29, .ref q2, .ref q30, .int 0, .ref q31, .ref q32, .ref q33, .ref q34, .int 0, .ref q35, .ref q36, .ref q37, .ref q38, .int 0, .int 0, .ref q39, .ref q40, .ref q41, .ref q42])), (q1, .inl (G.2.1, 242, .inl (fun _ => 0)))]) rfl (fun H locs w => ?_)
  refine lv_iinc (v := 2) (lv' := [(5, .int 2), (4, .int 4), (3, .int 0), (2, .int 0), (0, .ref q0), (1, .int 0)]) hx hb dX12_bases_106 hl (k := 0) rfl (by decide +kernel) (by decide) rfl (fun ls hl => ?_)
  refine lv_goto (tgt := 45) hx hb dX12_bases_109 (by decide) ?_
  refine lv_iload hx hb dX12_bases_45 (lv_at hl 0 rfl) ?_
  refine lv_bipush (v := 8) hx hb dX12_bases_47 (by decide) ?_
  refine lv_icmp_ge (tgt := 112) hx hb dX12_bases_49 (by decide) (fun h => absurd h (by decide)) (fun _ => ?_)
  refine lv_aload_n hx hb dX12_bases_52 rfl (lv_at hl 4 rfl) ?_
  refine r_get C w 1 rfl fr_X12_106 rfl dX12_bases_53 ?_
  refine lv_bipush (v := 8) hx hb dX12_bases_56 (by decide) ?_
  refine lv_iload hx hb dX12_bases_58 (lv_at hl 1 rfl) ?_
  refine lv_imul hx hb dX12_bases_60 ?_
  refine z_i (v := 32) (by decide +kernel) ?_
  refine lv_iload hx hb dX12_bases_61 (lv_at hl 0 rfl) ?_
  refine lv_iadd hx hb dX12_bases_63 ?_
  refine z_i (v := 34) (by decide +kernel) ?_
  refine lv_iload hx hb dX12_bases_64 (lv_at hl 1 rfl) ?_
  refine lv_iload_n hx hb dX12_bases_66 rfl (lv_at hl 2 rfl) ?_
  refine lv_icmp_ge (tgt := 104) hx hb dX12_bases_67 (by decide) (fun _ => ?_) (fun h => absurd (by decide) h)
  refine lv_lconst (v := 0) hx hb dX12_bases_104 (by decide) ?_
  refine r_last C w 0 rfl (IX.of (k := 34) (by decide +kernel)) (g := (fun _ => 0)) (updL_c _ _) dX12_bases_105 (ws2 := [(q2, .inl (G.2.2.1, 64, .inr (.inl (fun _ => 0)))), (q0, .inr (12, [.int 0, .int 0, .int 0, .int 0, .int 0, .int 0, .int 0, .int (-1), .ref q3, .ref q1, .ref q4, .int 0, .ref q5, .ref q6, .ref q7, .ref q8, .ref q9, .ref q10, .ref q11, .int 0, .ref q12, .ref q13, .ref q14, .ref q15, .ref q16, .ref q17, .ref q18, .int 0, .int (-1), .int 0, .ref q19, .ref q20, .ref q21, .ref q22, .ref q23, .ref q24, .ref q25, .ref q26, .int 0, .ref q27, .ref q28, .ref q29, .ref q2, .ref q30, .int 0, .ref q31, .ref q32, .ref q33, .ref q34, .int 0, .ref q35, .ref q36, .ref q37, .ref q38, .int 0, .int 0, .ref q39, .ref q40, .ref q41, .ref q42])), (q1, .inl (G.2.1, 242, .inl (fun _ => 0)))]) rfl (fun H locs w => ?_)
  refine lv_iinc (v := 3) (lv' := [(5, .int 3), (4, .int 4), (3, .int 0), (2, .int 0), (0, .ref q0), (1, .int 0)]) hx hb dX12_bases_106 hl (k := 0) rfl (by decide +kernel) (by decide) rfl (fun ls hl => ?_)
  refine lv_goto (tgt := 45) hx hb dX12_bases_109 (by decide) ?_
  refine lv_iload hx hb dX12_bases_45 (lv_at hl 0 rfl) ?_
  refine lv_bipush (v := 8) hx hb dX12_bases_47 (by decide) ?_
  refine lv_icmp_ge (tgt := 112) hx hb dX12_bases_49 (by decide) (fun h => absurd h (by decide)) (fun _ => ?_)
  refine lv_aload_n hx hb dX12_bases_52 rfl (lv_at hl 4 rfl) ?_
  refine r_get C w 1 rfl fr_X12_106 rfl dX12_bases_53 ?_
  refine lv_bipush (v := 8) hx hb dX12_bases_56 (by decide) ?_
  refine lv_iload hx hb dX12_bases_58 (lv_at hl 1 rfl) ?_
  refine lv_imul hx hb dX12_bases_60 ?_
  refine z_i (v := 32) (by decide +kernel) ?_
  refine lv_iload hx hb dX12_bases_61 (lv_at hl 0 rfl) ?_
  refine lv_iadd hx hb dX12_bases_63 ?_
  refine z_i (v := 35) (by decide +kernel) ?_
  refine lv_iload hx hb dX12_bases_64 (lv_at hl 1 rfl) ?_
  refine lv_iload_n hx hb dX12_bases_66 rfl (lv_at hl 2 rfl) ?_
  refine lv_icmp_ge (tgt := 104) hx hb dX12_bases_67 (by decide) (fun _ => ?_) (fun h => absurd (by decide) h)
  refine lv_lconst (v := 0) hx hb dX12_bases_104 (by decide) ?_
  refine r_last C w 0 rfl (IX.of (k := 35) (by decide +kernel)) (g := (fun _ => 0)) (updL_c _ _) dX12_bases_105 (ws2 := [(q2, .inl (G.2.2.1, 64, .inr (.inl (fun _ => 0)))), (q0, .inr (12, [.int 0, .int 0, .int 0, .int 0, .int 0, .int 0, .int 0, .int (-1), .ref q3, .ref q1, .ref q4, .int 0, .ref q5, .ref q6, .ref q7, .ref q8, .ref q9, .ref q10, .ref q11, .int 0, .ref q12, .ref q13, .ref q14, .ref q15, .ref q16, .ref q17, .ref q18, .int 0, .int (-1), .int 0, .ref q19, .ref q20, .ref q21, .ref q22, .ref q23, .ref q24, .ref q25, .ref q26, .int 0, .ref q27, .ref q28, .ref q29, .ref q2, .ref q30, .int 0, .ref q31, .ref q32, .ref q33, .ref q34, .int 0, .ref q35, .ref q36, .ref q37, .ref q38, .int 0, .int 0, .ref q39, .ref q40, .ref q41, .ref q42])), (q1, .inl (G.2.1, 242, .inl (fun _ => 0)))]) rfl (fun H locs w => ?_)
  refine lv_iinc (v := 4) (lv' := [(5, .int 4), (4, .int 4), (3, .int 0), (2, .int 0), (0, .ref q0), (1, .int 0)]) hx hb dX12_bases_106 hl (k := 0) rfl (by decide +kernel) (by decide) rfl (fun ls hl => ?_)
  refine lv_goto (tgt := 45) hx hb dX12_bases_109 (by decide) ?_
  refine lv_iload hx hb dX12_bases_45 (lv_at hl 0 rfl) ?_
  refine lv_bipush (v := 8) hx hb dX12_bases_47 (by decide) ?_
  refine lv_icmp_ge (tgt := 112) hx hb dX12_bases_49 (by decide) (fun h => absurd h (by decide)) (fun _ => ?_)
  refine lv_aload_n hx hb dX12_bases_52 rfl (lv_at hl 4 rfl) ?_
  refine r_get C w 1 rfl fr_X12_106 rfl dX12_bases_53 ?_
  refine lv_bipush (v := 8) hx hb dX12_bases_56 (by decide) ?_
  refine lv_iload hx hb dX12_bases_58 (lv_at hl 1 rfl) ?_
  refine lv_imul hx hb dX12_bases_60 ?_
  refine z_i (v := 32) (by decide +kernel) ?_
  refine lv_iload hx hb dX12_bases_61 (lv_at hl 0 rfl) ?_
  refine lv_iadd hx hb dX12_bases_63 ?_
  refine z_i (v := 36) (by decide +kernel) ?_
  refine lv_iload hx hb dX12_bases_64 (lv_at hl 1 rfl) ?_
  refine lv_iload_n hx hb dX12_bases_66 rfl (lv_at hl 2 rfl) ?_
  refine lv_icmp_ge (tgt := 104) hx hb dX12_bases_67 (by decide) (fun _ => ?_) (fun h => absurd (by decide) h)
  refine lv_lconst (v := 0) hx hb dX12_bases_104 (by decide) ?_
  refine r_last C w 0 rfl (IX.of (k := 36) (by decide +kernel)) (g := (fun _ => 0)) (updL_c _ _) dX12_bases_105 (ws2 := [(q2, .inl (G.2.2.1, 64, .inr (.inl (fun _ => 0)))), (q0, .inr (12, [.int 0, .int 0, .int 0, .int 0, .int 0, .int 0, .int 0, .int (-1), .ref q3, .ref q1, .ref q4, .int 0, .ref q5, .ref q6, .ref q7, .ref q8, .ref q9, .ref q10, .ref q11, .int 0, .ref q12, .ref q13, .ref q14, .ref q15, .ref q16, .ref q17, .ref q18, .int 0, .int (-1), .int 0, .ref q19, .ref q20, .ref q21, .ref q22, .ref q23, .ref q24, .ref q25, .ref q26, .int 0, .ref q27, .ref q28, .ref q29, .ref q2, .ref q30, .int 0, .ref q31, .ref q32, .ref q33, .ref q34, .int 0, .ref q35, .ref q36, .ref q37, .ref q38, .int 0, .int 0, .ref q39, .ref q40, .ref q41, .ref q42])), (q1, .inl (G.2.1, 242, .inl (fun _ => 0)))]) rfl (fun H locs w => ?_)
  refine lv_iinc (v := 5) (lv' := [(5, .int 5), (4, .int 4), (3, .int 0), (2, .int 0), (0, .ref q0), (1, .int 0)]) hx hb dX12_bases_106 hl (k := 0) rfl (by decide +kernel) (by decide) rfl (fun ls hl => ?_)
  refine lv_goto (tgt := 45) hx hb dX12_bases_109 (by decide) ?_
  refine lv_iload hx hb dX12_bases_45 (lv_at hl 0 rfl) ?_
  refine lv_bipush (v := 8) hx hb dX12_bases_47 (by decide) ?_
  refine lv_icmp_ge (tgt := 112) hx hb dX12_bases_49 (by decide) (fun h => absurd h (by decide)) (fun _ => ?_)
  refine lv_aload_n hx hb dX12_bases_52 rfl (lv_at hl 4 rfl) ?_
  refine r_get C w 1 rfl fr_X12_106 rfl dX12_bases_53 ?_
  refine lv_bipush (v := 8) hx hb dX12_bases_56 (by decide) ?_
  refine lv_iload hx hb dX12_bases_58 (lv_at hl 1 rfl) ?_
  refine lv_imul hx hb dX12_bases_60 ?_
  refine z_i (v := 32) (by decide +kernel) ?_
  refine lv_iload hx hb dX12_bases_61 (lv_at hl 0 rfl) ?_
  refine lv_iadd hx hb dX12_bases_63 ?_
  refine z_i (v := 37) (by decide +kernel) ?_
  refine lv_iload hx hb dX12_bases_64 (lv_at hl 1 rfl) ?_
  refine lv_iload_n hx hb dX12_bases_66 rfl (lv_at hl 2 rfl) ?_
  refine lv_icmp_ge (tgt := 104) hx hb dX12_bases_67 (by decide) (fun _ => ?_) (fun h => absurd (by decide) h)
  refine lv_lconst (v := 0) hx hb dX12_bases_104 (by decide) ?_
  refine r_last C w 0 rfl (IX.of (k := 37) (by decide +kernel)) (g := (fun _ => 0)) (updL_c _ _) dX12_bases_105 (ws2 := [(q2, .inl (G.2.2.1, 64, .inr (.inl (fun _ => 0)))), (q0, .inr (12, [.int 0, .int 0, .int 0, .int 0, .int 0, .int 0, .int 0, .int (-1), .ref q3, .ref q1, .ref q4, .int 0, .ref q5, .ref q6, .ref q7, .ref q8, .ref q9, .ref q10, .ref q11, .int 0, .ref q12, .ref q13, .ref q14, .ref q15, .ref q16, .ref q17, .ref q18, .int 0, .int (-1), .int 0, .ref q19, .ref q20, .ref q21, .ref q22, .ref q23, .ref q24, .ref q25, .ref q26, .int 0, .ref q27, .ref q28, .ref q29, .ref q2, .ref q30, .int 0, .ref q31, .ref q32, .ref q33, .ref q34, .int 0, .ref q35, .ref q36, .ref q37, .ref q38, .int 0, .int 0, .ref q39, .ref q40, .ref q41, .ref q42])), (q1, .inl (G.2.1, 242, .inl (fun _ => 0)))]) rfl (fun H locs w => ?_)
  refine lv_iinc (v := 6) (lv' := [(5, .int 6), (4, .int 4), (3, .int 0), (2, .int 0), (0, .ref q0), (1, .int 0)]) hx hb dX12_bases_106 hl (k := 0) rfl (by decide +kernel) (by decide) rfl (fun ls hl => ?_)
  refine lv_goto (tgt := 45) hx hb dX12_bases_109 (by decide) ?_
  refine lv_iload hx hb dX12_bases_45 (lv_at hl 0 rfl) ?_
  refine lv_bipush (v := 8) hx hb dX12_bases_47 (by decide) ?_
  refine lv_icmp_ge (tgt := 112) hx hb dX12_bases_49 (by decide) (fun h => absurd h (by decide)) (fun _ => ?_)
  refine lv_aload_n hx hb dX12_bases_52 rfl (lv_at hl 4 rfl) ?_
  refine r_get C w 1 rfl fr_X12_106 rfl dX12_bases_53 ?_
  refine lv_bipush (v := 8) hx hb dX12_bases_56 (by decide) ?_
  refine lv_iload hx hb dX12_bases_58 (lv_at hl 1 rfl) ?_
  refine lv_imul hx hb dX12_bases_60 ?_
  refine z_i (v := 32) (by decide +kernel) ?_
  refine lv_iload hx hb dX12_bases_61 (lv_at hl 0 rfl) ?_
  refine lv_iadd hx hb dX12_bases_63 ?_
  refine z_i (v := 38) (by decide +kernel) ?_
  refine lv_iload hx hb dX12_bases_64 (lv_at hl 1 rfl) ?_
  refine lv_iload_n hx hb dX12_bases_66 rfl (lv_at hl 2 rfl) ?_
  refine lv_icmp_ge (tgt := 104) hx hb dX12_bases_67 (by decide) (fun _ => ?_) (fun h => absurd (by decide) h)
  refine lv_lconst (v := 0) hx hb dX12_bases_104 (by decide) ?_
  refine r_last C w 0 rfl (IX.of (k := 38) (by decide +kernel)) (g := (fun _ => 0)) (updL_c _ _) dX12_bases_105 (ws2 := [(q2, .inl (G.2.2.1, 64, .inr (.inl (fun _ => 0)))), (q0, .inr (12, [.int 0, .int 0, .int 0, .int 0, .int 0, .int 0, .int 0, .int (-1), .ref q3, .ref q1, .ref q4, .int 0, .ref q5, .ref q6, .ref q7, .ref q8, .ref q9, .ref q10, .ref q11, .int 0, .ref q12, .ref q13, .ref q14, .ref q15, .ref q16, .ref q17, .ref q18, .int 0, .int (-1), .int 0, .ref q19, .ref q20, .ref q21, .ref q22, .ref q23, .ref q24, .ref q25, .ref q26, .int 0, .ref q27, .ref q28, .ref q29, .ref q2, .ref q30, .int 0, .ref q31, .ref q32, .ref q33, .ref q34, .int 0, .ref q35, .ref q36, .ref q37, .ref q38, .int 0, .int 0, .ref q39, .ref q40, .ref q41, .ref q42])), (q1, .inl (G.2.1, 242, .inl (fun _ => 0)))]) rfl (fun H locs w => ?_)
  refine lv_iinc (v := 7) (lv' := [(5, .int 7), (4, .int 4), (3, .int 0), (2, .int 0), (0, .ref q0), (1, .int 0)]) hx hb dX12_bases_106 hl (k := 0) rfl (by decide +kernel) (by decide) rfl (fun ls hl => ?_)
  refine lv_goto (tgt := 45) hx hb dX12_bases_109 (by decide) ?_
  refine lv_iload hx hb dX12_bases_45 (lv_at hl 0 rfl) ?_
  refine lv_bipush (v := 8) hx hb dX12_bases_47 (by decide) ?_
  refine lv_icmp_ge (tgt := 112) hx hb dX12_bases_49 (by decide) (fun h => absurd h (by decide)) (fun _ => ?_)
  refine lv_aload_n hx hb dX12_bases_52 rfl (lv_at hl 4 rfl) ?_
  refine r_get C w 1 rfl fr_X12_106 rfl dX12_bases_53 ?_
  refine lv_bipush (v := 8) hx hb dX12_bases_56 (by decide) ?_
  refine lv_iload hx hb dX12_bases_58 (lv_at hl 1 rfl) ?_
  refine lv_imul hx hb dX12_bases_60 ?_
  refine z_i (v := 32) (by decide +kernel) ?_
  refine lv_iload hx hb dX12_bases_61 (lv_at hl 0 rfl) ?_
  refine lv_iadd hx hb dX12_bases_63 ?_
  refine z_i (v := 39) (by decide +kernel) ?_
  refine lv_iload hx hb dX12_bases_64 (lv_at hl 1 rfl) ?_
  refine lv_iload_n hx hb dX12_bases_66 rfl (lv_at hl 2 rfl) ?_
  refine lv_icmp_ge (tgt := 104) hx hb dX12_bases_67 (by decide) (fun _ => ?_) (fun h => absurd (by decide) h)
  refine lv_lconst (v := 0) hx hb dX12_bases_104 (by decide) ?_
  refine r_last C w 0 rfl (IX.of (k := 39) (by decide +kernel)) (g := (fun _ => 0)) (updL_c _ _) dX12_bases_105 (ws2 := [(q2, .inl (G.2.2.1, 64, .inr (.inl (fun _ => 0)))), (q0, .inr (12, [.int 0, .int 0, .int 0, .int 0, .int 0, .int 0, .int 0, .int (-1), .ref q3, .ref q1, .ref q4, .int 0, .ref q5, .ref q6, .ref q7, .ref q8, .ref q9, .ref q10, .ref q11, .int 0, .ref q12, .ref q13, .ref q14, .ref q15, .ref q16, .ref q17, .ref q18, .int 0, .int (-1), .int 0, .ref q19, .ref q20, .ref q21, .ref q22, .ref q23, .ref q24, .ref q25, .ref q26, .int 0, .ref q27, .ref q28, .ref q29, .ref q2, .ref q30, .int 0, .ref q31, .ref q32, .ref q33, .ref q34, .int 0, .ref q35, .ref q36, .ref q37, .ref q38, .int 0, .int 0, .ref q39, .ref q40, .ref q41, .ref q42])), (q1, .inl (G.2.1, 242, .inl (fun _ => 0)))]) rfl (fun H locs w => ?_)
  refine lv_iinc (v := 8) (lv' := [(5, .int 8), (4, .int 4), (3, .int 0), (2, .int 0), (0, .ref q0), (1, .int 0)]) hx hb dX12_bases_106 hl (k := 0) rfl (by decide +kernel) (by decide) rfl (fun ls hl => ?_)
  refine lv_goto (tgt := 45) hx hb dX12_bases_109 (by decide) ?_
  refine lv_iload hx hb dX12_bases_45 (lv_at hl 0 rfl) ?_
  refine lv_bipush (v := 8) hx hb dX12_bases_47 (by decide) ?_
  refine lv_icmp_ge (tgt := 112) hx hb dX12_bases_49 (by decide) (fun _ => ?_) (fun h => absurd (by decide) h)
  refine lv_iinc (v := 5) (lv' := [(4, .int 5), (5, .int 8), (3, .int 0), (2, .int 0), (0, .ref q0), (1, .int 0)]) hx hb dX12_bases_112 hl (k := 1) rfl (by decide +kernel) (by decide) rfl (fun ls hl => ?_)
  refine lv_goto (tgt := 35) hx hb dX12_bases_115 (by decide) ?_
  refine lv_iload hx hb dX12_bases_35 (lv_at hl 0 rfl) ?_
  refine lv_bipush (v := 8) hx hb dX12_bases_37 (by decide) ?_
  refine lv_icmp_ge (tgt := 118) hx hb dX12_bases_39 (by decide) (fun h => absurd h (by decide)) (fun _ => ?_)
  refine lv_iconst (v := 0) hx hb dX12_bases_42 (by decide) ?_
  refine lv_istore (lv' := [(5, .int 0), (4, .int 5), (3, .int 0), (2, .int 0), (0, .ref q0), (1, .int 0)]) hx hb dX12_bases_43 hl (by decide) rfl (fun ls hl => ?_)
  refine lv_iload hx hb dX12_bases_45 (lv_at hl 0 rfl) ?_
  refine lv_bipush (v := 8) hx hb dX12_bases_47 (by decide) ?_
  refine lv_icmp_ge (tgt := 112) hx hb dX12_bases_49 (by decide) (fun h => absurd h (by decide)) (fun _ => ?_)
  refine lv_aload_n hx hb dX12_bases_52 rfl (lv_at hl 4 rfl) ?_
  refine r_get C w 1 rfl fr_X12_106 rfl dX12_bases_53 ?_
  refine lv_bipush (v := 8) hx hb dX12_bases_56 (by decide) ?_
  refine lv_iload hx hb dX12_bases_58 (lv_at hl 1 rfl) ?_
  refine lv_imul hx hb dX12_bases_60 ?_
  refine z_i (v := 40) (by decide +kernel) ?_
  refine lv_iload hx hb dX12_bases_61 (lv_at hl 0 rfl) ?_
  refine lv_iadd hx hb dX12_bases_63 ?_
  refine z_i (v := 40) (by decide +kernel) ?_
  refine lv_iload hx hb dX12_bases_64 (lv_at hl 1 rfl) ?_
  refine lv_iload_n hx hb dX12_bases_66 rfl (lv_at hl 2 rfl) ?_
  refine lv_icmp_ge (tgt := 104) hx hb dX12_bases_67 (by decide) (fun _ => ?_) (fun h => absurd (by decide) h)
  refine lv_lconst (v := 0) hx hb dX12_bases_104 (by decide) ?_
  refine r_last C w 0 rfl (IX.of (k := 40) (by decide +kernel)) (g := (fun _ => 0)) (updL_c _ _) dX12_bases_105 (ws2 := [(q2, .inl (G.2.2.1, 64, .inr (.inl (fun _ => 0)))), (q0, .inr (12, [.int 0, .int 0, .int 0, .int 0, .int 0, .int 0, .int 0, .int (-1), .ref q3, .ref q1, .ref q4, .int 0, .ref q5, .ref q6, .ref q7, .ref q8, .ref q9, .ref q10, .ref q11, .int 0, .ref q12, .ref q13, .ref q14, .ref q15, .ref q16, .ref q17, .ref q18, .int 0, .int (-1), .int 0, .ref q19, .ref q20, .ref q21, .ref q22, .ref q23, .ref q24, .ref q25, .ref q26, .int 0, .ref q27, .ref q28, .ref q29, .ref q2, .ref q30, .int 0, .ref q31, .ref q32, .ref q33, .ref q34, .int 0, .ref q35, .ref q36, .ref q37, .ref q38, .int 0, .int 0, .ref q39, .ref q40, .ref q41, .ref q42])), (q1, .inl (G.2.1, 242, .inl (fun _ => 0)))]) rfl (fun H locs w => ?_)
  refine lv_iinc (v := 1) (lv' := [(5, .int 1), (4, .int 5), (3, .int 0), (2, .int 0), (0, .ref q0), (1, .int 0)]) hx hb dX12_bases_106 hl (k := 0) rfl (by decide +kernel) (by decide) rfl (fun ls hl => ?_)
  refine lv_goto (tgt := 45) hx hb dX12_bases_109 (by decide) ?_
  refine lv_iload hx hb dX12_bases_45 (lv_at hl 0 rfl) ?_
  refine lv_bipush (v := 8) hx hb dX12_bases_47 (by decide) ?_
  refine lv_icmp_ge (tgt := 112) hx hb dX12_bases_49 (by decide) (fun h => absurd h (by decide)) (fun _ => ?_)
  refine lv_aload_n hx hb dX12_bases_52 rfl (lv_at hl 4 rfl) ?_
  refine r_get C w 1 rfl fr_X12_106 rfl dX12_bases_53 ?_
  refine lv_bipush (v := 8) hx hb dX12_bases_56 (by decide) ?_
  refine lv_iload hx hb dX12_bases_58 (lv_at hl 1 rfl) ?_
  refine lv_imul hx hb dX12_bases_60 ?_
  refine z_i (v := 40) (by decide +kernel) ?_
  refine lv_iload hx hb dX12_bases_61 (lv_at hl 0 rfl) ?_
  refine lv_iadd hx hb dX12_bases_63 ?_
  refine z_i (v := 41) (by decide +kernel) ?_
  refine lv_iload hx hb dX12_bases_64 (lv_at hl 1 rfl) ?_
  refine lv_iload_n hx hb dX12_bases_66 rfl (lv_at hl 2 rfl) ?_
  refine lv_icmp_ge (tgt := 104) hx hb dX12_bases_67 (by decide) (fun _ => ?_) (fun h => absurd (by decide) h)
  refine lv_lconst (v := 0) hx hb dX12_bases_104 (by decide) ?_
  refine r_last C w 0 rfl (IX.of (k := 41) (by decide +kernel)) (g := (fun _ => 0)) (updL_c _ _) dX12_bases_105 (ws2 := [(q2, .inl (G.2.2.1, 64, .inr (.inl (fun _ => 0)))), (q0, .inr (12, [.int 0, .int 0, .int 0, .int 0, .int 0, .int 0, .int 0, .int (-1), .ref q3, .ref q1, .ref q4, .int 0, .ref q5, .ref q6, .ref q7, .ref q8, .ref q9, .ref q10, .ref q11, .int 0, .ref q12, .ref q13, .ref q14, .ref q15, .ref q16, .ref q17, .ref q18, .int 0, .int (-1), .int 0, .ref q19, .ref q20, .ref q21, .ref q22, .ref q23, .ref q24, .ref q25, .ref q26, .int 0, .ref q27, .ref q28, .ref q29, .ref q2, .ref q30, .int 0, .ref q31, .ref q32, .ref q33, .ref q34, .int 0, .ref q35, .ref q36, .ref q37, .ref q38, .int 0, .int 0, .ref q39, .ref q40, .ref q41, .ref q42])), (q1, .inl (G.2.1, 242, .inl (fun _ => 0)))]) rfl (fun H locs w => ?_)
  refine lv_iinc (v := 2) (lv' := [(5, .int 2), (4, .int 5), (3, .int 0), (2, .int 0), (0, .ref q0), (1, .int 0)]) hx hb dX12_bases_106 hl (k := 0) rfl (by decide +kernel) (by decide) rfl (fun ls hl => ?_)
  refine lv_goto (tgt := 45) hx hb dX12_bases_109 (by decide) ?_
  refine lv_iload hx hb dX12_bases_45 (lv_at hl 0 rfl) ?_
  refine lv_bipush (v := 8) hx hb dX12_bases_47 (by decide) ?_
  refine lv_icmp_ge (tgt := 112) hx hb dX12_bases_49 (by decide) (fun h => absurd h (by decide)) (fun _ => ?_)
  refine lv_aload_n hx hb dX12_bases_52 rfl (lv_at hl 4 rfl) ?_
  refine r_get C w 1 rfl fr_X12_106 rfl dX12_bases_53 ?_
  refine lv_bipush (v := 8) hx hb dX12_bases_56 (by decide) ?_
  refine lv_iload hx hb dX12_bases_58 (lv_at hl 1 rfl) ?_
  refine lv_imul hx hb dX12_bases_60 ?_
  refine z_i (v := 40) (by decide +kernel) ?_
  refine lv_iload hx hb dX12_bases_61 (lv_at hl 0 rfl) ?_
  refine lv_iadd hx hb dX12_bases_63 ?_
  refine z_i (v := 42) (by decide +kernel) ?_
  refine lv_iload hx hb dX12_bases_64 (lv_at hl 1 rfl) ?_
  refine lv_iload_n hx hb dX12_bases_66 rfl (lv_at hl 2 rfl) ?_
  refine lv_icmp_ge (tgt := 104) hx hb dX12_bases_67 (by decide) (fun _ => ?_) (fun h => absurd (by decide) h)
  refine lv_lconst (v := 0) hx hb dX12_bases_104 (by decide) ?_
  refine r_last C w 0 rfl (IX.of (k := 42) (by decide +kernel)) (g := (fun _ => 0)) (updL_c _ _) dX12_bases_105 (ws2 := [(q2, .inl (G.2.2.1, 64, .inr (.inl (fun _ => 0)))), (q0, .inr (12, [.int 0, .int 0, .int 0, .int 0, .int 0, .int 0, .int 0, .int (-1), .ref q3, .ref q1, .ref q4, .int 0, .ref q5, .ref q6, .ref q7, .ref q8, .ref q9, .ref q10, .ref q11, .int 0, .ref q12, .ref q13, .ref q14, .ref q15, .ref q16, .ref q17, .ref q18, .int 0, .int (-1), .int 0, .ref q19, .ref q20, .ref q21, .ref q22, .ref q23, .ref q24, .ref q25, .ref q26, .int 0, .ref q27, .ref q28, .ref q29, .ref q2, .ref q30, .int 0, .ref q31, .ref q32, .ref q33, .ref q34, .int 0, .ref q35, .ref q36, .ref q37, .ref q38, .int 0, .int 0, .ref q39, .ref q40, .ref q41, .ref q42])), (q1, .inl (G.2.1, 242, .inl (fun _ => 0)))]) rfl (fun H locs w => ?_)
  refine lv_iinc (v := 3) (lv' := [(5, .int 3), (4, .int 5), (3, .int 0), (2, .int 0), (0, .ref q0), (1, .int 0)]) hx hb dX12_bases_106 hl (k := 0) rfl (by decide +kernel) (by decide) rfl (fun ls hl => ?_)
  refine lv_goto (tgt := 45) hx hb dX12_bases_109 (by decide) ?_
  refine lv_iload hx hb dX12_bases_45 (lv_at hl 0 rfl) ?_
  refine lv_bipush (v := 8) hx hb dX12_bases_47 (by decide) ?_
  refine lv_icmp_ge (tgt := 112) hx hb dX12_bases_49 (by decide) (fun h => absurd h (by decide)) (fun _ => ?_)
  refine lv_aload_n hx hb dX12_bases_52 rfl (lv_at hl 4 rfl) ?_
  refine r_get C w 1 rfl fr_X12_106 rfl dX12_bases_53 ?_
  refine lv_bipush (v := 8) hx hb dX12_bases_56 (by decide) ?_
  refine lv_iload hx hb dX12_bases_58 (lv_at hl 1 rfl) ?_
  refine lv_imul hx hb dX12_bases_60 ?_
  refine z_i (v := 40) (by decide +kernel) ?_
  refine lv_iload hx hb dX12_bases_61 (lv_at hl 0 rfl) ?_
  refine lv_iadd hx hb dX12_bases_63 ?_
  refine z_i (v := 43) (by decide +kernel) ?_
  refine lv_iload hx hb dX12_bases_64 (lv_at hl 1 rfl) ?_
  refine lv_iload_n hx hb dX12_bases_66 rfl (lv_at hl 2 rfl) ?_
  refine lv_icmp_ge (tgt := 104) hx hb dX12_bases_67 (by decide) (fun _ => ?_) (fun h => absurd (by decide) h)
  refine lv_lconst (v := 0) hx hb dX12_bases_104 (by decide) ?_
  refine r_last C w 0 rfl (IX.of (k := 43) (by decide +kernel)) (g := (fun _ => 0)) (updL_c _ _) dX12_bases_105 (ws2 := [(q2, .inl (G.2.2.1, 64, .inr (.inl (fun _ => 0)))), (q0, .inr (12, [.int 0, .int 0, .int 0, .int 0, .int 0, .int 0, .int 0, .int (-1), .ref q3, .ref q1, .ref q4, .int 0, .ref q5, .ref q6, .ref q7, .ref q8, .ref q9, .ref q10, .ref q11, .int 0, .ref q12, .ref q13, .ref q14, .ref q15, .ref q16, .ref q17, .ref q18, .int 0, .int (-1), .int 0, .ref q19, .ref q20, .ref q21, .ref q22, .ref q23, .ref q24, .ref q25, .ref q26, .int 0, .ref q27, .ref q28, .ref q29, .ref q2, .ref q30, .int 0, .ref q31, .ref q32, .ref q33, .ref q34, .int 0, .ref q35, .ref q36, .ref q37, .ref q38, .int 0, .int 0, .ref q39, .ref q40, .ref q41, .ref q42])), (q1, .inl (G.2.1, 242, .inl (fun _ => 0)))]) rfl (fun H locs w => ?_)
  refine lv_iinc (v := 4) (lv' := [(5, .int 4), (4, .int 5), (3, .int 0), (2, .int 0), (0, .ref q0), (1, .int 0)]) hx hb dX12_bases_106 hl (k := 0) rfl (by decide +kernel) (by decide) rfl (fun ls hl => ?_)
  refine lv_goto (tgt := 45) hx hb dX12_bases_109 (by decide) ?_
  refine lv_iload hx hb dX12_bases_45 (lv_at hl 0 rfl) ?_
  refine lv_bipush (v := 8) hx hb dX12_bases_47 (by decide) ?_
  refine lv_icmp_ge (tgt := 112) hx hb dX12_bases_49 (by decide) (fun h => absurd h (by decide)) (fun _ => ?_)
  refine lv_aload_n hx hb dX12_bases_52 rfl (lv_at hl 4 rfl) ?_
  refine r_get C w 1 rfl fr_X12_106 rfl dX12_bases_53 ?_
  refine lv_bipush (v := 8) hx hb dX12_bases_56 (by decide) ?_
  refine lv_iload hx hb dX12_bases_58 (lv_at hl 1 rfl) ?_
  refine lv_imul hx hb dX12_bases_60 ?_
  refine z_i (v := 40) (by decide +kernel) ?_
  refine lv_iload hx hb dX12_bases_61 (lv_at hl 0 rfl) ?_
  refine lv_iadd hx hb dX12_bases_63 ?_
  refine z_i (v := 44) (by decide +kernel) ?_
  refine lv_iload hx hb dX12_bases_64 (lv_at hl 1 rfl) ?_
  refine lv_iload_n hx hb dX12_bases_66 rfl (lv_at hl 2 rfl) ?_
  refine lv_icmp_ge (tgt := 104) hx hb dX12_bases_67 (by decide) (fun _ => ?_) (fun h => absurd (by decide) h)
  refine lv_lconst (v := 0) hx hb dX12_bases_104 (by decide) ?_
  refine r_last C w 0 rfl (IX.of (k := 44) (by decide +kernel)) (g := (fun _ => 0)) (updL_c _ _) dX12_bases_105 (ws2 := [(q2, .inl (G.2.2.1, 64, .inr (.inl (fun _ => 0)))), (q0, .inr (12, [.int 0, .int 0, .int 0, .int 0, .int 0, .int 0, .int 0, .int (-1), .ref q3, .ref q1, .ref q4, .int 0, .ref q5, .ref q6, .ref q7, .ref q8, .ref q9, .ref q10, .ref q11, .int 0, .ref q12, .ref q13, .ref q14, .ref q15, .ref q16, .ref q17, .ref q18, .int 0, .int (-1), .int 0, .ref q19, .ref q20, .ref q21, .ref q22, .ref q23, .ref q24, .ref q25, .ref q26, .int 0, .ref q27, .ref q28, .ref q29, .ref q2, .ref q30, .int 0, .ref q31, .ref q32, .ref q33, .ref q34, .int 0, .ref q35, .ref q36, .ref q37, .ref q38, .int 0, .int 0, .ref q39, .ref q40, .ref q41, .ref q42])), (q1, .inl (G.2.1, 242, .inl (fun _ => 0)))]) rfl (fun H locs w => ?_)
  refine lv_iinc (v := 5) (lv' := [(5, .int 5), (4, .int 5), (3, .int 0), (2, .int 0), (0, .ref q0), (1, .int 0)]) hx hb dX12_bases_106 hl (k := 0) rfl (by decide +kernel) (by decide) rfl (fun ls hl => ?_)
  refine lv_goto (tgt := 45) hx hb dX12_bases_109 (by decide) ?_
  refine lv_iload hx hb dX12_bases_45 (lv_at hl 0 rfl) ?_
  refine lv_bipush (v := 8) hx hb dX12_bases_47 (by decide) ?_
  refine lv_icmp_ge (tgt := 112) hx hb dX12_bases_49 (by decide) (fun h => absurd h (by decide)) (fun _ => ?_)
  refine lv_aload_n hx hb dX12_bases_52 rfl (lv_at hl 4 rfl) ?_
  refine r_get C w 1 rfl fr_X12_106 rfl dX12_bases_53 ?_
  refine lv_bipush (v := 8) hx hb dX12_bases_56 (by decide) ?_
  refine lv_iload hx hb dX12_bases_58 (lv_at hl 1 rfl) ?_
  refine lv_imul hx hb dX12_bases_60 ?_
  refine z_i (v := 40) (by decide +kernel) ?_
  refine lv_iload hx hb dX12_bases_61 (lv_at hl 0 rfl) ?_
  refine lv_iadd hx hb dX12_bases_63 ?_
  refine z_i (v := 45) (by decide +kernel) ?_
  refine lv_iload hx hb dX12_bases_64 (lv_at hl 1 rfl) ?_
  refine lv_iload_n hx hb dX12_bases_66 rfl (lv_at hl 2 rfl) ?_
  refine lv_icmp_ge (tgt := 104) hx hb dX12_bases_67 (by decide) (fun _ => ?_) (fun h => absurd (by decide) h)
  refine lv_lconst (v := 0) hx hb dX12_bases_104 (by decide) ?_
  refine r_last C w 0 rfl (IX.of (k := 45) (by decide +kernel)) (g := (fun _ => 0)) (updL_c _ _) dX12_bases_105 (ws2 := [(q2, .inl (G.2.2.1, 64, .inr (.inl (fun _ => 0)))), (q0, .inr (12, [.int 0, .int 0, .int 0, .int 0, .int 0, .int 0, .int 0, .int (-1), .ref q3, .ref q1, .ref q4, .int 0, .ref q5, .ref q6, .ref q7, .ref q8, .ref q9, .ref q10, .ref q11, .int 0, .ref q12, .ref q13, .ref q14, .ref q15, .ref q16, .ref q17, .ref q18, .int 0, .int (-1), .int 0, .ref q19, .ref q20, .ref q21, .ref q22, .ref q23, .ref q24, .ref q25, .ref q26, .int 0, .ref q27, .ref q28, .ref q29, .ref q2, .ref q30, .int 0, .ref q31, .ref q32, .ref q33, .ref q34, .int 0, .ref q35, .ref q36, .ref q37, .ref q38, .int 0, .int 0, .ref q39, .ref q40, .ref q41, .ref q42])), (q1, .inl (G.2.1, 242, .inl (fun _ => 0)))]) rfl (fun H locs w => ?_)
  refine lv_iinc (v := 6) (lv' := [(5, .int 6), (4, .int 5), (3, .int 0), (2, .int 0), (0, .ref q0), (1, .int 0)]) hx hb dX12_bases_106 hl (k := 0) rfl (by decide +kernel) (by decide) rfl (fun ls hl => ?_)
  refine lv_goto (tgt := 45) hx hb dX12_bases_109 (by decide) ?_
  refine lv_iload hx hb dX12_bases_45 (lv_at hl 0 rfl) ?_
  refine lv_bipush (v := 8) hx hb dX12_bases_47 (by decide) ?_
  refine lv_icmp_ge (tgt := 112) hx hb dX12_bases_49 (by decide) (fun h => absurd h (by decide)) (fun _ => ?_)
  refine lv_aload_n hx hb dX12_bases_52 rfl (lv_at hl 4 rfl) ?_
  refine r_get C w 1 rfl fr_X12_106 rfl dX12_bases_53 ?_
  refine lv_bipush (v := 8) hx hb dX12_bases_56 (by decide) ?_
  refine lv_iload hx hb dX12_bases_58 (lv_at hl 1 rfl) ?_
  refine lv_imul hx hb dX12_bases_60 ?_
  refine z_i (v := 40) (by decide +kernel) ?_
  refine lv_iload hx hb dX12_bases_61 (lv_at hl 0 rfl) ?_
  refine lv_iadd hx hb dX12_bases_63 ?_
  refine z_i (v := 46) (by decide +kernel) ?_
  refine lv_iload hx hb dX12_bases_64 (lv_at hl 1 rfl) ?_
  refine lv_iload_n hx hb dX12_bases_66 rfl (lv_at hl 2 rfl) ?_
  refine lv_icmp_ge (tgt := 104) hx hb dX12_bases_67 (by decide) (fun _ => ?_) (fun h => absurd (by decide) h)
  refine lv_lconst (v := 0) hx hb dX12_bases_104 (by decide) ?_
  refine r_last C w 0 rfl (IX.of (k := 46) (by decide +kernel)) (g := (fun _ => 0)) (updL_c _ _) dX12_bases_105 (ws2 := [(q2, .inl (G.2.2.1, 64, .inr (.inl (fun _ => 0)))), (q0, .inr (12, [.int 0, .int 0, .int 0, .int 0, .int 0, .int 0, .int 0, .int (-1), .ref q3, .ref q1, .ref q4, .int 0, .ref q5, .ref q6, .ref q7, .ref q8, .ref q9, .ref q10, .ref q11, .int 0, .ref q12, .ref q13, .ref q14, .ref q15, .ref q16, .ref q17, .ref q18, .int 0, .int (-1), .int 0, .ref q19, .ref q20, .ref q21, .ref q22, .ref q23, .ref q24, .ref q25, .ref q26, .int 0, .ref q27, .ref q28, .ref q29, .ref q2, .ref q30, .int 0, .ref q31, .ref q32, .ref q33, .ref q34, .int 0, .ref q35, .ref q36, .ref q37, .ref q38, .int 0, .int 0, .ref q39, .ref q40, .ref q41, .ref q42])), (q1, .inl (G.2.1, 242, .inl (fun _ => 0)))]) rfl (fun H locs w => ?_)
  refine lv_iinc (v := 7) (lv' := [(5, .int 7), (4, .int 5), (3, .int 0), (2, .int 0), (0, .ref q0), (1, .int 0)]) hx hb dX12_bases_106 hl (k := 0) rfl (by decide +kernel) (by decide) rfl (fun ls hl => ?_)
  refine lv_goto (tgt := 45) hx hb dX12_bases_109 (by decide) ?_
  refine lv_iload hx hb dX12_bases_45 (lv_at hl 0 rfl) ?_
  refine lv_bipush (v := 8) hx hb dX12_bases_47 (by decide) ?_
  refine lv_icmp_ge (tgt := 112) hx hb dX12_bases_49 (by decide) (fun h => absurd h (by decide)) (fun _ => ?_)
  refine lv_aload_n hx hb dX12_bases_52 rfl (lv_at hl 4 rfl) ?_
  refine r_get C w 1 rfl fr_X12_106 rfl dX12_bases_53 ?_
  refine lv_bipush (v := 8) hx hb dX12_bases_56 (by decide) ?_
  refine lv_iload hx hb dX12_bases_58 (lv_at hl 1 rfl) ?_
  refine lv_imul hx hb dX12_bases_60 ?_
  refine z_i (v := 40) (by decide +kernel) ?_
  refine lv_iload hx hb dX12_bases_61 (lv_at hl 0 rfl) ?_
  refine lv_iadd hx hb dX12_bases_63 ?_
  refine z_i (v := 47) (by decide +kernel) ?_
  refine lv_iload hx hb dX12_bases_64 (lv_at hl 1 rfl) ?_
  refine lv_iload_n hx hb dX12_bases_66 rfl (lv_at hl 2 rfl) ?_
  refine lv_icmp_ge (tgt := 104) hx hb dX12_bases_67 (by decide) (fun _ => ?_) (fun h => absurd (by decide) h)
  refine lv_lconst (v := 0) hx hb dX12_bases_104 (by decide) ?_
  refine r_last C w 0 rfl (IX.of (k := 47) (by decide +kernel)) (g := (fun _ => 0)) (updL_c _ _) dX12_bases_105 (ws2 := [(q2, .inl (G.2.2.1, 64, .inr (.inl (fun _ => 0)))), (q0, .inr (12, [.int 0, .int 0, .int 0, .int 0, .int 0, .int 0, .int 0, .int (-1), .ref q3, .ref q1, .ref q4, .int 0, .ref q5, .ref q6, .ref q7, .ref q8, .ref q9, .ref q10, .ref q11, .int 0, .ref q12, .ref q13, .ref q14, .ref q15, .ref q16, .ref q17, .ref q18, .int 0, .int (-1), .int 0, .ref q19, .ref q20, .ref q21, .ref q22, .ref q23, .ref q24, .ref q25, .ref q26, .int 0, .ref q27, .ref q28, .ref q29, .ref q2, .ref q30, .int 0, .ref q31, .ref q32, .ref q33, .ref q34, .int 0, .ref q35, .ref q36, .ref q37, .ref q38, .int 0, .int 0, .ref q39, .ref q40, .ref q41, .ref q42])), (q1, .inl (G.2.1, 242, .inl (fun _ => 0)))]) rfl (fun H locs w => ?_)
  refine lv_iinc (v := 8) (lv' := [(5, .int 8), (4, .int 5), (3, .int 0), (2, .int 0), (0, .ref q0), (1, .int 0)]) hx hb dX12_bases_106 hl (k := 0) rfl (by decide +kernel) (by decide) rfl (fun ls hl => ?_)
  refine lv_goto (tgt := 45) hx hb dX12_bases_109 (by decide) ?_
  refine lv_iload hx hb dX12_bases_45 (lv_at hl 0 rfl) ?_
  refine lv_bipush (v := 8) hx hb dX12_bases_47 (by decide) ?_
  refine lv_icmp_ge (tgt := 112) hx hb dX12_bases_49 (by decide) (fun _ => ?_) (fun h => absurd (by decide) h)
  refine lv_iinc (v := 6) (lv' := [(4, .int 6), (5, .int 8), (3, .int 0), (2, .int 0), (0, .ref q0), (1, .int 0)]) hx hb dX12_bases_112 hl (k := 1) rfl (by decide +kernel) (by decide) rfl (fun ls hl => ?_)
  refine lv_goto (tgt := 35) hx hb dX12_bases_115 (by decide) ?_
  refine lv_iload hx hb dX12_bases_35 (lv_at hl 0 rfl) ?_
  refine lv_bipush (v := 8) hx hb dX12_bases_37 (by decide) ?_
  refine lv_icmp_ge (tgt := 118) hx hb dX12_bases_39 (by decide) (fun h => absurd h (by decide)) (fun _ => ?_)
  refine lv_iconst (v := 0) hx hb dX12_bases_42 (by decide) ?_
  refine lv_istore (lv' := [(5, .int 0), (4, .int 6), (3, .int 0), (2, .int 0), (0, .ref q0), (1, .int 0)]) hx hb dX12_bases_43 hl (by decide) rfl (fun ls hl => ?_)
  refine lv_iload hx hb dX12_bases_45 (lv_at hl 0 rfl) ?_
  refine lv_bipush (v := 8) hx hb dX12_bases_47 (by decide) ?_
  refine lv_icmp_ge (tgt := 112) hx hb dX12_bases_49 (by decide) (fun h => absurd h (by decide)) (fun _ => ?_)
  refine lv_aload_n hx hb dX12_bases_52 rfl (lv_at hl 4 rfl) ?_
  refine r_get C w 1 rfl fr_X12_106 rfl dX12_bases_53 ?_
  refine lv_bipush (v := 8) hx hb dX12_bases_56 (by decide) ?_
  refine lv_iload hx hb dX12_bases_58 (lv_at hl 1 rfl) ?_
  refine lv_imul hx hb dX12_bases_60 ?_
  refine z_i (v := 48) (by decide +kernel) ?_
  refine lv_iload hx hb dX12_bases_61 (lv_at hl 0 rfl) ?_
  refine lv_iadd hx hb dX12_bases_63 ?_
  refine z_i (v := 48) (by decide +kernel) ?_
  refine lv_iload hx hb dX12_bases_64 (lv_at hl 1 rfl) ?_
  refine lv_iload_n hx hb dX12_bases_66 rfl (lv_at hl 2 rfl) ?_
  refine lv_icmp_ge (tgt := 104) hx hb dX12_bases_67 (by decide) (fun _ => ?_) (fun h => absurd (by decide) h)
  refine lv_lconst (v := 0) hx hb dX12_bases_104 (by decide) ?_
  refine r_last C w 0 rfl (IX.of (k := 48) (by decide +kernel)) (g := (fun _ => 0)) (updL_c _ _) dX12_bases_105 (ws2 := [(q2, .inl (G.2.2.1, 64, .inr (.inl (fun _ => 0)))), (q0, .inr (12, [.int 0, .int 0, .int 0, .int 0, .int 0, .int 0, .int 0, .int (-1), .ref q3, .ref q1, .ref q4, .int 0, .ref q5, .ref q6, .ref q7, .ref q8, .ref q9, .ref q10, .ref q11, .int 0, .ref q12, .ref q13, .ref q14, .ref q15, .ref q16, .ref q17, .ref q18, .int 0, .int (-1), .int 0, .ref q19, .ref q20, .ref q21, .ref q22, .ref q23, .ref q24, .ref q25, .ref q26, .int 0, .ref q27, .ref q28, .ref q29, .ref q2, .ref q30, .int 0, .ref q31, .ref q32, .ref q33, .ref q34, .int 0, .ref q35, .ref q36, .ref q37, .ref q38, .int 0, .int 0, .ref q39, .ref q40, .ref q41, .ref q42])), (q1, .inl (G.2.1, 242, .inl (fun _ => 0)))]) rfl (fun H locs w => ?_)
  refine lv_iinc (v := 1) (lv' := [(5, .int 1), (4, .int 6), (3, .int 0), (2, .int 0), (0, .ref q0), (1, .int 0)]) hx hb dX12_bases_106 hl (k := 0) rfl (by decide +kernel) (by decide) rfl (fun ls hl => ?_)
  refine lv_goto (tgt := 45) hx hb dX12_bases_109 (by decide) ?_
  refine lv_iload hx hb dX12_bases_45 (lv_at hl 0 rfl) ?_
  refine lv_bipush (v := 8) hx hb dX12_bases_47 (by decide) ?_
  refine lv_icmp_ge (tgt := 112) hx hb dX12_bases_49 (by decide) (fun h => absurd h (by decide)) (fun _ => ?_)
  refine lv_aload_n hx hb dX12_bases_52 rfl (lv_at hl 4 rfl) ?_
  refine r_get C w 1 rfl fr_X12_106 rfl dX12_bases_53 ?_
  refine lv_bipush (v := 8) hx hb dX12_bases_56 (by decide) ?_
  refine lv_iload hx hb dX12_bases_58 (lv_at hl 1 rfl) ?_
  refine lv_imul hx hb dX12_bases_60 ?_
  refine z_i (v := 48) (by decide +kernel) ?_
  refine lv_iload hx hb dX12_bases_61 (lv_at hl 0 rfl) ?_
  refine lv_iadd hx hb dX12_bases_63 ?_
  refine z_i (v := 49) (by decide +kernel) ?_
  refine lv_iload hx hb dX12_bases_64 (lv_at hl 1 rfl) ?_
  refine lv_iload_n hx hb dX12_bases_66 rfl (lv_at hl 2 rfl) ?_
  refine lv_icmp_ge (tgt := 104) hx hb dX12_bases_67 (by decide) (fun _ => ?_) (fun h => absurd (by decide) h)
  refine lv_lconst (v := 0) hx hb dX12_bases_104 (by decide) ?_
  refine r_last C w 0 rfl (IX.of (k := 49) (by decide +kernel)) (g := (fun _ => 0)) (updL_c _ _) dX12_bases_105 (ws2 := [(q2, .inl (G.2.2.1, 64, .inr (.inl (fun _ => 0)))), (q0, .inr (12, [.int 0, .int 0, .int 0, .int 0, .int 0, .int 0, .int 0, .int (-1), .ref q3, .ref q1, .ref q4, .int 0, .ref q5, .ref q6, .ref q7, .ref q8, .ref q9, .ref q10, .ref q11, .int 0, .ref q12, .ref q13, .ref q14, .ref q15, .ref q16, .ref q17, .ref q18, .int 0, .int (-1), .int 0, .ref q19, .ref q20, .ref q21, .ref q22, .ref q23, .ref q24, .ref q25, .ref q26, .int 0, .ref q27, .ref q28, .ref q29, .ref q2, .ref q30, .int 0, .ref q31, .ref q32, .ref q33, .ref q34, .int 0, .ref q35, .ref q36, .ref q37, .ref q38, .int 0, .int 0, .ref q39, .ref q40, .ref q41, .ref q42])), (q1, .inl (G.2.1, 242, .inl (fun _ => 0)))]) rfl (fun H locs w => ?_)
  refine lv_iinc (v := 2) (lv' := [(5, .int 2), (4, .int 6), (3, .int 0), (2, .int 0), (0, .ref q0), (1, .int 0)]) hx hb dX12_bases_106 hl (k := 0) rfl (by decide +kernel) (by decide) rfl (fun ls hl => ?_)
  refine lv_goto (tgt := 45) hx hb dX12_bases_109 (by decide) ?_
  refine lv_iload hx hb dX12_bases_45 (lv_at hl 0 rfl) ?_
  refine lv_bipush (v := 8) hx hb dX12_bases_47 (by decide) ?_
  refine lv_icmp_ge (tgt := 112) hx hb dX12_bases_49 (by decide) (fun h => absurd h (by decide)) (fun _ => ?_)
  refine lv_aload_n hx hb dX12_bases_52 rfl (lv_at hl 4 rfl) ?_
  refine r_get C w 1 rfl fr_X12_106 rfl dX12_bases_53 ?_
  refine lv_bipush (v := 8) hx hb dX12_bases_56 (by decide) ?_
  refine lv_iload hx hb dX12_bases_58 (lv_at hl 1 rfl) ?_
  refine lv_imul hx hb dX12_bases_60 ?_
  refine z_i (v := 48) (by decide +kernel) ?_
  refine lv_iload hx hb dX12_bases_61 (lv_at hl 0 rfl) ?_
  refine lv_iadd hx hb dX12_bases_63 ?_
  refine z_i (v := 50) (by decide +kernel) ?_
  refine lv_iload hx hb dX12_bases_64 (lv_at hl 1 rfl) ?_
  refine lv_iload_n hx hb dX12_bases_66 rfl (lv_at hl 2 rfl) ?_
  refine lv_icmp_ge (tgt := 104) hx hb dX12_bases_67 (by decide) (fun _ => ?_) (fun h => absurd (by decide) h)
  refine lv_lconst (v := 0) hx hb dX12_bases_104 (by decide) ?_
  refine r_last C w 0 rfl (IX.of (k := 50) (by decide +kernel)) (g := (fun _ => 0)) (updL_c _ _) dX12_bases_105 (ws2 := [(q2, .inl (G.2.2.1, 64, .inr (.inl (fun _ => 0)))), (q0, .inr (12, [.int 0, .int 0, .int 0, .int 0, .int 0, .int 0, .int 0, .int (-1), .ref q3, .ref q1, .ref q4, .int 0, .ref q5, .ref q6, .ref q7, .ref q8, .ref q9, .ref q10, .ref q11, .int 0, .ref q12, .ref q13, .ref q14, .ref q15, .ref q16, .ref q17, .ref q18, .int 0, .int (-1), .int 0, .ref q19, .ref q20, .ref q21, .ref q22, .ref q23, .ref q24, .ref q25, .ref q26, .int 0, .ref q27, .ref q28, .ref q29, .ref q2, .ref q30, .int 0, .ref q31, .ref q32, .ref q33, .ref q34, .int 0, .ref q35, .ref q36, .ref q37, .ref q38, .int 0, .int 0, .ref q39, .ref q40, .ref q41, .ref q42])), (q1, .inl (G.2.1, 242, .inl (fun _ => 0)))]) rfl (fun H locs w => ?_)
  refine lv_iinc (v := 3) (lv' := [(5, .int 3), (4, .int 6), (3, .int 0), (2, .int 0), (0, .ref q0), (1, .int 0)]) hx hb dX12_bases_106 hl (k := 0) rfl (by decide +kernel) (by decide) rfl (fun ls hl => ?_)
  refine lv_goto (tgt := 45) hx hb dX12_bases_109 (by decide) ?_
  refine lv_iload hx hb dX12_bases_45 (lv_at hl 0 rfl) ?_
  refine lv_bipush (v := 8) hx hb dX12_bases_47 (by decide) ?_
  refine lv_icmp_ge (tgt := 112) hx hb dX12_bases_49 (by decide) (fun h => absurd h (by decide)) (fun _ => ?_)
  refine lv_aload_n hx hb dX12_bases_52 rfl (lv_at hl 4 rfl) ?_
  refine r_get C w 1 rfl fr_X12_106 rfl dX12_bases_53 ?_
  refine lv_bipush (v := 8) hx hb dX12_bases_56 (by decide) ?_
  refine lv_iload hx hb dX12_bases_58 (lv_at hl 1 rfl) ?_
  refine lv_imul hx hb dX12_bases_60 ?_
  refine z_i (v := 48) (by decide +kernel) ?_
  refine lv_iload hx hb dX12_bases_61 (lv_at hl 0 rfl) ?_
  refine lv_iadd hx hb dX12_bases_63 ?_
  refine z_i (v := 51) (by decide +kernel) ?_
  refine lv_iload hx hb dX12_bases_64 (lv_at hl 1 rfl) ?_
  refine lv_iload_n hx hb dX12_bases_66 rfl (lv_at hl 2 rfl) ?_
  refine lv_icmp_ge (tgt := 104) hx hb dX12_bases_67 (by decide) (fun _ => ?_) (fun h => absurd (by decide) h)
  refine lv_lconst (v := 0) hx hb dX12_bases_104 (by decide) ?_
  refine r_last C w 0 rfl (IX.of (k := 51) (by decide +kernel)) (g := (fun _ => 0)) (updL_c _ _) dX12_bases_105 (ws2 := [(q2, .inl (G.2.2.1, 64, .inr (.inl (fun _ => 0)))), (q0, .inr (12, [.int 0, .int 0, .int 0, .int 0, .int 0, .int 0, .int 0, .int (-1), .ref q3, .ref q1, .ref q4, .int 0, .ref q5, .ref q6, .ref q7, .ref q8, .ref q9, .ref q10, .ref q11, .int 0, .ref q12, .ref q13, .ref q14, .ref q15, .ref q16, .ref q17, .ref q18, .int 0, .int (-1), .int 0, .ref q19, .ref q20, .ref q21, .ref q22, .ref q23, .ref q24, .ref q25, .ref q26, .int 0, .ref q27, .ref q28, .ref q29, .ref q2, .ref q30, .int 0, .ref q31, .ref q32, .ref q33, .ref q34, .int 0, .ref q35, .ref q36, .ref q37, .ref q38, .int 0, .int 0, .ref q39, .ref q40, .ref q41, .ref q42])), (q1, .inl (G.2.1, 242, .inl (fun _ => 0)))]) rfl (fun H locs w => ?_)
  refine lv_iinc (v := 4) (lv' := [(5, .int 4), (4, .int 6), (3, .int 0), (2, .int 0), (0, .ref q0), (1, .int 0)]) hx hb dX12_bases_106 hl (k := 0) rfl (by decide +kernel) (by decide) rfl (fun ls hl => ?_)
  refine lv_goto (tgt := 45) hx hb dX12_bases_109 (by decide) ?_
  refine lv_iload hx hb dX12_bases_45 (lv_at hl 0 rfl) ?_
  refine lv_bipush (v := 8) hx hb dX12_bases_47 (by decide) ?_
  refine lv_icmp_ge (tgt := 112) hx hb dX12_bases_49 (by decide) (fun h => absurd h (by decide)) (fun _ => ?_)
  refine lv_aload_n hx hb dX12_bases_52 rfl (lv_at hl 4 rfl) ?_
  refine r_get C w 1 rfl fr_X12_106 rfl dX12_bases_53 ?_
  refine lv_bipush (v := 8) hx hb dX12_bases_56 (by decide) ?_
  refine lv_iload hx hb dX12_bases_58 (lv_at hl 1 rfl) ?_
  refine lv_imul hx hb dX12_bases_60 ?_
  refine z_i (v := 48) (by decide +kernel) ?_
  refine lv_iload hx hb dX12_bases_61 (lv_at hl 0 rfl) ?_
  refine lv_iadd hx hb dX12_bases_63 ?_
  refine z_i (v := 52) (by decide +kernel) ?_
  refine lv_iload hx hb dX12_bases_64 (lv_at hl 1 rfl) ?_
  refine lv_iload_n hx hb dX12_bases_66 rfl (lv_at hl 2 rfl) ?_
  refine lv_icmp_ge (tgt := 104) hx hb dX12_bases_67 (by decide) (fun _ => ?_) (fun h => absurd (by decide) h)
  refine lv_lconst (v := 0) hx hb dX12_bases_104 (by decide) ?_
  refine r_last C w 0 rfl (IX.of (k := 52) (by decide +kernel)) (g := (fun _ => 0)) (updL_c _ _) dX12_bases_105 (ws2 := [(q2, .inl (G.2.2.1, 64, .inr (.inl (fun _ => 0)))), (q0, .inr (12, [.int 0, .int 0, .int 0, .int 0, .int 0, .int 0, .int 0, .int (-1), .ref q3, .ref q1, .ref q4, .int 0, .ref q5, .ref q6, .ref q7, .ref q8, .ref q9, .ref q10, .ref q11, .int 0, .ref q12, .ref q13, .ref q14, .ref q15, .ref q16, .ref q17, .ref q18, .int 0, .int (-1), .int 0, .ref q19, .ref q20, .ref q21, .ref q22, .ref q23, .ref q24, .ref q25, .ref q26, .int 0, .ref q27, .ref q28, .ref q29, .ref q2, .ref q30, .int 0, .ref q31, .ref q32, .ref q33, .ref q34, .int 0, .ref q35, .ref q36, .ref q37, .ref q38, .int 0, .int 0, .ref q39, .ref q40, .ref q41, .ref q42])), (q1, .inl (G.2.1, 242, .inl (fun _ => 0)))]) rfl (fun H locs w => ?_)
  refine lv_iinc (v := 5) (lv' := [(5, .int 5), (4, .int 6), (3, .int 0), (2, .int 0), (0, .ref q0), (1, .int 0)]) hx hb dX12_bases_106 hl (k := 0) rfl (by decide +kernel) (by decide) rfl (fun ls hl => ?_)
  refine lv_goto (tgt := 45) hx hb dX12_bases_109 (by decide) ?_
  refine lv_iload hx hb dX12_bases_45 (lv_at hl 0 rfl) ?_
  refine lv_bipush (v := 8) hx hb dX12_bases_47 (by decide) ?_
  refine lv_icmp_ge (tgt := 112) hx hb dX12_bases_49 (by decide) (fun h => absurd h (by decide)) (fun _ => ?_)
  refine lv_aload_n hx hb dX12_bases_52 rfl (lv_at hl 4 rfl) ?_
  refine r_get C w 1 rfl fr_X12_106 rfl dX12_bases_53 ?_
  refine lv_bipush (v := 8) hx hb dX12_bases_56 (by decide) ?_
  refine lv_iload hx hb dX12_bases_58 (lv_at hl 1 rfl) ?_
  refine lv_imul hx hb dX12_bases_60 ?_
  refine z_i (v := 48) (by decide +kernel) ?_
  refine lv_iload hx hb dX12_bases_61 (lv_at hl 0 rfl) ?_
  refine lv_iadd hx hb dX12_bases_63 ?_
  refine z_i (v := 53) (by decide +kernel) ?_
  refine lv_iload hx hb dX12_bases_64 (lv_at hl 1 rfl) ?_
  refine lv_iload_n hx hb dX12_bases_66 rfl (lv_at hl 2 rfl) ?_
  refine lv_icmp_ge (tgt := 104) hx hb dX12_bases_67 (by decide) (fun _ => ?_) (fun h => absurd (by decide) h)
  refine lv_lconst (v := 0) hx hb dX12_bases_104 (by decide) ?_
  refine r_last C w 0 rfl (IX.of (k := 53) (by decide +kernel)) (g := (fun _ => 0)) (updL_c _ _) dX12_bases_105 (ws2 := [(q2, .inl (G.2.2.1, 64, .inr (.inl (fun _ => 0)))), (q0, .inr (12, [.int 0, .int 0, .int 0, .int 0, .int 0, .int 0, .int 0, .int (-1), .ref q3, .ref q1, .ref q4, .int 0, .ref q5, .ref q6, .ref q7, .ref q8, .ref q9, .ref q10, .ref q11, .int 0, .ref q12, .ref q13, .ref q14, .ref q15, .ref q16, .ref q17, .ref q18, .int 0, .int (-1), .int 0, .ref q19, .ref q20, .ref q21, .ref q22, .ref q23, .ref q24, .ref q25, .ref q26, .int 0, .ref q27, .ref q28, .ref q29, .ref q2, .ref q30, .int 0, .ref q31, .ref q32, .ref q33, .ref q34, .int 0, .ref q35, .ref q36, .ref q37, .ref q38, .int 0, .int 0, .ref q39, .ref q40, .ref q41, .ref q42])), (q1, .inl (G.2.1, 242, .inl (fun _ => 0)))]) rfl (fun H locs w => ?_)
  refine lv_iinc (v := 6) (lv' := [(5, .int 6), (4, .int 6), (3, .int 0), (2, .int 0), (0, .ref q0), (1, .int 0)]) hx hb dX12_bases_106 hl (k := 0) rfl (by decide +kernel) (by decide) rfl (fun ls hl => ?_)
  refine lv_goto (tgt := 45) hx hb dX12_bases_109 (by decide) ?_
  refine lv_iload hx hb dX12_bases_45 (lv_at hl 0 rfl) ?_
  refine lv_bipush (v := 8) hx hb dX12_bases_47 (by decide) ?_
  refine lv_icmp_ge (tgt := 112) hx hb dX12_bases_49 (by decide) (fun h => absurd h (by decide)) (fun _ => ?_)
  refine lv_aload_n hx hb dX12_bases_52 rfl (lv_at hl 4 rfl) ?_
  refine r_get C w 1 rfl fr_X12_106 rfl dX12_bases_53 ?_
  refine lv_bipush (v := 8) hx hb dX12_bases_56 (by decide) ?_
  refine lv_iload hx hb dX12_bases_58 (lv_at hl 1 rfl) ?_
  refine lv_imul hx hb dX12_bases_60 ?_
  refine z_i (v := 48) (by decide +kernel) ?_
  refine lv_iload hx hb dX12_bases_61 (lv_at hl 0 rfl) ?_
  refine lv_iadd hx hb dX12_bases_63 ?_
  refine z_i (v := 54) (by decide +kernel) ?_
  refine lv_iload hx hb dX12_bases_64 (lv_at hl 1 rfl) ?_
  refine lv_iload_n hx hb dX12_bases_66 rfl (lv_at hl 2 rfl) ?_
  refine lv_icmp_ge (tgt := 104) hx hb dX12_bases_67 (by decide) (fun _ => ?_) (fun h => absurd (by decide) h)
  refine lv_lconst (v := 0) hx hb dX12_bases_104 (by decide) ?_
  refine r_last C w 0 rfl (IX.of (k := 54) (by decide +kernel)) (g := (fun _ => 0)) (updL_c _ _) dX12_bases_105 (ws2 := [(q2, .inl (G.2.2.1, 64, .inr (.inl (fun _ => 0)))), (q0, .inr (12, [.int 0, .int 0, .int 0, .int 0, .int 0, .int 0, .int 0, .int (-1), .ref q3, .ref q1, .ref q4, .int 0, .ref q5, .ref q6, .ref q7, .ref q8, .ref q9, .ref q10, .ref q11, .int 0, .ref q12, .ref q13, .ref q14, .ref q15, .ref q16, .ref q17, .ref q18, .int 0, .int (-1), .int 0, .ref q19, .ref q20, .ref q21, .ref q22, .ref q23, .ref q24, .ref q25, .ref q26, .int 0, .ref q27, .ref q28, .ref q29, .ref q2, .ref q30, .int 0, .ref q31, .ref q32, .ref q33, .ref q34, .int 0, .ref q35, .ref q36, .ref q37, .ref q38, .int 0, .int 0, .ref q39, .ref q40, .ref q41, .ref q42])), (q1, .inl (G.2.1, 242, .inl (fun _ => 0)))]) rfl (fun H locs w => ?_)
  refine lv_iinc (v := 7) (lv' := [(5, .int 7), (4, .int 6), (3, .int 0), (2, .int 0), (0, .ref q0), (1, .int 0)]) hx hb dX12_bases_106 hl (k := 0) rfl (by decide +kernel) (by decide) rfl (fun ls hl => ?_)
  refine lv_goto (tgt := 45) hx hb dX12_bases_109 (by decide) ?_
  refine lv_iload hx hb dX12_bases_45 (lv_at hl 0 rfl) ?_
  refine lv_bipush (v := 8) hx hb dX12_bases_47 (by decide) ?_
  refine lv_icmp_ge (tgt := 112) hx hb dX12_bases_49 (by decide) (fun h => absurd h (by decide)) (fun _ => ?_)
  refine lv_aload_n hx hb dX12_bases_52 rfl (lv_at hl 4 rfl) ?_
  refine r_get C w 1 rfl fr_X12_106 rfl dX12_bases_53 ?_
  refine lv_bipush (v := 8) hx hb dX12_bases_56 (by decide) ?_
  refine lv_iload hx hb dX12_bases_58 (lv_at hl 1 rfl) ?_
  refine lv_imul hx hb dX12_bases_60 ?_
  refine z_i (v := 48) (by decide +kernel) ?_
  refine lv_iload hx hb dX12_bases_61 (lv_at hl 0 rfl) ?_
  refine lv_iadd hx hb dX12_bases_63 ?_
  refine z_i (v := 55) (by decide +kernel) ?_
  refine lv_iload hx hb dX12_bases_64 (lv_at hl 1 rfl) ?_
  refine lv_iload_n hx hb dX12_bases_66 rfl (lv_at hl 2 rfl) ?_
  refine lv_icmp_ge (tgt := 104) hx hb dX12_bases_67 (by decide) (fun _ => ?_) (fun h => absurd (by decide) h)
  refine lv_lconst (v := 0) hx hb dX12_bases_104 (by decide) ?_
  refine r_last C w 0 rfl (IX.of (k := 55) (by decide +kernel)) (g := (fun _ => 0)) (updL_c _ _) dX12_bases_105 (ws2 := [(q2, .inl (G.2.2.1, 64, .inr (.inl (fun _ => 0)))), (q0, .inr (12, [.int 0, .int 0, .int 0, .int 0, .int 0, .int 0, .int 0, .int (-1), .ref q3, .ref q1, .ref q4, .int 0, .ref q5, .ref q6, .ref q7, .ref q8, .ref q9, .ref q10, .ref q11, .int 0, .ref q12, .ref q13, .ref q14, .ref q15, .ref q16, .ref q17, .ref q18, .int 0, .int (-1), .int 0, .ref q19, .ref q20, .ref q21, .ref q22, .ref q23, .ref q24, .ref q25, .ref q26, .int 0, .ref q27, .ref q28, .ref q29, .ref q2, .ref q30, .int 0, .ref q31, .ref q32, .ref q33, .ref q34, .int 0, .ref q35, .ref q36, .ref q37, .ref q38, .int 0, .int 0, .ref q39, .ref q40, .ref q41, .ref q42])), (q1, .inl (G.2.1, 242, .inl (fun _ => 0)))]) rfl (fun H locs w => ?_)
  refine lv_iinc (v := 8) (lv' := [(5, .int 8), (4, .int 6), (3, .int 0), (2, .int 0), (0, .ref q0), (1, .int 0)]) hx hb dX12_bases_106 hl (k := 0) rfl (by decide +kernel) (by decide) rfl (fun ls hl => ?_)
  refine lv_goto (tgt := 45) hx hb dX12_bases_109 (by decide) ?_
  refine lv_iload hx hb dX12_bases_45 (lv_at hl 0 rfl) ?_
  refine lv_bipush (v := 8) hx hb dX12_bases_47 (by decide) ?_
  refine lv_icmp_ge (tgt := 112) hx hb dX12_bases_49 (by decide) (fun _ => ?_) (fun h => absurd (by decide) h)
  refine lv_iinc (v := 7) (lv' := [(4, .int 7), (5, .int 8), (3, .int 0), (2, .int 0), (0, .ref q0), (1, .int 0)]) hx hb dX12_bases_112 hl (k := 1) rfl (by decide +kernel) (by decide) rfl (fun ls hl => ?_)
  refine lv_goto (tgt := 35) hx hb dX12_bases_115 (by decide) ?_
  refine lv_iload hx hb dX12_bases_35 (lv_at hl 0 rfl) ?_
  refine lv_bipush (v := 8) hx hb dX12_bases_37 (by decide) ?_
  refine lv_icmp_ge (tgt := 118) hx hb dX12_bases_39 (by decide) (fun h => absurd h (by decide)) (fun _ => ?_)
  refine lv_iconst (v := 0) hx hb dX12_bases_42 (by decide) ?_
  refine lv_istore (lv' := [(5, .int 0), (4, .int 7), (3, .int 0), (2, .int 0), (0, .ref q0), (1, .int 0)]) hx hb dX12_bases_43 hl (by decide) rfl (fun ls hl => ?_)
  refine lv_iload hx hb dX12_bases_45 (lv_at hl 0 rfl) ?_
  refine lv_bipush (v := 8) hx hb dX12_bases_47 (by decide) ?_
  refine lv_icmp_ge (tgt := 112) hx hb dX12_bases_49 (by decide) (fun h => absurd h (by decide)) (fun _ => ?_)
  refine lv_aload_n hx hb dX12_bases_52 rfl (lv_at hl 4 rfl) ?_
  refine r_get C w 1 rfl fr_X12_106 rfl dX12_bases_53 ?_
  refine lv_bipush (v := 8) hx hb dX12_bases_56 (by decide) ?_
  refine lv_iload hx hb dX12_bases_58 (lv_at hl 1 rfl) ?_
  refine lv_imul hx hb dX12_bases_60 ?_
  refine z_i (v := 56) (by decide +kernel) ?_
  refine lv_iload hx hb dX12_bases_61 (lv_at hl 0 rfl) ?_
  refine lv_iadd hx hb dX12_bases_63 ?_
  refine z_i (v := 56) (by decide +kernel) ?_
  refine lv_iload hx hb dX12_bases_64 (lv_at hl 1 rfl) ?_
  refine lv_iload_n hx hb dX12_bases_66 rfl (lv_at hl 2 rfl) ?_
  refine lv_icmp_ge (tgt := 104) hx hb dX12_bases_67 (by decide) (fun _ => ?_) (fun h => absurd (by decide) h)
  refine lv_lconst (v := 0) hx hb dX12_bases_104 (by decide) ?_
  refine r_last C w 0 rfl (IX.of (k := 56) (by decide +kernel)) (g := (fun _ => 0)) (updL_c _ _) dX12_bases_105 (ws2 := [(q2, .inl (G.2.2.1, 64, .inr (.inl (fun _ => 0)))), (q0, .inr (12, [.int 0, .int 0, .int 0, .int 0, .int 0, .int 0, .int 0, .int (-1), .ref q3, .ref q1, .ref q4, .int 0, .ref q5, .ref q6, .ref q7, .ref q8, .ref q9, .ref q10, .ref q11, .int 0, .ref q12, .ref q13, .ref q14, .ref q15, .ref q16, .ref q17, .ref q18, .int 0, .int (-1), .int 0, .ref q19, .ref q20, .ref q21, .ref q22, .ref q23, .ref q24, .ref q25, .ref q26, .int 0, .ref q27, .ref q28, .ref q29, .ref q2, .ref q30, .int 0, .ref q31, .ref q32, .ref q33, .ref q34, .int 0, .ref q35, .ref q36, .ref q37, .ref q38, .int 0, .int 0, .ref q39, .ref q40, .ref q41, .ref q42])), (q1, .inl (G.2.1, 242, .inl (fun _ => 0)))]) rfl (fun H locs w => ?_)
  refine lv_iinc (v := 1) (lv' := [(5, .int 1), (4, .int 7), (3, .int 0), (2, .int 0), (0, .ref q0), (1, .int 0)]) hx hb dX12_bases_106 hl (k := 0) rfl (by decide +kernel) (by decide) rfl (fun ls hl => ?_)
  refine lv_goto (tgt := 45) hx hb dX12_bases_109 (by decide) ?_
  refine lv_iload hx hb dX12_bases_45 (lv_at hl 0 rfl) ?_
  refine lv_bipush (v := 8) hx hb dX12_bases_47 (by decide) ?_
  refine lv_icmp_ge (tgt := 112) hx hb dX12_bases_49 (by decide) (fun h => absurd h (by decide)) (fun _ => ?_)
  refine lv_aload_n hx hb dX12_bases_52 rfl (lv_at hl 4 rfl) ?_
  refine r_get C w 1 rfl fr_X12_106 rfl dX12_bases_53 ?_
  refine lv_bipush (v := 8) hx hb dX12_bases_56 (by decide) ?_
  refine lv_iload hx hb dX12_bases_58 (lv_at hl 1 rfl) ?_
  refine lv_imul hx hb dX12_bases_60 ?_
  refine z_i (v := 56) (by decide +kernel) ?_
  refine lv_iload hx hb dX12_bases_61 (lv_at hl 0 rfl) ?_
  refine lv_iadd hx hb dX12_bases_63 ?_
  refine z_i (v := 57) (by decide +kernel) ?_
  refine lv_iload hx hb dX12_bases_64 (lv_at hl 1 rfl) ?_
  refine lv_iload_n hx hb dX12_bases_66 rfl (lv_at hl 2 rfl) ?_
  refine lv_icmp_ge (tgt := 104) hx hb dX12_bases_67 (by decide) (fun _ => ?_) (fun h => absurd (by decide) h)
  refine lv_lconst (v := 0) hx hb dX12_bases_104 (by decide) ?_
  refine r_last C w 0 rfl (IX.of (k := 57) (by decide +kernel)) (g := (fun _ => 0)) (updL_c _ _) dX12_bases_105 (ws2 := [(q2, .inl (G.2.2.1, 64, .inr (.inl (fun _ => 0)))), (q0, .inr (12, [.int 0, .int 0, .int 0, .int 0, .int 0, .int 0, .int 0, .int (-1), .ref q3, .ref q1, .ref q4, .int 0, .ref q5, .ref q6, .ref q7, .ref q8, .ref q9, .ref q10, .ref q11, .int 0, .ref q12, .ref q13, .ref q14, .ref q15, .ref q16, .ref q17, .ref q18, .int 0, .int (-1), .int 0, .ref q19, .ref q20, .ref q21, .ref q22, .ref q23, .ref q24, .ref q25, .ref q26, .int 0, .ref q27, .ref q28, .ref q29, .ref q2, .ref q30, .int 0, .ref q31, .ref q32, .ref q33, .ref q34, .int 0, .ref q35, .ref q36, .ref q37, .ref q38, .int 0, .int 0, .ref q39, .ref q40, .ref q41, .ref q42])), (q1, .inl (G.2.1, 242, .inl (fun _ => 0)))]) rfl (fun H locs w => ?_)
  refine lv_iinc (v := 2) (lv' := [(5, .int 2), (4, .int 7), (3, .int 0), (2, .int 0), (0, .ref q0), (1, .int 0)]) hx hb dX12_bases_106 hl (k := 0) rfl (by decide +kernel) (by decide) rfl (fun ls hl => ?_)
  refine lv_goto (tgt := 45) hx hb dX12_bases_109 (by decide) ?_
  refine lv_iload hx hb dX12_bases_45 (lv_at hl 0 rfl) ?_
  refine lv_bipush (v := 8) hx hb dX12_bases_47 (by decide) ?_
  refine lv_icmp_ge (tgt := 112) hx hb dX12_bases_49 (by decide) (fun h => absurd h (by decide)) (fun _ => ?_)
  refine lv_aload_n hx hb dX12_bases_52 rfl (lv_at hl 4 rfl) ?_
  refine r_get C w 1 rfl fr_X12_106 rfl dX12_bases_53 ?_
  refine lv_bipush (v := 8) hx hb dX12_bases_56 (by decide) ?_
  refine lv_iload hx hb dX12_bases_58 (lv_at hl 1 rfl) ?_
  refine lv_imul hx hb dX12_bases_60 ?_
  refine z_i (v := 56) (by decide +kernel) ?_
  refine lv_iload hx hb dX12_bases_61 (lv_at hl 0 rfl) ?_
  refine lv_iadd hx hb dX12_bases_63 ?_
  refine z_i (v := 58) (by decide +kernel) ?_
  refine lv_iload hx hb dX12_bases_64 (lv_at hl 1 rfl) ?_
  refine lv_iload_n hx hb dX12_bases_66 rfl (lv_at hl 2 rfl) ?_
  refine lv_icmp_ge (tgt := 104) hx hb dX12_bases_67 (by decide) (fun _ => ?_) (fun h => absurd (by decide) h)
  refine lv_lconst (v := 0) hx hb dX12_bases_104 (by decide) ?_
  refine r_last C w 0 rfl (IX.of (k := 58) (by decide +kernel)) (g := (fun _ => 0)) (updL_c _ _) dX12_bases_105 (ws2 := [(q2, .inl (G.2.2.1, 64, .inr (.inl (fun _ => 0)))), (q0, .inr (12, [.int 0, .int 0, .int 0, .int 0, .int 0, .int 0, .int 0, .int (-1), .ref q3, .ref q1, .ref q4, .int 0, .ref q5, .ref q6, .ref q7, .ref q8, .ref q9, .ref q10, .ref q11, .int 0, .ref q12, .ref q13, .ref q14, .ref q15, .ref q16, .ref q17, .ref q18, .int 0, .int (-1), .int 0, .ref q19, .ref q20, .ref q21, .ref q22, .ref q23, .ref q24, .ref q25, .ref q26, .int 0, .ref q27, .ref q28, .ref q29, .ref q2, .ref q30, .int 0, .ref q31, .ref q32, .ref q33, .ref q34, .int 0, .ref q35, .ref q36, .ref q37, .ref q38, .int 0, .int 0, .ref q39, .ref q40, .ref q41, .ref q42])), (q1, .inl (G.2.1, 242, .inl (fun _ => 0)))]) rfl (fun H locs w => ?_)
  refine lv_iinc (v := 3) (lv' := [(5, .int 3), (4, .int 7), (3, .int 0), (2, .int 0), (0, .ref q0), (1, .int 0)]) hx hb dX12_bases_106 hl (k := 0) rfl (by decide +kernel) (by decide) rfl (fun ls hl => ?_)
  refine lv_goto (tgt := 45) hx hb dX12_bases_109 (by decide) ?_
  refine lv_iload hx hb dX12_bases_45 (lv_at hl 0 rfl) ?_
  refine lv_bipush (v := 8) hx hb dX12_bases_47 (by decide) ?_
  refine lv_icmp_ge (tgt := 112) hx hb dX12_bases_49 (by decide) (fun h => absurd h (by decide)) (fun _ => ?_)
  refine lv_aload_n hx hb dX12_bases_52 rfl (lv_at hl 4 rfl) ?_
  refine r_get C w 1 rfl fr_X12_106 rfl dX12_bases_53 ?_
  refine lv_bipush (v := 8) hx hb dX12_bases_56 (by decide) ?_
  refine lv_iload hx hb dX12_bases_58 (lv_at hl 1 rfl) ?_
  refine lv_imul hx hb dX12_bases_60 ?_
  refine z_i (v := 56) (by decide +kernel) ?_
  refine lv_iload hx hb dX12_bases_61 (lv_at hl 0 rfl) ?_
  refine lv_iadd hx hb dX12_bases_63 ?_
  refine z_i (v := 59) (by decide +kernel) ?_
  refine lv_iload hx hb dX12_bases_64 (lv_at hl 1 rfl) ?_
  refine lv_iload_n hx hb dX12_bases_66 rfl (lv_at hl 2 rfl) ?_
  refine lv_icmp_ge (tgt := 104) hx hb dX12_bases_67 (by decide) (fun _ => ?_) (fun h => absurd (by decide) h)
  refine lv_lconst (v := 0) hx hb dX12_bases_104 (by decide) ?_
  refine r_last C w 0 rfl (IX.of (k := 59) (by decide +kernel)) (g := (fun _ => 0)) (updL_c _ _) dX12_bases_105 (ws2 := [(q2, .inl (G.2.2.1, 64, .inr (.inl (fun _ => 0)))), (q0, .inr (12, [.int 0, .int 0, .int 0, .int 0, .int 0, .int 0, .int 0, .int (-1), .ref q3, .ref q1, .ref q4, .int 0, .ref q5, .ref q6, .ref q7, .ref q8, .ref q9, .ref q10, .ref q11, .int 0, .ref q12, .ref q13, .ref q14, .ref q15, .ref q16, .ref q17, .ref q18, .int 0, .int (-1), .int 0, .ref q19, .ref q20, .ref q21, .ref q22, .ref q23, .ref q24, .ref q25, .ref q26, .int 0, .ref q27, .ref q28, .ref q29, .ref q2, .ref q30, .int 0, .ref q31, .ref q32, .ref q33, .ref q34, .int 0, .ref q35, .ref q36, .ref q37, .ref q38, .int 0, .int 0, .ref q39, .ref q40, .ref q41, .ref q42])), (q1, .inl (G.2.1, 242, .inl (fun _ => 0)))]) rfl (fun H locs w => ?_)
  refine lv_iinc (v := 4) (lv' := [(5, .int 4), (4, .int 7), (3, .int 0), (2, .int 0), (0, .ref q0), (1, .int 0)]) hx hb dX12_bases_106 hl (k := 0) rfl (by decide +kernel) (by decide) rfl (fun ls hl => ?_)
  refine lv_goto (tgt := 45) hx hb dX12_bases_109 (by decide) ?_
  refine lv_iload hx hb dX12_bases_45 (lv_at hl 0 rfl) ?_
  refine lv_bipush (v := 8) hx hb dX12_bases_47 (by decide) ?_
  refine lv_icmp_ge (tgt := 112) hx hb dX12_bases_49 (by decide) (fun h => absurd h (by decide)) (fun _ => ?_)
  refine lv_aload_n hx hb dX12_bases_52 rfl (lv_at hl 4 rfl) ?_
  refine r_get C w 1 rfl fr_X12_106 rfl dX12_bases_53 ?_
  refine lv_bipush (v := 8) hx hb dX12_bases_56 (by decide) ?_
  refine lv_iload hx hb dX12_bases_58 (lv_at hl 1 rfl) ?_
  refine lv_imul hx hb dX12_bases_60 ?_
  refine z_i (v := 56) (by decide +kernel) ?_
  refine lv_iload hx hb dX12_bases_61 (lv_at hl 0 rfl) ?_
  refine lv_iadd hx hb dX12_bases_63 ?_
  refine z_i (v := 60) (by decide +kernel) ?_
  refine lv_iload hx hb dX12_bases_64 (lv_at hl 1 rfl) ?_
  refine lv_iload_n hx hb dX12_bases_66 rfl (lv_at hl 2 rfl) ?_
  refine lv_icmp_ge (tgt := 104) hx hb dX12_bases_67 (by decide) (fun _ => ?_) (fun h => absurd (by decide) h)
  refine lv_lconst (v := 0) hx hb dX12_bases_104 (by decide) ?_
  refine r_last C w 0 rfl (IX.of (k := 60) (by decide +kernel)) (g := (fun _ => 0)) (updL_c _ _) dX12_bases_105 (ws2 := [(q2, .inl (G.2.2.1, 64, .inr (.inl (fun _ => 0)))), (q0, .inr (12, [.int 0, .int 0, .int 0, .int 0, .int 0, .int 0, .int 0, .int (-1), .ref q3, .ref q1, .ref q4, .int 0, .ref q5, .ref q6, .ref q7, .ref q8, .ref q9, .ref q10, .ref q11, .int 0, .ref q12, .ref q13, .ref q14, .ref q15, .ref q16, .ref q17, .ref q18, .int 0, .int (-1), .int 0, .ref q19, .ref q20, .ref q21, .ref q22, .ref q23, .ref q24, .ref q25, .ref q26, .int 0, .ref q27, .ref q28, .ref q29, .ref q2, .ref q30, .int 0, .ref q31, .ref q32, .ref q33, .ref q34, .int 0, .ref q35, .ref q36, .ref q37, .ref q38, .int 0, .int 0, .ref q39, .ref q40, .ref q41, .ref q42])), (q1, .inl (G.2.1, 242, .inl (fun _ => 0)))]) rfl (fun H locs w => ?_)
  refine lv_iinc (v := 5) (lv' := [(5, .int 5), (4, .int 7), (3, .int 0), (2, .int 0), (0, .ref q0), (1, .int 0)]) hx hb dX12_bases_106 hl (k := 0) rfl (by decide +kernel) (by decide) rfl (fun ls hl => ?_)
  refine lv_goto (tgt := 45) hx hb dX12_bases_109 (by decide) ?_
  refine lv_iload hx hb dX12_bases_45 (lv_at hl 0 rfl) ?_
  refine lv_bipush (v := 8) hx hb dX12_bases_47 (by decide) ?_
  refine lv_icmp_ge (tgt := 112) hx hb dX12_bases_49 (by decide) (fun h => absurd h (by decide)) (fun _ => ?_)
  refine lv_aload_n hx hb dX12_bases_52 rfl (lv_at hl 4 rfl) ?_
  refine r_get C w 1 rfl fr_X12_106 rfl dX12_bases_53 ?_
  refine lv_bipush (v := 8) hx hb dX12_bases_56 (by decide) ?_
  refine lv_iload hx hb dX12_bases_58 (lv_at hl 1 rfl) ?_
  refine lv_imul hx hb dX12_bases_60 ?_
  refine z_i (v := 56) (by decide +kernel) ?_
  refine lv_iload hx hb dX12_bases_61 (lv_at hl 0 rfl) ?_
  refine lv_iadd hx hb dX12_bases_63 ?_
  refine z_i (v := 61) (by decide +kernel) ?_
  refine lv_iload hx hb dX12_bases_64 (lv_at hl 1 rfl) ?_
  refine lv_iload_n hx hb dX12_bases_66 rfl (lv_at hl 2 rfl) ?_
  refine lv_icmp_ge (tgt := 104) hx hb dX12_bases_67 (by decide) (fun _ => ?_) (fun h => absurd (by decide) h)
  refine lv_lconst (v := 0) hx hb dX12_bases_104 (by decide) ?_
  refine r_last C w 0 rfl (IX.of (k := 61) (by decide +kernel)) (g := (fun _ => 0)) (updL_c _ _) dX12_bases_105 (ws2 := [(q2, .inl (G.2.2.1, 64, .inr (.inl (fun _ => 0)))), (q0, .inr (12, [.int 0, .int 0, .int 0, .int 0, .int 0, .int 0, .int 0, .int (-1), .ref q3, .ref q1, .ref q4, .int 0, .ref q5, .ref q6, .ref q7, .ref q8, .ref q9, .ref q10, .ref q11, .int 0, .ref q12, .ref q13, .ref q14, .ref q15, .ref q16, .ref q17, .ref q18, .int 0, .int (-1), .int 0, .ref q19, .ref q20, .ref q21, .ref q22, .ref q23, .ref q24, .ref q25, .ref q26, .int 0, .ref q27, .ref q28, .ref q29, .ref q2, .ref q30, .int 0, .ref q31, .ref q32, .ref q33, .ref q34, .int 0, .ref q35, .ref q36, .ref q37, .ref q38, .int 0, .int 0, .ref q39, .ref q40, .ref q41, .ref q42])), (q1, .inl (G.2.1, 242, .inl (fun _ => 0)))]) rfl (fun H locs w => ?_)
  refine lv_iinc (v := 6) (lv' := [(5, .int 6), (4, .int 7), (3, .int 0), (2, .int 0), (0, .ref q0), (1, .int 0)]) hx hb dX12_bases_106 hl (k := 0) rfl (by decide +kernel) (by decide) rfl (fun ls hl => ?_)
  refine lv_goto (tgt := 45) hx hb dX12_bases_109 (by decide) ?_
  refine lv_iload hx hb dX12_bases_45 (lv_at hl 0 rfl) ?_
  refine lv_bipush (v := 8) hx hb dX12_bases_47 (by decide) ?_
  refine lv_icmp_ge (tgt := 112) hx hb dX12_bases_49 (by decide) (fun h => absurd h (by decide)) (fun _ => ?_)
  refine lv_aload_n hx hb dX12_bases_52 rfl (lv_at hl 4 rfl) ?_
  refine r_get C w 1 rfl fr_X12_106 rfl dX12_bases_53 ?_
  refine lv_bipush (v := 8) hx hb dX12_bases_56 (by decide) ?_
  refine lv_iload hx hb dX12_bases_58 (lv_at hl 1 rfl) ?_
  refine lv_imul hx hb dX12_bases_60 ?_
  refine z_i (v := 56) (by decide +kernel) ?_
  refine lv_iload hx hb dX12_bases_61 (lv_at hl 0 rfl) ?_
  refine lv_iadd hx hb dX12_bases_63 ?_
  refine z_i (v := 62) (by decide +kernel) ?_
  refine lv_iload hx hb dX12_bases_64 (lv_at hl 1 rfl) ?_
  refine lv_iload_n hx hb dX12_bases_66 rfl (lv_at hl 2 rfl) ?_
  refine lv_icmp_ge (tgt := 104) hx hb dX12_bases_67 (by decide) (fun _ => ?_) (fun h => absurd (by decide) h)
  refine lv_lconst (v := 0) hx hb dX12_bases_104 (by decide) ?_
  refine r_last C w 0 rfl (IX.of (k := 62) (by decide +kernel)) (g := (fun _ => 0)) (updL_c _ _) dX12_bases_105 (ws2 := [(q2, .inl (G.2.2.1, 64, .inr (.inl (fun _ => 0)))), (q0, .inr (12, [.int 0, .int 0, .int 0, .int 0, .int 0, .int 0, .int 0, .int (-1), .ref q3, .ref q1, .ref q4, .int 0, .ref q5, .ref q6, .ref q7, .ref q8, .ref q9, .ref q10, .ref q11, .int 0, .ref q12, .ref q13, .ref q14, .ref q15, .ref q16, .ref q17, .ref q18, .int 0, .int (-1), .int 0, .ref q19, .ref q20, .ref q21, .ref q22, .ref q23, .ref q24, .ref q25, .ref q26, .int 0, .ref q27, .ref q28, .ref q29, .ref q2, .ref q30, .int 0, .ref q31, .ref q32, .ref q33, .ref q34, .int 0, .ref q35, .ref q36, .ref q37, .ref q38, .int 0, .int 0, .ref q39, .ref q40, .ref q41, .ref q42])), (q1, .inl (G.2.1, 242, .inl (fun _ => 0)))]) rfl (fun H locs w => ?_)
  refine lv_iinc (v := 7) (lv' := [(5, .int 7), (4, .int 7), (3, .int 0), (2, .int 0), (0, .ref q0), (1, .int 0)]) hx hb dX12_bases_106 hl (k := 0) rfl (by decide +kernel) (by decide) rfl (fun ls hl => ?_)
  refine lv_goto (tgt := 45) hx hb dX12_bases_109 (by decide) ?_
  refine lv_iload hx hb dX12_bases_45 (lv_at hl 0 rfl) ?_
  refine lv_bipush (v := 8) hx hb dX12_bases_47 (by decide) ?_
  refine lv_icmp_ge (tgt := 112) hx hb dX12_bases_49 (by decide) (fun h => absurd h (by decide)) (fun _ => ?_)
  refine lv_aload_n hx hb dX12_bases_52 rfl (lv_at hl 4 rfl) ?_
  refine r_get C w 1 rfl fr_X12_106 rfl dX12_bases_53 ?_
  refine lv_bipush (v := 8) hx hb dX12_bases_56 (by decide) ?_
  refine lv_iload hx hb dX12_bases_58 (lv_at hl 1 rfl) ?_
  refine lv_imul hx hb dX12_bases_60 ?_
  refine z_i (v := 56) (by decide +kernel) ?_
  refine lv_iload hx hb dX12_bases_61 (lv_at hl 0 rfl) ?_
  refine lv_iadd hx hb dX12_bases_63 ?_
  refine z_i (v := 63) (by decide +kernel) ?_
  refine lv_iload hx hb dX12_bases_64 (lv_at hl 1 rfl) ?_
  refine lv_iload_n hx hb dX12_bases_66 rfl (lv_at hl 2 rfl) ?_
  refine lv_icmp_ge (tgt := 104) hx hb dX12_bases_67 (by decide) (fun _ => ?_) (fun h => absurd (by decide) h)
  refine lv_lconst (v := 0) hx hb dX12_bases_104 (by decide) ?_
  refine r_last C w 0 rfl (IX.of (k := 63) (by decide +kernel)) (g := (fun _ => 0)) (updL_c _ _) dX12_bases_105 (ws2 := [(q2, .inl (G.2.2.1, 64, .inr (.inl (fun _ => 0)))), (q0, .inr (12, [.int 0, .int 0, .int 0, .int 0, .int 0, .int 0, .int 0, .int (-1), .ref q3, .ref q1, .ref q4, .int 0, .ref q5, .ref q6, .ref q7, .ref q8, .ref q9, .ref q10, .ref q11, .int 0, .ref q12, .ref q13, .ref q14, .ref q15, .ref q16, .ref q17, .ref q18, .int 0, .int (-1), .int 0, .ref q19, .ref q20, .ref q21, .ref q22, .ref q23, .ref q24, .ref q25, .ref q26, .int 0, .ref q27, .ref q28, .ref q29, .ref q2, .ref q30, .int 0, .ref q31, .ref q32, .ref q33, .ref q34, .int 0, .ref q35, .ref q36, .ref q37, .ref q38, .int 0, .int 0, .ref q39, .ref q40, .ref q41, .ref q42])), (q1, .inl (G.2.1, 242, .inl (fun _ => 0)))]) rfl (fun H locs w => ?_)
  refine lv_iinc (v := 8) (lv' := [(5, .int 8), (4, .int 7), (3, .int 0), (2, .int 0), (0, .ref q0), (1, .int 0)]) hx hb dX12_bases_106 hl (k := 0) rfl (by decide +kernel) (by decide) rfl (fun ls hl => ?_)
  refine lv_goto (tgt := 45) hx hb dX12_bases_109 (by decide) ?_
  refine lv_iload hx hb dX12_bases_45 (lv_at hl 0 rfl) ?_
  refine lv_bipush (v := 8) hx hb dX12_bases_47 (by decide) ?_
  refine lv_icmp_ge (tgt := 112) hx hb dX12_bases_49 (by decide) (fun _ => ?_) (fun h => absurd (by decide) h)
  refine lv_iinc (v := 8) (lv' := [(4, .int 8), (5, .int 8), (3, .int 0), (2, .int 0), (0, .ref q0), (1, .int 0)]) hx hb dX12_bases_112 hl (k := 1) rfl (by decide +kernel) (by decide) rfl (fun ls hl => ?_)
  refine lv_goto (tgt := 35) hx hb dX12_bases_115 (by decide) ?_
  refine lv_iload hx hb dX12_bases_35 (lv_at hl 0 rfl) ?_
  refine lv_bipush (v := 8) hx hb dX12_bases_37 (by decide) ?_
  refine lv_icmp_ge (tgt := 118) hx hb dX12_bases_39 (by decide) (fun _ => ?_) (fun h => absurd (by decide) h)
  refine lv_aload_n hx hb dX12_bases_118 rfl (lv_at hl 4 rfl) ?_
  refine lv_aload_n hx hb dX12_bases_119 rfl (lv_at hl 4 rfl) ?_
  refine r_get C w 1 rfl fr_X12_106 rfl dX12_bases_120 ?_
  refine lv_bipush (v := 8) hx hb dX12_bases_123 (by decide) ?_
  refine fin_i C w (run_V C w mv_X12_382 (k389_reduces C.b0 q2 q0 H.size) [0] rfl rfl 1 rfl rfl (by decide) rfl hl.1 rfl (Nat.le_of_ble_eq_true rfl) dX12_bases_125 (cells2 := 0) (slots2 := 0) (by decide)) [0] [1, 2] rfl rfl (by decide) (cells2 := 0) (slots2 := 0) (by decide) (fun u3 H locs w => ?_)
  have w : Wd s G A [(q0, .inr (12, [.int 0, .int 0, .int 0, .int 0, .int 0, .int 0, .int 0, .int (-1), .ref q3, .ref q1, .ref q4, .int 0, .ref q5, .ref q6, .ref q7, .ref q8, .ref q9, .ref q10, .ref q11, .int 0, .ref q12, .ref q13, .ref q14, .ref q15, .ref q16, .ref q17, .ref q18, .int 0, .int (-1), .int 0, .ref q19, .ref q20, .ref q21, .ref q22, .ref q23, .ref q24, .ref q25, .ref q26, .int 0, .ref q27, .ref q28, .ref q29, .ref q2, .ref q30, .int 0, .ref q31, .ref q32, .ref q33, .ref q34, .int 0, .ref q35, .ref q36, .ref q37, .ref q38, .int 0, .int 0, .ref q39, .ref q40, .ref q41, .ref q42])), (q1, .inl (G.2.1, 242, .inl (fun _ => 0))), (q2, .inl (G.2.2.1, 64, .inr (.inl (fun _ => 0))))] H locs := w
  refine lv_istore (lv' := [(4, .int 0), (5, .int 8), (3, .int 0), (2, .int 0), (0, .ref q0), (1, .int 0)]) hx hb dX12_bases_128 hl (by decide) rfl (fun ls hl => ?_)
  refine lv_aload_n hx hb dX12_bases_130 rfl (lv_at hl 4 rfl) ?_
  refine lv_iconst (v := 0) hx hb dX12_bases_131 (by decide) ?_
  refine r_put C w 0 rfl fl_X12_386 (Nat.le_of_ble_eq_true rfl) rfl rfl dX12_bases_132 (ws2 := [(q0, .inr (12, [.int 0, .int 0, .int 0, .int 0, .int 0, .int 0, .int 0, .int (-1), .ref q3, .ref q1, .ref q4, .int 0, .ref q5, .ref q6, .ref q7, .ref q8, .ref q9, .ref q10, .ref q11, .int 0, .ref q12, .ref q13, .ref q14, .ref q15, .ref q16, .ref q17, .ref q18, .int 0, .int (-1), .int 0, .ref q19, .ref q20, .ref q21, .ref q22, .ref q23, .ref q24, .ref q25, .ref q26, .int 0, .ref q27, .ref q28, .ref q29, .ref q2, .ref q30, .int 0, .ref q31, .ref q32, .ref q33, .ref q34, .int 0, .ref q35, .ref q36, .ref q37, .ref q38, .int 0, .int 0, .ref q39, .ref q40, .ref q41, .ref q42])), (q1, .inl (G.2.1, 242, .inl (fun _ => 0))), (q2, .inl (G.2.2.1, 64, .inr (.inl (fun _ => 0))))]) rfl (fun H locs w => ?_)
  refine lv_iconst (v := 0) hx hb dX12_bases_135 (by decide) ?_
  refine lv_istore (lv' := [(5, .int 0), (4, .int 0), (3, .int 0), (2, .int 0), (0, .ref q0), (1, .int 0)]) hx hb dX12_bases_136 hl (by decide) rfl (fun ls hl => ?_)
  refine lv_iload hx hb dX12_bases_138 (lv_at hl 0 rfl) ?_
  refine lv_iload_n hx hb dX12_bases_140 rfl (lv_at hl 3 rfl) ?_
  refine lv_icmp_ge (tgt := 438) hx hb dX12_bases_141 (by decide) (fun _ => ?_) (fun h => absurd (by decide) h)
  refine lv_aload_n hx hb dX12_bases_438 rfl (lv_at hl 4 rfl) ?_
  refine lv_aload_n hx hb dX12_bases_439 rfl (lv_at hl 4 rfl) ?_
  refine r_get C w 0 rfl fr_X12_109 rfl dX12_bases_440 ?_
  refine lv_aload_n hx hb dX12_bases_443 rfl (lv_at hl 4 rfl) ?_
  refine r_get C w 0 rfl fr_X12_386 rfl dX12_bases_444 ?_
  refine fin_i C w (run_V C w mv_X12_382 (k390_reduces C.b0 q0 q30 H.size) [] rfl rfl 0 rfl rfl (by decide) rfl hl.1 rfl (Nat.le_of_ble_eq_true rfl) dX12_bases_447 (cells2 := 0) (slots2 := 0) (by decide)) [] [0, 1, 2] rfl rfl (by decide) (cells2 := 0) (slots2 := 0) (by decide) (fun u4 H locs w => ?_)
  have w : Wd s G A [(q0, .inr (12, [.int 0, .int 0, .int 0, .int 0, .int 0, .int 0, .int 0, .int (-1), .ref q3, .ref q1, .ref q4, .int 0, .ref q5, .ref q6, .ref q7, .ref q8, .ref q9, .ref q10, .ref q11, .int 0, .ref q12, .ref q13, .ref q14, .ref q15, .ref q16, .ref q17, .ref q18, .int 0, .int (-1), .int 0, .ref q19, .ref q20, .ref q21, .ref q22, .ref q23, .ref q24, .ref q25, .ref q26, .int 0, .ref q27, .ref q28, .ref q29, .ref q2, .ref q30, .int 0, .ref q31, .ref q32, .ref q33, .ref q34, .int 0, .ref q35, .ref q36, .ref q37, .ref q38, .int 0, .int 0, .ref q39, .ref q40, .ref q41, .ref q42])), (q1, .inl (G.2.1, 242, .inl (fun _ => 0))), (q2, .inl (G.2.2.1, 64, .inr (.inl (fun _ => 0))))] H locs := w
  refine lv_pop hx hb dX12_bases_450 rfl ?_
  refine lv_iconst (v := 0) hx hb dX12_bases_451 (by decide) ?_
  refine lv_istore (lv' := [(5, .int 0), (4, .int 0), (3, .int 0), (2, .int 0), (0, .ref q0), (1, .int 0)]) hx hb dX12_bases_452 hl (by decide) rfl (fun ls hl => ?_)
  refine lv_iload hx hb dX12_bases_454 (lv_at hl 0 rfl) ?_
  refine lv_aload_n hx hb dX12_bases_456 rfl (lv_at hl 4 rfl) ?_
  refine r_get C w 0 rfl fr_X12_386 rfl dX12_bases_457 ?_
  refine lv_icmp_ge (tgt := 478) hx hb dX12_bases_460 (by decide) (fun _ => ?_) (fun h => absurd (by decide) h)
  exact e_v C hr w (fun _ => 0) [0, 1, 2] rfl rfl dX12_bases_478 (by decide) (by decide)
set_option maxRecDepth 100000 in
set_option maxHeartbeats 4000000 in
theorem k402_never {l : Launch} {s0 : State} {a0 : Array Value} {G : GT} (b0 : B0 l s0 a0 G) (q0 q1 q2 q3 q4 q5 q6 q7 q8 q9 q10 q11 q12 q13 q14 q15 q16 q17 q18 q19 q20 q21 q22 q23 q24 q25 q26 q27 q28 q29 q30 q31 q32 q33 q34 q35 q36 q37 q38 q39 q40 q41 q42 : Nat) (sz : Nat) : Ki l s0 G yX12_never cX12_never 5 (some .boolean) { frames := 2, cells := 0, slots := 0, locals := 70 } [.ref q0] [(q0, .inr (12, [.int 0, .int 0, .int 0, .int 0, .int 0, .int 0, .int 0, .int (-1), .ref q3, .ref q1, .ref q4, .int 0, .ref q5, .ref q6, .ref q7, .ref q8, .ref q9, .ref q10, .ref q11, .int 0, .ref q12, .ref q13, .ref q14, .ref q15, .ref q16, .ref q17, .ref q18, .int 0, .int (-1), .int 0, .ref q19, .ref q20, .ref q21, .ref q22, .ref q23, .ref q24, .ref q25, .ref q26, .int 0, .ref q27, .ref q28, .ref q29, .ref q2, .ref q30, .int 0, .ref q31, .ref q32, .ref q33, .ref q34, .int 0, .ref q35, .ref q36, .ref q37, .ref q38, .int 0, .int 0, .ref q39, .ref q40, .ref q41, .ref q42])), (q1, .inl (G.2.1, 242, .inl (fun _ => 0))), (q2, .inl (G.2.2.1, 64, .inr (.inl (fun _ => 0))))] sz 0 (fun u => [(q0, .inr (12, [.int 0, .int 0, .int 0, .int 0, .int 0, .int 0, .int 0, .int (-1), .ref q3, .ref q1, .ref q4, .int 0, .ref q5, .ref q6, .ref q7, .ref q8, .ref q9, .ref q10, .ref q11, .int 0, .ref q12, .ref q13, .ref q14, .ref q15, .ref q16, .ref q17, .ref q18, .int 0, .int (-1), .int 0, .ref q19, .ref q20, .ref q21, .ref q22, .ref q23, .ref q24, .ref q25, .ref q26, .int 0, .ref q27, .ref q28, .ref q29, .ref q2, .ref q30, .int 0, .ref q31, .ref q32, .ref q33, .ref q34, .int 0, .ref q35, .ref q36, .ref q37, .ref q38, .int 0, .int 0, .ref q39, .ref q40, .ref q41, .ref q42])), (q1, .inl (G.2.1, 242, .inl (fun _ => 0))), (q2, .inl (G.2.2.1, 64, .inr (.inl (fun _ => 0))))]) := by
  refine Ki.of b0 (own := RX12) (nm := "never") [(0, .ref q0)] rfl rfl (by decide +kernel) (Nat.le_of_ble_eq_true rfl) rfl ?_
  intro p e s m below meth c A C hr H locs w ls hl
  have hx := C.hx
  have hb := C.hb
  refine lv_aload_n hx hb dX12_never_0 rfl (lv_at hl 0 rfl) ?_
  refine lv_iconst (v := 0) hx hb dX12_never_1 (by decide) ?_
  refine r_put C w 0 rfl fl_X12_1 (Nat.le_of_ble_eq_true rfl) rfl rfl dX12_never_2 (ws2 := [(q0, .inr (12, [.int 0, .int 0, .int 0, .int 0, .int 0, .int 0, .int 0, .int (-1), .ref q3, .ref q1, .ref q4, .int 0, .ref q5, .ref q6, .ref q7, .ref q8, .ref q9, .ref q10, .ref q11, .int 0, .ref q12, .ref q13, .ref q14, .ref q15, .ref q16, .ref q17, .ref q18, .int 0, .int (-1), .int 0, .ref q19, .ref q20, .ref q21, .ref q22, .ref q23, .ref q24, .ref q25, .ref q26, .int 0, .ref q27, .ref q28, .ref q29, .ref q2, .ref q30, .int 0, .ref q31, .ref q32, .ref q33, .ref q34, .int 0, .ref q35, .ref q36, .ref q37, .ref q38, .int 0, .int 0, .ref q39, .ref q40, .ref q41, .ref q42])), (q1, .inl (G.2.1, 242, .inl (fun _ => 0))), (q2, .inl (G.2.2.1, 64, .inr (.inl (fun _ => 0))))]) rfl (fun H locs w => ?_)
  refine lv_aload_n hx hb dX12_never_5 rfl (lv_at hl 0 rfl) ?_
  refine lv_iconst (v := 0) hx hb dX12_never_6 (by decide) ?_
  refine fin_v C w (run_V C w mv_X12_389 (k401_bases C.b0 q0 q1 q2 q3 q4 q5 q6 q7 q8 q9 q10 q11 q12 q13 q14 q15 q16 q17 q18 q19 q20 q21 q22 q23 q24 q25 q26 q27 q28 q29 q30 q31 q32 q33 q34 q35 q36 q37 q38 q39 q40 q41 q42 H.size) [0, 1, 2] rfl rfl 0 rfl rfl (by decide) rfl hl.1 rfl (Nat.le_of_ble_eq_true rfl) dX12_never_7 (cells2 := 0) (slots2 := 0) (by decide)) [0, 1, 2] [] rfl rfl (by decide) (cells2 := 0) (slots2 := 0) (by decide) (fun u1 H locs w => ?_)
  have w : Wd s G A [(q0, .inr (12, [.int 0, .int 0, .int 0, .int 0, .int 0, .int 0, .int 0, .int (-1), .ref q3, .ref q1, .ref q4, .int 0, .ref q5, .ref q6, .ref q7, .ref q8, .ref q9, .ref q10, .ref q11, .int 0, .ref q12, .ref q13, .ref q14, .ref q15, .ref q16, .ref q17, .ref q18, .int 0, .int (-1), .int 0, .ref q19, .ref q20, .ref q21, .ref q22, .ref q23, .ref q24, .ref q25, .ref q26, .int 0, .ref q27, .ref q28, .ref q29, .ref q2, .ref q30, .int 0, .ref q31, .ref q32, .ref q33, .ref q34, .int 0, .ref q35, .ref q36, .ref q37, .ref q38, .int 0, .int 0, .ref q39, .ref q40, .ref q41, .ref q42])), (q1, .inl (G.2.1, 242, .inl (fun _ => 0))), (q2, .inl (G.2.2.1, 64, .inr (.inl (fun _ => 0))))] H locs := w
  refine lv_iconst (v := 0) hx hb dX12_never_10 (by decide) ?_
  refine lv_istore_n (lv' := [(1, .int 0), (0, .ref q0)]) hx hb dX12_never_11 rfl hl (by decide) rfl (fun ls hl => ?_)
  refine lv_iload_n hx hb dX12_never_12 rfl (lv_at hl 0 rfl) ?_
  refine lv_aload_n hx hb dX12_never_13 rfl (lv_at hl 1 rfl) ?_
  refine r_get C w 0 rfl fr_X12_386 rfl dX12_never_14 ?_
  refine lv_icmp_ge (tgt := 89) hx hb dX12_never_17 (by decide) (fun _ => ?_) (fun h => absurd (by decide) h)
  refine lv_iconst (v := 0) hx hb dX12_never_89 (by decide) ?_
  exact e_i C hr w (fun _ => 0) [0, 1, 2] rfl rfl (by decide) dX12_never_90 (by decide) (by decide)
set_option maxRecDepth 100000 in
set_option maxHeartbeats 4000000 in
theorem k403_bound {l : Launch} {s0 : State} {a0 : Array Value} {G : GT} (b0 : B0 l s0 a0 G) (q0 q1 q2 q3 q4 q5 q6 q7 q8 q9 q10 q11 q12 q13 q14 q15 q16 q17 q18 q19 q20 q21 q22 q23 q24 : Nat) (x0 : Int32) (sz : Nat) : Kx l s0 G yX11_bound cX11_bound 3 (some .int) { frames := 7, cells := 1, slots := 6, locals := 111 } [.ref q0, .int x0] [(q0, .inr (11, [.ref q2, .ref q3, .ref q4, .ref q5, .ref q6, .ref q7, .ref q8, .ref q9, .ref q1, .ref q10, .int 0, .int (-1), .int 0, .int 0, .null, .null, .null, .null, .null])), (q1, .inr (2, [.int 0, .int 0, .ref q11, .ref q12, .ref q13, .ref q14, .ref q15, .ref q16, .ref q17, .ref q18, .ref q19, .ref q20, .ref q21, .ref q22, .ref q23, .ref q24, .int 0]))] sz "java/lang/IndexOutOfBoundsException" := by
  refine Kx.of b0 (own := RX11) (nm := "bound") [(0, .ref q0), (1, .int x0)] rfl rfl (by decide +kernel) (Nat.le_of_ble_eq_true rfl) rfl ?_
  intro p e s m below meth c A C ht H locs w ls hl
  have hx := C.hx
  have hb := C.hb
  refine lv_aload_n hx hb dX11_bound_0 rfl (lv_at hl 0 rfl) ?_
  refine lv_iload_n hx hb dX11_bound_1 rfl (lv_at hl 1 rfl) ?_
  refine fin_x C w (run_Vx C w mv_X11_107 (k69_needPlace C.b0 q0 q1 q2 q3 q4 q5 q6 q7 q8 q9 q10 q11 q12 q13 q14 q15 q16 q17 q18 q19 q20 q21 q22 q23 q24 x0 H.size) [0, 1] rfl rfl 0 rfl rfl (by decide) rfl hl.1 rfl (Nat.le_of_ble_eq_true rfl) dX11_bound_2 (cells2 := 1) (slots2 := 6) (by decide)) [0, 1] [] rfl rfl (by decide) (cells2 := 1) (slots2 := 6) (by decide) (fun qx2 ce H locs w hce hcv hcl => ?_)
  have w : Wd s G A [(q0, .inr (11, [.ref q2, .ref q3, .ref q4, .ref q5, .ref q6, .ref q7, .ref q8, .ref q9, .ref q1, .ref q10, .int 0, .int (-1), .int 0, .int 0, .null, .null, .null, .null, .null])), (q1, .inr (2, [.int 0, .int 0, .ref q11, .ref q12, .ref q13, .ref q14, .ref q15, .ref q16, .ref q17, .ref q18, .ref q19, .ref q20, .ref q21, .ref q22, .ref q23, .ref q24, .int 0]))] H locs := w
  exact r_out C ht w [0, 1] rfl rfl hce hcv hcl (by decide) (by decide)
set_option maxRecDepth 100000 in
set_option maxHeartbeats 4000000 in
theorem k404_bound {l : Launch} {s0 : State} {a0 : Array Value} {G : GT} (b0 : B0 l s0 a0 G) (q0 q1 q2 q3 q4 q5 q6 q7 q8 q9 q10 q11 q12 q13 q14 q15 q16 q17 q18 q19 q20 q21 q22 q23 q24 q25 : Nat) (x0 : Int32) (sz : Nat) : Kh l s0 G yL_bound cL_bound 4 (some .int) [(0, 9, 12, 24)] { frames := 8, cells := 1, slots := 6, locals := 133 } [.ref q0, .int x0, .ref q2] [(q0, .inr (11, [.ref q3, .ref q4, .ref q5, .ref q6, .ref q7, .ref q8, .ref q9, .ref q10, .ref q1, .ref q11, .int 0, .int (-1), .int 0, .int 0, .null, .null, .null, .null, .null])), (q1, .inr (2, [.int 0, .int 0, .ref q12, .ref q13, .ref q14, .ref q15, .ref q16, .ref q17, .ref q18, .ref q19, .ref q20, .ref q21, .ref q22, .ref q23, .ref q24, .ref q25, .int 0]))] sz 1 (fun u => [(q0, .inr (11, [.ref q3, .ref q4, .ref q5, .ref q6, .ref q7, .ref q8, .ref q9, .ref q10, .ref q1, .ref q11, .int 0, .int (-1), .int 0, .int 0, .null, .null, .null, .null, .null])), (q1, .inr (2, [.int 0, .int 0, .ref q12, .ref q13, .ref q14, .ref q15, .ref q16, .ref q17, .ref q18, .ref q19, .ref q20, .ref q21, .ref q22, .ref q23, .ref q24, .ref q25, .int 0]))]) := by
  refine Kh.of b0 (own := RL) (nm := "bound") [(0, .ref q0), (1, .int x0), (2, .ref q2)] rfl rfl (by decide +kernel) (Nat.le_of_ble_eq_true rfl) rfl ?_
  intro p e s m below meth c A C hr ht H locs w ls hl
  have hx := C.hx
  have hb := C.hb
  refine lv_aload_n hx hb dL_bound_0 rfl (lv_at hl 2 rfl) ?_
  refine lv_iconst (v := 0) hx hb dL_bound_1 (by decide) ?_
  refine lv_aload_n hx hb dL_bound_2 rfl (lv_at hl 0 rfl) ?_
  refine lv_iload_n hx hb dL_bound_3 rfl (lv_at hl 1 rfl) ?_
  refine fin_x C w (run_Vx C w mv_L_90 (k403_bound C.b0 q0 q1 q3 q4 q5 q6 q7 q8 q9 q10 q11 q12 q13 q14 q15 q16 q17 q18 q19 q20 q21 q22 q23 q24 q25 x0 H.size) [0, 1] rfl rfl 0 rfl rfl (by decide) rfl hl.1 rfl (Nat.le_of_ble_eq_true rfl) dL_bound_4 (cells2 := 1) (slots2 := 6) (by decide)) [0, 1] [] rfl rfl (by decide) (cells2 := 1) (slots2 := 6) (by decide) (fun qx2 ce H locs w hce hcv hcl => ?_)
  have w : Wd s G A [(q0, .inr (11, [.ref q3, .ref q4, .ref q5, .ref q6, .ref q7, .ref q8, .ref q9, .ref q10, .ref q1, .ref q11, .int 0, .int (-1), .int 0, .int 0, .null, .null, .null, .null, .null])), (q1, .inr (2, [.int 0, .int 0, .ref q12, .ref q13, .ref q14, .ref q15, .ref q16, .ref q17, .ref q18, .ref q19, .ref q20, .ref q21, .ref q22, .ref q23, .ref q24, .ref q25, .int 0]))] H locs := w
  refine r_catch C ht (by decide) (by decide) tl_L_24 tk_java_lang_IndexOutOfBoundsException hce hcv hcl ?_
  refine lv_astore_n (lv' := [(3, .ref qx2), (0, .ref q0), (1, .int x0), (2, .ref q2)]) hx hb dL_bound_12 rfl hl (by decide) rfl (fun ls hl => ?_)
  refine lv_iconst (v := 1) hx hb dL_bound_13 (by decide) ?_
  exact e_i C hr w (fun _ => 0) [0, 1] rfl rfl rfl dL_bound_14 (by decide) (by decide)
set_option maxRecDepth 100000 in
set_option maxHeartbeats 4000000 in
theorem k405_bound {l : Launch} {s0 : State} {a0 : Array Value} {G : GT} (b0 : B0 l s0 a0 G) (q0 q1 q2 q3 q4 q5 q6 q7 q8 q9 q10 q11 q12 q13 q14 q15 q16 q17 q18 q19 q20 q21 q22 q23 q24 q25 q26 q27 q28 q29 q30 q31 q32 q33 q34 q35 q36 q37 q38 q39 q40 q41 q42 : Nat) (x0 : Int32) (sz : Nat) : Ki l s0 G yX12_bound cX12_bound 4 (some .int) { frames := 2, cells := 0, slots := 0, locals := 44 } [.ref q0, .int x0] [(q0, .inr (12, [.int 0, .int 0, .int 0, .int 0, .int 0, .int 0, .int 0, .int (-1), .ref q2, .ref q1, .ref q3, .int 0, .ref q4, .ref q5, .ref q6, .ref q7, .ref q8, .ref q9, .ref q10, .int 0, .ref q11, .ref q12, .ref q13, .ref q14, .ref q15, .ref q16, .ref q17, .int 0, .int (-1), .int 0, .ref q18, .ref q19, .ref q20, .ref q21, .ref q22, .ref q23, .ref q24, .ref q25, .int 0, .ref q26, .ref q27, .ref q28, .ref q29, .ref q30, .int 0, .ref q31, .ref q32, .ref q33, .ref q34, .int 0, .ref q35, .ref q36, .ref q37, .ref q38, .int 0, .int 0, .ref q39, .ref q40, .ref q41, .ref q42])), (q1, .inl (G.2.1, 242, .inl (fun _ => 0)))] sz 0 (fun u => [(q0, .inr (12, [.int 1, .int 0, .int 0, .int 0, .int 0, .int 0, .int 0, .int (-1), .ref q2, .ref q1, .ref q3, .int 0, .ref q4, .ref q5, .ref q6, .ref q7, .ref q8, .ref q9, .ref q10, .int 0, .ref q11, .ref q12, .ref q13, .ref q14, .ref q15, .ref q16, .ref q17, .int 0, .int (-1), .int 0, .ref q18, .ref q19, .ref q20, .ref q21, .ref q22, .ref q23, .ref q24, .ref q25, .int 0, .ref q26, .ref q27, .ref q28, .ref q29, .ref q30, .int 0, .ref q31, .ref q32, .ref q33, .ref q34, .int 0, .ref q35, .ref q36, .ref q37, .ref q38, .int 0, .int 0, .ref q39, .ref q40, .ref q41, .ref q42])), (q1, .inl (G.2.1, 242, .inl (fun _ => 0)))]) := by
  refine Ki.of b0 (own := RX12) (nm := "bound") [(0, .ref q0), (1, .int x0)] rfl rfl (by decide +kernel) (Nat.le_of_ble_eq_true rfl) rfl ?_
  intro p e s m below meth c A C hr H locs w ls hl
  have hx := C.hx
  have hb := C.hb
  refine lv_aload_n hx hb dX12_bound_0 rfl (lv_at hl 0 rfl) ?_
  refine lv_iconst (v := 0) hx hb dX12_bound_1 (by decide) ?_
  refine r_put C w 0 rfl fl_X12_1 (Nat.le_of_ble_eq_true rfl) rfl rfl dX12_bound_2 (ws2 := [(q0, .inr (12, [.int 0, .int 0, .int 0, .int 0, .int 0, .int 0, .int 0, .int (-1), .ref q2, .ref q1, .ref q3, .int 0, .ref q4, .ref q5, .ref q6, .ref q7, .ref q8, .ref q9, .ref q10, .int 0, .ref q11, .ref q12, .ref q13, .ref q14, .ref q15, .ref q16, .ref q17, .int 0, .int (-1), .int 0, .ref q18, .ref q19, .ref q20, .ref q21, .ref q22, .ref q23, .ref q24, .ref q25, .int 0, .ref q26, .ref q27, .ref q28, .ref q29, .ref q30, .int 0, .ref q31, .ref q32, .ref q33, .ref q34, .int 0, .ref q35, .ref q36, .ref q37, .ref q38, .int 0, .int 0, .ref q39, .ref q40, .ref q41, .ref q42])), (q1, .inl (G.2.1, 242, .inl (fun _ => 0)))]) rfl (fun H locs w => ?_)
  refine lv_aload_n hx hb dX12_bound_5 rfl (lv_at hl 0 rfl) ?_
  refine lv_iload_n hx hb dX12_bound_6 rfl (lv_at hl 1 rfl) ?_
  refine lv_iconst (v := 1) hx hb dX12_bound_7 (by decide) ?_
  refine fin_i C w (run_V C w mv_X12_297 (k72_isPlace C.b0 q0 q1 q2 q3 q4 q5 q6 q7 q8 q9 q10 q11 q12 q13 q14 q15 q16 q17 q18 q19 q20 q21 q22 q23 q24 q25 q26 q27 q28 q29 q30 q31 q32 q33 q34 q35 q36 q37 q38 q39 q40 q41 q42 x0 H.size) [0, 1] rfl rfl 0 rfl rfl (by decide) rfl hl.1 rfl (Nat.le_of_ble_eq_true rfl) dX12_bound_8 (cells2 := 0) (slots2 := 0) (by decide)) [0, 1] [] rfl rfl (by decide) (cells2 := 0) (slots2 := 0) (by decide) (fun u1 H locs w => ?_)
  have w : Wd s G A [(q0, .inr (12, [.int 1, .int 0, .int 0, .int 0, .int 0, .int 0, .int 0, .int (-1), .ref q2, .ref q1, .ref q3, .int 0, .ref q4, .ref q5, .ref q6, .ref q7, .ref q8, .ref q9, .ref q10, .int 0, .ref q11, .ref q12, .ref q13, .ref q14, .ref q15, .ref q16, .ref q17, .int 0, .int (-1), .int 0, .ref q18, .ref q19, .ref q20, .ref q21, .ref q22, .ref q23, .ref q24, .ref q25, .int 0, .ref q26, .ref q27, .ref q28, .ref q29, .ref q30, .int 0, .ref q31, .ref q32, .ref q33, .ref q34, .int 0, .ref q35, .ref q36, .ref q37, .ref q38, .int 0, .int 0, .ref q39, .ref q40, .ref q41, .ref q42])), (q1, .inl (G.2.1, 242, .inl (fun _ => 0)))] H locs := w
  refine lv_if_ne (tgt := 16) hx hb dX12_bound_11 (by decide) (fun h => absurd (by decide) h) (fun _ => ?_)
  refine lv_iconst (v := 0) hx hb dX12_bound_14 (by decide) ?_
  exact e_i C hr w (fun _ => 0) [0, 1] rfl rfl rfl dX12_bound_15 (by decide) (by decide)
set_option maxRecDepth 100000 in
set_option maxHeartbeats 4000000 in
theorem k406_init {l : Launch} {s0 : State} {a0 : Array Value} {G : GT} (b0 : B0 l s0 a0 G) (q0 : Nat) (sz : Nat) : Kv l s0 G yX7_init cX7_init 4 none { frames := 1, cells := 2, slots := 10112, locals := 12 } [.ref q0, .int 8, .int 1008, .int 2048] [(q0, .inr (7, [.null, .int 0, .int 0, .int 0, .null]))] sz (fun u => [(q0, .inr (7, [.ref (u 0), .int 0, .int 0, .int 1008, .ref (u 1)])), ((u 0), .inl (G.2.1, 8064, .inl (fun _ => 0))), ((u 1), .inl (G.2.1, 2048, .inl (fun _ => 0)))]) := by
  refine Kv.of b0 (own := RX7) (nm := "<init>") [(0, .ref q0), (1, .int 8), (2, .int 1008), (3, .int 2048)] rfl rfl (by decide +kernel) (Nat.le_of_ble_eq_true rfl) rfl ?_
  intro p e s m below meth c A C hr H locs w ls hl
  have hx := C.hx
  have hb := C.hb
  refine lv_aload_n hx hb dX7_init_0 rfl (lv_at hl 0 rfl) ?_
  refine r_obj C to_X7_3 hl.1 (by decide) (Nat.le_of_ble_eq_true rfl) dX7_init_1 ?_
  refine lv_aload_n hx hb dX7_init_4 rfl (lv_at hl 0 rfl) ?_
  refine lv_iload_n hx hb dX7_init_5 rfl (lv_at hl 1 rfl) ?_
  refine lv_iload_n hx hb dX7_init_6 rfl (lv_at hl 2 rfl) ?_
  refine lv_imul hx hb dX7_init_7 ?_
  refine z_i (v := 8064) (by decide +kernel) ?_
  refine r_newI C w (N := 8064) (cells2 := 1) (slots2 := 8064) (by decide +kernel) ⟨by decide, by decide, by decide, by decide⟩ dX7_init_8 (fun q1 H w => ?_)
  have w : Wd s G A [(q0, .inr (7, [.null, .int 0, .int 0, .int 0, .null])), (q1, .inl (G.2.1, 8064, .inl (fun _ => 0)))] H locs := w
  refine r_putF C w 0 rfl fl_X7_9 (Nat.le_of_ble_eq_true rfl) rfl rfl dX7_init_10 (ws2 := [(q0, .inr (7, [.ref q1, .int 0, .int 0, .int 0, .null])), (q1, .inl (G.2.1, 8064, .inl (fun _ => 0)))]) rfl (fun H locs w => ?_)
  refine lv_aload_n hx hb dX7_init_13 rfl (lv_at hl 0 rfl) ?_
  refine lv_iload_n hx hb dX7_init_14 rfl (lv_at hl 2 rfl) ?_
  refine r_putF C w 0 rfl fl_X7_15 (Nat.le_of_ble_eq_true rfl) rfl rfl dX7_init_15 (ws2 := [(q0, .inr (7, [.ref q1, .int 0, .int 0, .int 1008, .null])), (q1, .inl (G.2.1, 8064, .inl (fun _ => 0)))]) rfl (fun H locs w => ?_)
  refine lv_aload_n hx hb dX7_init_18 rfl (lv_at hl 0 rfl) ?_
  refine lv_iload_n hx hb dX7_init_19 rfl (lv_at hl 3 rfl) ?_
  refine r_newI C w (N := 2048) (cells2 := 2) (slots2 := 10112) (by decide +kernel) ⟨by decide, by decide, by decide, by decide⟩ dX7_init_20 (fun q2 H w => ?_)
  have w : Wd s G A [(q0, .inr (7, [.ref q1, .int 0, .int 0, .int 1008, .null])), (q1, .inl (G.2.1, 8064, .inl (fun _ => 0))), (q2, .inl (G.2.1, 2048, .inl (fun _ => 0)))] H locs := w
  refine r_putF C w 0 rfl fl_X7_19 (Nat.le_of_ble_eq_true rfl) rfl rfl dX7_init_22 (ws2 := [(q0, .inr (7, [.ref q1, .int 0, .int 0, .int 1008, .ref q2])), (q1, .inl (G.2.1, 8064, .inl (fun _ => 0))), (q2, .inl (G.2.1, 2048, .inl (fun _ => 0)))]) rfl (fun H locs w => ?_)
  exact e_v C hr w (fun k => [q1, q2].getD k 0) [0, 1, 2] rfl rfl dX7_init_25 (by decide) (by decide)
set_option maxRecDepth 100000 in
set_option maxHeartbeats 4000000 in
theorem k407_init {l : Launch} {s0 : State} {a0 : Array Value} {G : GT} (b0 : B0 l s0 a0 G) (q0 : Nat) (sz : Nat) : Kv l s0 G yX8_init cX8_init 1 none { frames := 2, cells := 5, slots := 11133, locals := 35 } [.ref q0] [(q0, .inr (8, [.int 0, .null, .null, .null, .null]))] sz (fun u => [(q0, .inr (8, [.int (-1), .ref (u 0), .ref (u 3), .ref (u 4), .null])), ((u 0), .inr (7, [.ref (u 1), .int 0, .int 0, .int 1008, .ref (u 2)])), ((u 1), .inl (G.2.1, 8064, .inl (fun _ => 0))), ((u 2), .inl (G.2.1, 2048, .inl (fun _ => 0))), ((u 3), .inl (G.2.1, 1008, .inl (fun _ => 0))), ((u 4), .inl (G.2.1, 8, .inl (fun _ => 0)))]) := by
  refine Kv.of b0 (own := RX8) (nm := "<init>") [(0, .ref q0)] rfl rfl (by decide +kernel) (Nat.le_of_ble_eq_true rfl) rfl ?_
  intro p e s m below meth c A C hr H locs w ls hl
  have hx := C.hx
  have hb := C.hb
  refine lv_aload_n hx hb dX8_init_0 rfl (lv_at hl 0 rfl) ?_
  refine r_obj C to_X8_3 hl.1 (by decide) (Nat.le_of_ble_eq_true rfl) dX8_init_1 ?_
  refine lv_aload_n hx hb dX8_init_4 rfl (lv_at hl 0 rfl) ?_
  refine lv_iconst (v := (-1)) hx hb dX8_init_5 (by decide) ?_
  refine r_put C w 0 rfl fl_X8_9 (Nat.le_of_ble_eq_true rfl) rfl rfl dX8_init_6 (ws2 := [(q0, .inr (8, [.int (-1), .null, .null, .null, .null]))]) rfl (fun H locs w => ?_)
  refine lv_aload_n hx hb dX8_init_9 rfl (lv_at hl 0 rfl) ?_
  refine r_new C w (cells2 := 1) (slots2 := 5) no_X8_15 ⟨by decide, by decide, by decide, by decide⟩ dX8_init_10 (fun q1 H w => ?_)
  have w : Wd s G A [(q0, .inr (8, [.int (-1), .null, .null, .null, .null])), (q1, .inr (7, [.null, .int 0, .int 0, .int 0, .null]))] H locs := w
  refine lv_dup hx hb dX8_init_13 rfl ?_
  refine lv_bipush (v := 8) hx hb dX8_init_14 (by decide) ?_
  refine lv_sipush (v := 1008) hx hb dX8_init_16 (by decide) ?_
  refine lv_sipush (v := 2048) hx hb dX8_init_19 (by decide) ?_
  refine fin_v C w (run_I C w mi_X8_17 (k406_init C.b0 q1 H.size) [1] rfl rfl (by decide) rfl hl.1 rfl (Nat.le_of_ble_eq_true rfl) dX8_init_22 (cells2 := 3) (slots2 := 10117) (by decide)) [1] [0] rfl rfl (by decide) (cells2 := 3) (slots2 := 10117) (by decide) (fun u2 H locs w => ?_)
  have w : Wd s G A [(q0, .inr (8, [.int (-1), .null, .null, .null, .null])), (q1, .inr (7, [.ref (u2 0), .int 0, .int 0, .int 1008, .ref (u2 1)])), ((u2 0), .inl (G.2.1, 8064, .inl (fun _ => 0))), ((u2 1), .inl (G.2.1, 2048, .inl (fun _ => 0)))] H locs := w
  refine r_putF C w 0 rfl fl_X8_20 (Nat.le_of_ble_eq_true rfl) rfl rfl dX8_init_25 (ws2 := [(q0, .inr (8, [.int (-1), .ref q1, .null, .null, .null])), (q1, .inr (7, [.ref (u2 0), .int 0, .int 0, .int 1008, .ref (u2 1)])), ((u2 0), .inl (G.2.1, 8064, .inl (fun _ => 0))), ((u2 1), .inl (G.2.1, 2048, .inl (fun _ => 0)))]) rfl (fun H locs w => ?_)
  refine lv_aload_n hx hb dX8_init_28 rfl (lv_at hl 0 rfl) ?_
  refine lv_sipush (v := 1008) hx hb dX8_init_29 (by decide) ?_
  refine r_newI C w (N := 1008) (cells2 := 4) (slots2 := 11125) (by decide +kernel) ⟨by decide, by decide, by decide, by decide⟩ dX8_init_32 (fun q3 H w => ?_)
  have w : Wd s G A [(q0, .inr (8, [.int (-1), .ref q1, .null, .null, .null])), (q1, .inr (7, [.ref (u2 0), .int 0, .int 0, .int 1008, .ref (u2 1)])), ((u2 0), .inl (G.2.1, 8064, .inl (fun _ => 0))), ((u2 1), .inl (G.2.1, 2048, .inl (fun _ => 0))), (q3, .inl (G.2.1, 1008, .inl (fun _ => 0)))] H locs := w
  refine r_putF C w 0 rfl fl_X8_24 (Nat.le_of_ble_eq_true rfl) rfl rfl dX8_init_34 (ws2 := [(q0, .inr (8, [.int (-1), .ref q1, .ref q3, .null, .null])), (q1, .inr (7, [.ref (u2 0), .int 0, .int 0, .int 1008, .ref (u2 1)])), ((u2 0), .inl (G.2.1, 8064, .inl (fun _ => 0))), ((u2 1), .inl (G.2.1, 2048, .inl (fun _ => 0))), (q3, .inl (G.2.1, 1008, .inl (fun _ => 0)))]) rfl (fun H locs w => ?_)
  refine lv_aload_n hx hb dX8_init_37 rfl (lv_at hl 0 rfl) ?_
  refine lv_bipush (v := 8) hx hb dX8_init_38 (by decide) ?_
  refine r_newI C w (N := 8) (cells2 := 5) (slots2 := 11133) (by decide +kernel) ⟨by decide, by decide, by decide, by decide⟩ dX8_init_40 (fun q4 H w => ?_)
  have w : Wd s G A [(q0, .inr (8, [.int (-1), .ref q1, .ref q3, .null, .null])), (q1, .inr (7, [.ref (u2 0), .int 0, .int 0, .int 1008, .ref (u2 1)])), ((u2 0), .inl (G.2.1, 8064, .inl (fun _ => 0))), ((u2 1), .inl (G.2.1, 2048, .inl (fun _ => 0))), (q3, .inl (G.2.1, 1008, .inl (fun _ => 0))), (q4, .inl (G.2.1, 8, .inl (fun _ => 0)))] H locs := w
  refine r_putF C w 0 rfl fl_X8_28 (Nat.le_of_ble_eq_true rfl) rfl rfl dX8_init_42 (ws2 := [(q0, .inr (8, [.int (-1), .ref q1, .ref q3, .ref q4, .null])), (q1, .inr (7, [.ref (u2 0), .int 0, .int 0, .int 1008, .ref (u2 1)])), ((u2 0), .inl (G.2.1, 8064, .inl (fun _ => 0))), ((u2 1), .inl (G.2.1, 2048, .inl (fun _ => 0))), (q3, .inl (G.2.1, 1008, .inl (fun _ => 0))), (q4, .inl (G.2.1, 8, .inl (fun _ => 0)))]) rfl (fun H locs w => ?_)
  exact e_v C hr w (fun k => [q1, (u2 0), (u2 1), q3, q4].getD k 0) [0, 1, 2, 3, 4, 5] rfl rfl dX8_init_45 (by decide) (by decide)
set_option maxRecDepth 100000 in
set_option maxHeartbeats 4000000 in
theorem k408_wipe {l : Launch} {s0 : State} {a0 : Array Value} {G : GT} (b0 : B0 l s0 a0 G) (q0 q1 q2 : Nat) (sz : Nat) : Kv l s0 G yX7_wipe cX7_wipe 2 none { frames := 1, cells := 0, slots := 0, locals := 23 } [.ref q0, .int 0] [(q0, .inr (7, [.ref q2, .int 0, .int 0, .int 1008, .ref q1])), (q1, .inl (G.2.1, 2048, .inl (fun _ => 0)))] sz (fun u => [(q0, .inr (7, [.ref q2, .int 0, .int 0, .int 1008, .ref q1])), (q1, .inl (G.2.1, 2048, .inl (fun _ => (-1))))]) := by
  refine Kv.of b0 (own := RX7) (nm := "wipe") [(0, .ref q0), (1, .int 0)] rfl rfl (by decide +kernel) (Nat.le_of_ble_eq_true rfl) rfl ?_
  intro p e s m below meth c A C hr H locs w ls hl
  have hx := C.hx
  have hb := C.hb
  refine lv_aload_n hx hb dX7_wipe_0 rfl (lv_at hl 0 rfl) ?_
  refine lv_iload_n hx hb dX7_wipe_1 rfl (lv_at hl 1 rfl) ?_
  refine r_put C w 0 rfl fl_X7_22 (Nat.le_of_ble_eq_true rfl) rfl rfl dX7_wipe_2 (ws2 := [(q0, .inr (7, [.ref q2, .int 0, .int 0, .int 1008, .ref q1])), (q1, .inl (G.2.1, 2048, .inl (fun _ => 0)))]) rfl (fun H locs w => ?_)
  refine lv_aload_n hx hb dX7_wipe_5 rfl (lv_at hl 0 rfl) ?_
  refine lv_iconst (v := 0) hx hb dX7_wipe_6 (by decide) ?_
  refine r_put C w 0 rfl fl_X7_25 (Nat.le_of_ble_eq_true rfl) rfl rfl dX7_wipe_7 (ws2 := [(q0, .inr (7, [.ref q2, .int 0, .int 0, .int 1008, .ref q1])), (q1, .inl (G.2.1, 2048, .inl (fun _ => 0)))]) rfl (fun H locs w => ?_)
  refine lv_aload_n hx hb dX7_wipe_10 rfl (lv_at hl 0 rfl) ?_
  refine r_get C w 0 rfl fr_X7_19 rfl dX7_wipe_11 ?_
  refine lv_iconst (v := (-1)) hx hb dX7_wipe_14 (by decide) ?_
  refine fin_v C w (run_S C w ms_X7_28 (k_fillI C.b0 q1 2048 (by decide) (fun _ => 0) (-1) H.size) [1] rfl rfl (by decide) rfl hl.1 rfl (Nat.le_of_ble_eq_true rfl) dX7_wipe_15 (cells2 := 0) (slots2 := 0) (by decide)) [1] [0] rfl rfl (by decide) (cells2 := 0) (slots2 := 0) (by decide) (fun u1 H locs w => ?_)
  have w : Wd s G A [(q0, .inr (7, [.ref q2, .int 0, .int 0, .int 1008, .ref q1])), (q1, .inl (G.2.1, 2048, .inl (fun _ => (-1))))] H locs := w
  exact e_v C hr w (fun _ => 0) [0, 1] rfl rfl dX7_wipe_18 (by decide) (by decide)
set_option maxRecDepth 100000 in
set_option maxHeartbeats 4000000 in
theorem k409_spread {l : Launch} {s0 : State} {a0 : Array Value} {G : GT} (b0 : B0 l s0 a0 G) (q0 q1 q2 q3 : Nat) (sz : Nat) : Ki l s0 G yX7_spread cX7_spread 4 (some .int) { frames := 0, cells := 0, slots := 0, locals := 0 } [.ref q0, .ref q1] [(q0, .inr (7, [.ref q2, .int 0, .int 0, .int 1008, .ref q3]))] sz 7 (fun u => [(q0, .inr (7, [.ref q2, .int 0, .int 0, .int 1008, .ref q3]))]) := by
  refine Ki.of b0 (own := RX7) (nm := "spread") [(0, .ref q0), (1, .ref q1)] rfl rfl (by decide +kernel) (Nat.le_of_ble_eq_true rfl) rfl ?_
  intro p e s m below meth c A C hr H locs w ls hl
  have hx := C.hx
  have hb := C.hb
  refine lv_bipush (v := 7) hx hb dX7_spread_0 (by decide) ?_
  refine lv_istore_n (lv' := [(2, .int 7), (0, .ref q0), (1, .ref q1)]) hx hb dX7_spread_2 rfl hl (by decide) rfl (fun ls hl => ?_)
  refine lv_iconst (v := 0) hx hb dX7_spread_3 (by decide) ?_
  refine lv_istore_n (lv' := [(3, .int 0), (2, .int 7), (0, .ref q0), (1, .ref q1)]) hx hb dX7_spread_4 rfl hl (by decide) rfl (fun ls hl => ?_)
  refine lv_iload_n hx hb dX7_spread_5 rfl (lv_at hl 0 rfl) ?_
  refine lv_aload_n hx hb dX7_spread_6 rfl (lv_at hl 2 rfl) ?_
  refine r_get C w 0 rfl fr_X7_22 rfl dX7_spread_7 ?_
  refine lv_icmp_ge (tgt := 35) hx hb dX7_spread_10 (by decide) (fun _ => ?_) (fun h => absurd (by decide) h)
  refine lv_iload_n hx hb dX7_spread_35 rfl (lv_at hl 1 rfl) ?_
  exact e_i C hr w (fun _ => 0) [0] rfl rfl rfl dX7_spread_36 (by decide) (by decide)
set_option maxRecDepth 100000 in
set_option maxHeartbeats 4000000 in
theorem k410_enter {l : Launch} {s0 : State} {a0 : Array Value} {G : GT} (b0 : B0 l s0 a0 G) (q0 q1 q2 q3 : Nat) (sz : Nat) : Ki l s0 G yX7_enter cX7_enter 5 (some .int) { frames := 1, cells := 0, slots := 0, locals := 100 } [.ref q0, .ref q2] [(q0, .inr (7, [.ref q3, .int 0, .int 0, .int 1008, .ref q1])), (q1, .inl (G.2.1, 2048, .inl (fun _ => (-1)))), (q2, .inl (G.2.1, 8, .inl (fun _ => 0))), (q3, .inl (G.2.1, 8064, .inl (fun _ => 0)))] sz 0 (fun u => [(q0, .inr (7, [.ref q3, .int 0, .int 1, .int 1008, .ref q1])), (q1, .inl (G.2.1, 2048, .inl (upd (fun _ => (-1)) 7 0))), (q2, .inl (G.2.1, 8, .inl (fun _ => 0))), (q3, .inl (G.2.1, 8064, .inl (fun _ => 0)))]) := by
  refine Ki.of b0 (own := RX7) (nm := "enter") [(0, .ref q0), (1, .ref q2)] rfl rfl (by decide +kernel) (Nat.le_of_ble_eq_true rfl) rfl ?_
  intro p e s m below meth c A C hr H locs w ls hl
  have hx := C.hx
  have hb := C.hb
  refine lv_aload_n hx hb dX7_enter_0 rfl (lv_at hl 0 rfl) ?_
  refine r_get C w 0 rfl fr_X7_19 rfl dX7_enter_1 ?_
  refine r_alenI C w 1 rfl (v := 2048) (by decide +kernel) dX7_enter_4 ?_
  refine lv_iconst (v := 1) hx hb dX7_enter_5 (by decide) ?_
  refine lv_isub hx hb dX7_enter_6 ?_
  refine z_i (v := 2047) (by decide +kernel) ?_
  refine lv_istore_n (lv' := [(2, .int 2047), (0, .ref q0), (1, .ref q2)]) hx hb dX7_enter_7 rfl hl (by decide) rfl (fun ls hl => ?_)
  refine lv_aload_n hx hb dX7_enter_8 rfl (lv_at hl 1 rfl) ?_
  refine lv_aload_n hx hb dX7_enter_9 rfl (lv_at hl 2 rfl) ?_
  refine fin_i C w (run_V C w mv_X7_34 (k409_spread C.b0 q0 q2 q3 q1 H.size) [0] rfl rfl 0 rfl rfl (by decide) rfl hl.1 rfl (Nat.le_of_ble_eq_true rfl) dX7_enter_10 (cells2 := 0) (slots2 := 0) (by decide)) [0] [1, 2, 3] rfl rfl (by decide) (cells2 := 0) (slots2 := 0) (by decide) (fun u1 H locs w => ?_)
  have w : Wd s G A [(q1, .inl (G.2.1, 2048, .inl (fun _ => (-1)))), (q2, .inl (G.2.1, 8, .inl (fun _ => 0))), (q3, .inl (G.2.1, 8064, .inl (fun _ => 0))), (q0, .inr (7, [.ref q3, .int 0, .int 0, .int 1008, .ref q1]))] H locs := w
  refine lv_iload_n hx hb dX7_enter_13 rfl (lv_at hl 0 rfl) ?_
  refine lv_iand hx hb dX7_enter_14 ?_
  refine z_i (v := 7) (by decide +kernel) ?_
  refine lv_istore_n (lv' := [(3, .int 7), (2, .int 2047), (0, .ref q0), (1, .ref q2)]) hx hb dX7_enter_15 rfl hl (by decide) rfl (fun ls hl => ?_)
  refine lv_iconst (v := 0) hx hb dX7_enter_16 (by decide) ?_
  refine lv_istore (lv' := [(4, .int 0), (3, .int 7), (2, .int 2047), (0, .ref q0), (1, .ref q2)]) hx hb dX7_enter_17 hl (by decide) rfl (fun ls hl => ?_)
  refine lv_iload hx hb dX7_enter_19 (lv_at hl 0 rfl) ?_
  refine lv_iload_n hx hb dX7_enter_21 rfl (lv_at hl 2 rfl) ?_
  refine lv_icmp_gt (tgt := 68) hx hb dX7_enter_22 (by decide) (fun h => absurd h (by decide)) (fun _ => ?_)
  refine lv_aload_n hx hb dX7_enter_25 rfl (lv_at hl 3 rfl) ?_
  refine r_get C w 3 rfl fr_X7_19 rfl dX7_enter_26 ?_
  refine lv_iload_n hx hb dX7_enter_29 rfl (lv_at hl 1 rfl) ?_
  refine r_iald C w 0 rfl (IX.of (k := 7) (by decide +kernel)) (v := (-1)) rfl dX7_enter_30 ?_
  refine lv_iconst (v := (-1)) hx hb dX7_enter_31 (by decide) ?_
  refine lv_icmp_eq (tgt := 68) hx hb dX7_enter_32 (by decide) (fun _ => ?_) (fun h => absurd (by decide) h)
  refine lv_aload_n hx hb dX7_enter_68 rfl (lv_at hl 3 rfl) ?_
  refine r_get C w 3 rfl fr_X7_25 rfl dX7_enter_69 ?_
  refine lv_aload_n hx hb dX7_enter_72 rfl (lv_at hl 3 rfl) ?_
  refine r_get C w 3 rfl fr_X7_15 rfl dX7_enter_73 ?_
  refine lv_icmp_lt (tgt := 81) hx hb dX7_enter_76 (by decide) (fun _ => ?_) (fun h => absurd (by decide) h)
  refine lv_aload_n hx hb dX7_enter_81 rfl (lv_at hl 4 rfl) ?_
  refine lv_iconst (v := 0) hx hb dX7_enter_82 (by decide) ?_
  refine lv_aload_n hx hb dX7_enter_83 rfl (lv_at hl 3 rfl) ?_
  refine r_get C w 3 rfl fr_X7_9 rfl dX7_enter_84 ?_
  refine lv_aload_n hx hb dX7_enter_87 rfl (lv_at hl 3 rfl) ?_
  refine r_get C w 3 rfl fr_X7_25 rfl dX7_enter_88 ?_
  refine lv_aload_n hx hb dX7_enter_91 rfl (lv_at hl 3 rfl) ?_
  refine r_get C w 3 rfl fr_X7_22 rfl dX7_enter_92 ?_
  refine lv_imul hx hb dX7_enter_95 ?_
  refine z_i (v := 0) (by decide +kernel) ?_
  refine lv_aload_n hx hb dX7_enter_96 rfl (lv_at hl 3 rfl) ?_
  refine r_get C w 3 rfl fr_X7_22 rfl dX7_enter_97 ?_
  refine r_copyI C w 1 2 rfl rfl (sp' := 0) (dp' := 0) (n' := 0) (by decide +kernel) cp_X7_42 hl.1 (cpy_0 _ _ _ _) (by decide) (Nat.le_of_ble_eq_true rfl) dX7_enter_100 (ws2 := [(q1, .inl (G.2.1, 2048, .inl (fun _ => (-1)))), (q2, .inl (G.2.1, 8, .inl (fun _ => 0))), (q3, .inl (G.2.1, 8064, .inl (fun _ => 0))), (q0, .inr (7, [.ref q3, .int 0, .int 0, .int 1008, .ref q1]))]) rfl (fun H locs w => ?_)
  refine lv_aload_n hx hb dX7_enter_103 rfl (lv_at hl 3 rfl) ?_
  refine r_get C w 3 rfl fr_X7_19 rfl dX7_enter_104 ?_
  refine lv_iload_n hx hb dX7_enter_107 rfl (lv_at hl 1 rfl) ?_
  refine lv_aload_n hx hb dX7_enter_108 rfl (lv_at hl 3 rfl) ?_
  refine r_get C w 3 rfl fr_X7_25 rfl dX7_enter_109 ?_
  refine r_iast C w 0 rfl (IX.of (k := 7) (by decide +kernel)) (g := (upd (fun _ => (-1)) 7 0)) rfl dX7_enter_112 (ws2 := [(q1, .inl (G.2.1, 2048, .inl (upd (fun _ => (-1)) 7 0))), (q2, .inl (G.2.1, 8, .inl (fun _ => 0))), (q3, .inl (G.2.1, 8064, .inl (fun _ => 0))), (q0, .inr (7, [.ref q3, .int 0, .int 0, .int 1008, .ref q1]))]) rfl (fun H locs w => ?_)
  refine lv_aload_n hx hb dX7_enter_113 rfl (lv_at hl 3 rfl) ?_
  refine lv_dup hx hb dX7_enter_114 rfl ?_
  refine r_get C w 3 rfl fr_X7_25 rfl dX7_enter_115 ?_
  refine lv_iconst (v := 1) hx hb dX7_enter_118 (by decide) ?_
  refine lv_iadd hx hb dX7_enter_119 ?_
  refine z_i (v := 1) (by decide +kernel) ?_
  refine r_put C w 3 rfl fl_X7_25 (Nat.le_of_ble_eq_true rfl) rfl rfl dX7_enter_120 (ws2 := [(q1, .inl (G.2.1, 2048, .inl (upd (fun _ => (-1)) 7 0))), (q2, .inl (G.2.1, 8, .inl (fun _ => 0))), (q3, .inl (G.2.1, 8064, .inl (fun _ => 0))), (q0, .inr (7, [.ref q3, .int 0, .int 1, .int 1008, .ref q1]))]) rfl (fun H locs w => ?_)
  refine lv_aload_n hx hb dX7_enter_123 rfl (lv_at hl 3 rfl) ?_
  refine r_get C w 3 rfl fr_X7_25 rfl dX7_enter_124 ?_
  refine lv_iconst (v := 1) hx hb dX7_enter_127 (by decide) ?_
  refine lv_isub hx hb dX7_enter_128 ?_
  refine z_i (v := 0) (by decide +kernel) ?_
  exact e_i C hr w (fun _ => 0) [3, 0, 1, 2] rfl rfl rfl dX7_enter_129 (by decide) (by decide)
set_option maxRecDepth 100000 in
set_option maxHeartbeats 4000000 in
theorem k411_grow {l : Launch} {s0 : State} {a0 : Array Value} {G : GT} (b0 : B0 l s0 a0 G) (q0 q1 q2 q3 q4 q5 q6 q7 q8 q9 q10 q11 q12 q13 q14 q15 q16 q17 q18 q19 q20 q21 : Nat) (sz : Nat) : Kv l s0 G yX8_grow cX8_grow 6 none { frames := 2, cells := 0, slots := 0, locals := 124 } [.ref q0, .ref q1, .ref q4, .int 0] [(q0, .inr (8, [.int (-1), .ref q2, .ref q6, .ref q7, .null])), (q1, .inr (2, [.int 0, .int 0, .ref q8, .ref q9, .ref q10, .ref q11, .ref q12, .ref q13, .ref q14, .ref q15, .ref q16, .ref q17, .ref q18, .ref q19, .ref q20, .ref q21, .int 0])), (q2, .inr (7, [.ref q5, .int 0, .int 0, .int 1008, .ref q3])), (q3, .inl (G.2.1, 2048, .inl (fun _ => 0))), (q4, .inl (G.2.1, 8, .inl (fun _ => 0))), (q5, .inl (G.2.1, 8064, .inl (fun _ => 0))), (q6, .inl (G.2.1, 1008, .inl (fun _ => 0)))] sz (fun u => [(q0, .inr (8, [.int 0, .ref q2, .ref q6, .ref q7, .ref q1])), (q1, .inr (2, [.int 0, .int 0, .ref q8, .ref q9, .ref q10, .ref q11, .ref q12, .ref q13, .ref q14, .ref q15, .ref q16, .ref q17, .ref q18, .ref q19, .ref q20, .ref q21, .int 0])), (q2, .inr (7, [.ref q5, .int 0, .int 1, .int 1008, .ref q3])), (q3, .inl (G.2.1, 2048, .inl (upd (fun _ => (-1)) 7 0))), (q4, .inl (G.2.1, 8, .inl (fun _ => 0))), (q5, .inl (G.2.1, 8064, .inl (fun _ => 0))), (q6, .inl (G.2.1, 1008, .inl (upd (fun _ => 0) 0 (-1))))]) := by
  refine Kv.of b0 (own := RX8) (nm := "grow") [(0, .ref q0), (1, .ref q1), (2, .ref q4), (3, .int 0)] rfl rfl (by decide +kernel) (Nat.le_of_ble_eq_true rfl) rfl ?_
  intro p e s m below meth c A C hr H locs w ls hl
  have hx := C.hx
  have hb := C.hb
  refine lv_aload_n hx hb dX8_grow_0 rfl (lv_at hl 0 rfl) ?_
  refine lv_aload_n hx hb dX8_grow_1 rfl (lv_at hl 1 rfl) ?_
  refine r_put C w 0 rfl fl_X8_39 (Nat.le_of_ble_eq_true rfl) rfl rfl dX8_grow_2 (ws2 := [(q0, .inr (8, [.int (-1), .ref q2, .ref q6, .ref q7, .ref q1])), (q1, .inr (2, [.int 0, .int 0, .ref q8, .ref q9, .ref q10, .ref q11, .ref q12, .ref q13, .ref q14, .ref q15, .ref q16, .ref q17, .ref q18, .ref q19, .ref q20, .ref q21, .int 0])), (q2, .inr (7, [.ref q5, .int 0, .int 0, .int 1008, .ref q3])), (q3, .inl (G.2.1, 2048, .inl (fun _ => 0))), (q4, .inl (G.2.1, 8, .inl (fun _ => 0))), (q5, .inl (G.2.1, 8064, .inl (fun _ => 0))), (q6, .inl (G.2.1, 1008, .inl (fun _ => 0)))]) rfl (fun H locs w => ?_)
  refine lv_aload_n hx hb dX8_grow_5 rfl (lv_at hl 0 rfl) ?_
  refine lv_iload_n hx hb dX8_grow_6 rfl (lv_at hl 3 rfl) ?_
  refine r_put C w 0 rfl fl_X8_9 (Nat.le_of_ble_eq_true rfl) rfl rfl dX8_grow_7 (ws2 := [(q0, .inr (8, [.int 0, .ref q2, .ref q6, .ref q7, .ref q1])), (q1, .inr (2, [.int 0, .int 0, .ref q8, .ref q9, .ref q10, .ref q11, .ref q12, .ref q13, .ref q14, .ref q15, .ref q16, .ref q17, .ref q18, .ref q19, .ref q20, .ref q21, .int 0])), (q2, .inr (7, [.ref q5, .int 0, .int 0, .int 1008, .ref q3])), (q3, .inl (G.2.1, 2048, .inl (fun _ => 0))), (q4, .inl (G.2.1, 8, .inl (fun _ => 0))), (q5, .inl (G.2.1, 8064, .inl (fun _ => 0))), (q6, .inl (G.2.1, 1008, .inl (fun _ => 0)))]) rfl (fun H locs w => ?_)
  refine lv_aload_n hx hb dX8_grow_10 rfl (lv_at hl 0 rfl) ?_
  refine r_get C w 0 rfl fr_X8_20 rfl dX8_grow_11 ?_
  refine lv_aload_n hx hb dX8_grow_14 rfl (lv_at hl 0 rfl) ?_
  refine r_get C w 0 rfl fr_X8_39 rfl dX8_grow_15 ?_
  refine r_get C w 1 rfl fr_X8_43 rfl dX8_grow_18 ?_
  refine fin_v C w (run_V C w mv_X8_48 (k408_wipe C.b0 q2 q3 q5 H.size) [2, 3] rfl rfl 2 rfl rfl (by decide) rfl hl.1 rfl (Nat.le_of_ble_eq_true rfl) dX8_grow_21 (cells2 := 0) (slots2 := 0) (by decide)) [2, 3] [0, 1, 4, 5, 6] rfl rfl (by decide) (cells2 := 0) (slots2 := 0) (by decide) (fun u1 H locs w => ?_)
  have w : Wd s G A [(q0, .inr (8, [.int 0, .ref q2, .ref q6, .ref q7, .ref q1])), (q1, .inr (2, [.int 0, .int 0, .ref q8, .ref q9, .ref q10, .ref q11, .ref q12, .ref q13, .ref q14, .ref q15, .ref q16, .ref q17, .ref q18, .ref q19, .ref q20, .ref q21, .int 0])), (q4, .inl (G.2.1, 8, .inl (fun _ => 0))), (q5, .inl (G.2.1, 8064, .inl (fun _ => 0))), (q6, .inl (G.2.1, 1008, .inl (fun _ => 0))), (q2, .inr (7, [.ref q5, .int 0, .int 0, .int 1008, .ref q3])), (q3, .inl (G.2.1, 2048, .inl (fun _ => (-1))))] H locs := w
  refine lv_aload_n hx hb dX8_grow_24 rfl (lv_at hl 0 rfl) ?_
  refine r_get C w 0 rfl fr_X8_20 rfl dX8_grow_25 ?_
  refine lv_aload_n hx hb dX8_grow_28 rfl (lv_at hl 2 rfl) ?_
  refine fin_i C w (run_V C w mv_X8_52 (k410_enter C.b0 q2 q3 q4 q5 H.size) [5, 6, 2, 3] rfl rfl 5 rfl rfl (by decide) rfl hl.1 rfl (Nat.le_of_ble_eq_true rfl) dX8_grow_29 (cells2 := 0) (slots2 := 0) (by decide)) [5, 6, 2, 3] [0, 1, 4] rfl rfl (by decide) (cells2 := 0) (slots2 := 0) (by decide) (fun u2 H locs w => ?_)
  have w : Wd s G A [(q0, .inr (8, [.int 0, .ref q2, .ref q6, .ref q7, .ref q1])), (q1, .inr (2, [.int 0, .int 0, .ref q8, .ref q9, .ref q10, .ref q11, .ref q12, .ref q13, .ref q14, .ref q15, .ref q16, .ref q17, .ref q18, .ref q19, .ref q20, .ref q21, .int 0])), (q6, .inl (G.2.1, 1008, .inl (fun _ => 0))), (q2, .inr (7, [.ref q5, .int 0, .int 1, .int 1008, .ref q3])), (q3, .inl (G.2.1, 2048, .inl (upd (fun _ => (-1)) 7 0))), (q4, .inl (G.2.1, 8, .inl (fun _ => 0))), (q5, .inl (G.2.1, 8064, .inl (fun _ => 0)))] H locs := w
  refine lv_pop hx hb dX8_grow_32 rfl ?_
  refine lv_aload_n hx hb dX8_grow_33 rfl (lv_at hl 0 rfl) ?_
  refine r_get C w 0 rfl fr_X8_24 rfl dX8_grow_34 ?_
  refine lv_iconst (v := 0) hx hb dX8_grow_37 (by decide) ?_
  refine lv_iconst (v := (-1)) hx hb dX8_grow_38 (by decide) ?_
  refine r_iast C w 2 rfl (IX.of (k := 0) (by decide +kernel)) (g := (upd (fun _ => 0) 0 (-1))) rfl dX8_grow_39 (ws2 := [(q0, .inr (8, [.int 0, .ref q2, .ref q6, .ref q7, .ref q1])), (q1, .inr (2, [.int 0, .int 0, .ref q8, .ref q9, .ref q10, .ref q11, .ref q12, .ref q13, .ref q14, .ref q15, .ref q16, .ref q17, .ref q18, .ref q19, .ref q20, .ref q21, .int 0])), (q6, .inl (G.2.1, 1008, .inl (upd (fun _ => 0) 0 (-1)))), (q2, .inr (7, [.ref q5, .int 0, .int 1, .int 1008, .ref q3])), (q3, .inl (G.2.1, 2048, .inl (upd (fun _ => (-1)) 7 0))), (q4, .inl (G.2.1, 8, .inl (fun _ => 0))), (q5, .inl (G.2.1, 8064, .inl (fun _ => 0)))]) rfl (fun H locs w => ?_)
  refine lv_iconst (v := 0) hx hb dX8_grow_40 (by decide) ?_
  refine lv_istore (lv' := [(4, .int 0), (0, .ref q0), (1, .ref q1), (2, .ref q4), (3, .int 0)]) hx hb dX8_grow_41 hl (by decide) rfl (fun ls hl => ?_)
  refine lv_iload hx hb dX8_grow_43 (lv_at hl 0 rfl) ?_
  refine lv_aload_n hx hb dX8_grow_45 rfl (lv_at hl 1 rfl) ?_
  refine r_get C w 0 rfl fr_X8_20 rfl dX8_grow_46 ?_
  refine r_get C w 3 rfl fr_X8_31 rfl dX8_grow_49 ?_
  refine lv_icmp_ge (tgt := 103) hx hb dX8_grow_52 (by decide) (fun h => absurd h (by decide)) (fun _ => ?_)
  refine lv_aload_n hx hb dX8_grow_55 rfl (lv_at hl 1 rfl) ?_
  refine r_get C w 0 rfl fr_X8_20 rfl dX8_grow_56 ?_
  refine r_get C w 3 rfl fr_X8_31 rfl dX8_grow_59 ?_
  refine lv_sipush (v := 1000) hx hb dX8_grow_62 (by decide) ?_
  refine lv_icmp_gt (tgt := 103) hx hb dX8_grow_65 (by decide) (fun h => absurd h (by decide)) (fun _ => ?_)
  refine lv_iconst (v := 0) hx hb dX8_grow_68 (by decide) ?_
  refine lv_istore (lv' := [(5, .int 0), (4, .int 0), (0, .ref q0), (1, .ref q1), (2, .ref q4), (3, .int 0)]) hx hb dX8_grow_69 hl (by decide) rfl (fun ls hl => ?_)
  refine lv_iload hx hb dX8_grow_71 (lv_at hl 0 rfl) ?_
  refine lv_aload_n hx hb dX8_grow_73 rfl (lv_at hl 2 rfl) ?_
  refine r_get C w 0 rfl fr_X8_39 rfl dX8_grow_74 ?_
  refine r_get C w 1 rfl fr_X8_56 rfl dX8_grow_77 ?_
  refine lv_icmp_ge (tgt := 97) hx hb dX8_grow_80 (by decide) (fun _ => ?_) (fun h => absurd (by decide) h)
  refine lv_iinc (v := 1) (lv' := [(4, .int 1), (5, .int 0), (0, .ref q0), (1, .ref q1), (2, .ref q4), (3, .int 0)]) hx hb dX8_grow_97 hl (k := 1) rfl (by decide +kernel) (by decide) rfl (fun ls hl => ?_)
  refine lv_goto (tgt := 43) hx hb dX8_grow_100 (by decide) ?_
  refine lv_iload hx hb dX8_grow_43 (lv_at hl 0 rfl) ?_
  refine lv_aload_n hx hb dX8_grow_45 rfl (lv_at hl 2 rfl) ?_
  refine r_get C w 0 rfl fr_X8_20 rfl dX8_grow_46 ?_
  refine r_get C w 3 rfl fr_X8_31 rfl dX8_grow_49 ?_
  refine lv_icmp_ge (tgt := 103) hx hb dX8_grow_52 (by decide) (fun _ => ?_) (fun h => absurd (by decide) h)
  exact e_v C hr w (fun _ => 0) [0, 1, 3, 4, 5, 6, 2] rfl rfl dX8_grow_103 (by decide) (by decide)
set_option maxRecDepth 100000 in
set_option maxHeartbeats 4000000 in
theorem k412_grown {l : Launch} {s0 : State} {a0 : Array Value} {G : GT} (b0 : B0 l s0 a0 G) (q0 q1 q2 q3 q4 q5 q6 q7 q8 q9 q10 q11 q12 q13 q14 q15 q16 q17 q18 q19 q20 q21 q22 q23 q24 q25 q26 q27 : Nat) (sz : Nat) : Kr l s0 G yX11_grown cX11_grown 1 (some (.object "TokenHall$Tree")) { frames := 3, cells := 6, slots := 11138, locals := 149 } [.ref q0] [(q0, .inr (11, [.ref q4, .ref q5, .ref q1, .ref q6, .ref q7, .ref q8, .ref q9, .ref q10, .ref q2, .ref q11, .int 0, .int (-1), .int 0, .int 0, .null, .null, .null, .null, .null])), (q1, .inr (5, [.ref q3, .ref q12, .ref q13, .int 0])), (q2, .inr (2, [.int 0, .int 0, .ref q14, .ref q15, .ref q16, .ref q17, .ref q18, .ref q19, .ref q20, .ref q21, .ref q22, .ref q23, .ref q24, .ref q25, .ref q26, .ref q27, .int 0])), (q3, .inl (G.2.1, 8, .inl (fun _ => 0)))] sz (fun u => (u 0)) (fun u => [(q0, .inr (11, [.ref q4, .ref q5, .ref q1, .ref q6, .ref q7, .ref q8, .ref q9, .ref q10, .ref q2, .ref q11, .int 0, .int (-1), .int 0, .int 0, .null, .null, .ref (u 0), .null, .null])), (q1, .inr (5, [.ref q3, .ref q12, .ref q13, .int 0])), (q2, .inr (2, [.int 0, .int 0, .ref q14, .ref q15, .ref q16, .ref q17, .ref q18, .ref q19, .ref q20, .ref q21, .ref q22, .ref q23, .ref q24, .ref q25, .ref q26, .ref q27, .int 0])), (q3, .inl (G.2.1, 8, .inl (fun _ => 0))), ((u 0), .inr (8, [.int 0, .ref (u 1), .ref (u 4), .ref (u 5), .ref q2])), ((u 1), .inr (7, [.ref (u 2), .int 0, .int 1, .int 1008, .ref (u 3)])), ((u 2), .inl (G.2.1, 8064, .inl (fun _ => 0))), ((u 3), .inl (G.2.1, 2048, .inl (upd (fun _ => (-1)) 7 0))), ((u 4), .inl (G.2.1, 1008, .inl (upd (fun _ => 0) 0 (-1)))), ((u 5), .inl (G.2.1, 8, .inl (fun _ => 0)))]) := by
  refine Kr.of b0 (own := RX11) (nm := "grown") [(0, .ref q0)] rfl rfl (by decide +kernel) (Nat.le_of_ble_eq_true rfl) rfl ?_
  intro p e s m below meth c A C hr H locs w ls hl
  have hx := C.hx
  have hb := C.hb
  refine lv_aload_n hx hb dX11_grown_0 rfl (lv_at hl 0 rfl) ?_
  refine r_get C w 0 rfl fr_X11_391 rfl dX11_grown_1 ?_
  refine lv_ifnonnullN hx hb dX11_grown_4 ?_
  refine lv_aload_n hx hb dX11_grown_7 rfl (lv_at hl 0 rfl) ?_
  refine r_new C w (cells2 := 1) (slots2 := 5) no_X11_244 ⟨by decide, by decide, by decide, by decide⟩ dX11_grown_8 (fun q1 H w => ?_)
  have w : Wd s G A [(q0, .inr (11, [.ref q4, .ref q5, .ref q1, .ref q6, .ref q7, .ref q8, .ref q9, .ref q10, .ref q2, .ref q11, .int 0, .int (-1), .int 0, .int 0, .null, .null, .null, .null, .null])), (q1, .inr (5, [.ref q3, .ref q12, .ref q13, .int 0])), (q2, .inr (2, [.int 0, .int 0, .ref q14, .ref q15, .ref q16, .ref q17, .ref q18, .ref q19, .ref q20, .ref q21, .ref q22, .ref q23, .ref q24, .ref q25, .ref q26, .ref q27, .int 0])), (q3, .inl (G.2.1, 8, .inl (fun _ => 0))), (q1, .inr (8, [.int 0, .null, .null, .null, .null]))] H locs := w
  refine lv_dup hx hb dX11_grown_11 rfl ?_
  refine fin_v C w (run_N C w mn_X11_395 (k407_init C.b0 q1 H.size) [4] rfl rfl (by decide) rfl hl.1 rfl (Nat.le_of_ble_eq_true rfl) dX11_grown_12 (cells2 := 6) (slots2 := 11138) (by decide)) [4] [0, 1, 2, 3] rfl rfl (by decide) (cells2 := 6) (slots2 := 11138) (by decide) (fun u2 H locs w => ?_)
  have w : Wd s G A [(q0, .inr (11, [.ref q4, .ref q5, .ref q1, .ref q6, .ref q7, .ref q8, .ref q9, .ref q10, .ref q2, .ref q11, .int 0, .int (-1), .int 0, .int 0, .null, .null, .null, .null, .null])), (q1, .inr (5, [.ref q3, .ref q12, .ref q13, .int 0])), (q2, .inr (2, [.int 0, .int 0, .ref q14, .ref q15, .ref q16, .ref q17, .ref q18, .ref q19, .ref q20, .ref q21, .ref q22, .ref q23, .ref q24, .ref q25, .ref q26, .ref q27, .int 0])), (q3, .inl (G.2.1, 8, .inl (fun _ => 0))), (q1, .inr (8, [.int (-1), .ref (u2 0), .ref (u2 3), .ref (u2 4), .null])), ((u2 0), .inr (7, [.ref (u2 1), .int 0, .int 0, .int 1008, .ref (u2 2)])), ((u2 1), .inl (G.2.1, 8064, .inl (fun _ => 0))), ((u2 2), .inl (G.2.1, 2048, .inl (fun _ => 0))), ((u2 3), .inl (G.2.1, 1008, .inl (fun _ => 0))), ((u2 4), .inl (G.2.1, 8, .inl (fun _ => 0)))] H locs := w
  refine r_put C w 0 rfl fl_X11_391 (Nat.le_of_ble_eq_true rfl) rfl rfl dX11_grown_15 (ws2 := [(q0, .inr (11, [.ref q4, .ref q5, .ref q1, .ref q6, .ref q7, .ref q8, .ref q9, .ref q10, .ref q2, .ref q11, .int 0, .int (-1), .int 0, .int 0, .null, .null, .ref q1, .null, .null])), (q1, .inr (5, [.ref q3, .ref q12, .ref q13, .int 0])), (q2, .inr (2, [.int 0, .int 0, .ref q14, .ref q15, .ref q16, .ref q17, .ref q18, .ref q19, .ref q20, .ref q21, .ref q22, .ref q23, .ref q24, .ref q25, .ref q26, .ref q27, .int 0])), (q3, .inl (G.2.1, 8, .inl (fun _ => 0))), (q1, .inr (8, [.int (-1), .ref (u2 0), .ref (u2 3), .ref (u2 4), .null])), ((u2 0), .inr (7, [.ref (u2 1), .int 0, .int 0, .int 1008, .ref (u2 2)])), ((u2 1), .inl (G.2.1, 8064, .inl (fun _ => 0))), ((u2 2), .inl (G.2.1, 2048, .inl (fun _ => 0))), ((u2 3), .inl (G.2.1, 1008, .inl (fun _ => 0))), ((u2 4), .inl (G.2.1, 8, .inl (fun _ => 0)))]) rfl (fun H locs w => ?_)
  refine lv_aload_n hx hb dX11_grown_18 rfl (lv_at hl 0 rfl) ?_
  refine r_get C w 0 rfl fr_X11_391 rfl dX11_grown_19 ?_
  refine r_get C w 4 rfl fr_X11_396 rfl dX11_grown_22 ?_
  refine lv_aload_n hx hb dX11_grown_25 rfl (lv_at hl 0 rfl) ?_
  refine r_get C w 0 rfl fr_X11_95 rfl dX11_grown_26 ?_
  refine lv_icmp_eq (tgt := 54) hx hb dX11_grown_29 (by decide) (fun h => absurd h (by decide)) (fun _ => ?_)
  refine lv_aload_n hx hb dX11_grown_32 rfl (lv_at hl 0 rfl) ?_
  refine r_get C w 0 rfl fr_X11_391 rfl dX11_grown_33 ?_
  refine lv_aload_n hx hb dX11_grown_36 rfl (lv_at hl 0 rfl) ?_
  refine r_get C w 0 rfl fr_X11_54 rfl dX11_grown_37 ?_
  refine lv_aload_n hx hb dX11_grown_40 rfl (lv_at hl 0 rfl) ?_
  refine r_get C w 0 rfl fr_X11_23 rfl dX11_grown_41 ?_
  refine r_get C w 1 rfl fr_X11_129 rfl dX11_grown_44 ?_
  refine lv_aload_n hx hb dX11_grown_47 rfl (lv_at hl 0 rfl) ?_
  refine r_get C w 0 rfl fr_X11_95 rfl dX11_grown_48 ?_
  refine fin_v C w (run_V C w mv_X11_397 (k411_grow C.b0 q1 q2 (u2 0) (u2 2) q3 (u2 1) (u2 3) (u2 4) q14 q15 q16 q17 q18 q19 q20 q21 q22 q23 q24 q25 q26 q27 H.size) [4, 2, 5, 7, 3, 6, 8] rfl rfl 4 rfl rfl (by decide) rfl hl.1 rfl (Nat.le_of_ble_eq_true rfl) dX11_grown_51 (cells2 := 6) (slots2 := 11138) (by decide)) [4, 2, 5, 7, 3, 6, 8] [0, 1, 9] rfl rfl (by decide) (cells2 := 6) (slots2 := 11138) (by decide) (fun u3 H locs w => ?_)
  have w : Wd s G A [(q0, .inr (11, [.ref q4, .ref q5, .ref q1, .ref q6, .ref q7, .ref q8, .ref q9, .ref q10, .ref q2, .ref q11, .int 0, .int (-1), .int 0, .int 0, .null, .null, .ref q1, .null, .null])), (q1, .inr (5, [.ref q3, .ref q12, .ref q13, .int 0])), ((u2 4), .inl (G.2.1, 8, .inl (fun _ => 0))), (q1, .inr (8, [.int 0, .ref (u2 0), .ref (u2 3), .ref (u2 4), .ref q2])), (q2, .inr (2, [.int 0, .int 0, .ref q14, .ref q15, .ref q16, .ref q17, .ref q18, .ref q19, .ref q20, .ref q21, .ref q22, .ref q23, .ref q24, .ref q25, .ref q26, .ref q27, .int 0])), ((u2 0), .inr (7, [.ref (u2 1), .int 0, .int 1, .int 1008, .ref (u2 2)])), ((u2 2), .inl (G.2.1, 2048, .inl (upd (fun _ => (-1)) 7 0))), (q3, .inl (G.2.1, 8, .inl (fun _ => 0))), ((u2 1), .inl (G.2.1, 8064, .inl (fun _ => 0))), ((u2 3), .inl (G.2.1, 1008, .inl (upd (fun _ => 0) 0 (-1))))] H locs := w
  refine lv_aload_n hx hb dX11_grown_54 rfl (lv_at hl 0 rfl) ?_
  refine r_get C w 0 rfl fr_X11_391 rfl dX11_grown_55 ?_
  exact e_r C hr w (fun k => [q1, (u2 0), (u2 1), (u2 2), (u2 3), (u2 4)].getD k 0) [0, 1, 4, 7, 3, 5, 8, 6, 9, 2] rfl rfl rfl dX11_grown_58 (by decide) (by decide)
set_option maxRecDepth 100000 in
set_option maxHeartbeats 4000000 in
theorem k413_size {l : Launch} {s0 : State} {a0 : Array Value} {G : GT} (b0 : B0 l s0 a0 G) (q0 q1 q2 q3 q4 q5 q6 : Nat) (sz : Nat) : Ki l s0 G yX8_size cX8_size 1 (some .int) { frames := 0, cells := 0, slots := 0, locals := 0 } [.ref q0] [(q0, .inr (8, [.int 0, .ref q1, .ref q2, .ref q3, .ref q4])), (q1, .inr (7, [.ref q5, .int 0, .int 1, .int 1008, .ref q6]))] sz 1 (fun u => [(q0, .inr (8, [.int 0, .ref q1, .ref q2, .ref q3, .ref q4])), (q1, .inr (7, [.ref q5, .int 0, .int 1, .int 1008, .ref q6]))]) := by
  refine Ki.of b0 (own := RX8) (nm := "size") [(0, .ref q0)] rfl rfl (by decide +kernel) (Nat.le_of_ble_eq_true rfl) rfl ?_
  intro p e s m below meth c A C hr H locs w ls hl
  have hx := C.hx
  have hb := C.hb
  refine lv_aload_n hx hb dX8_size_0 rfl (lv_at hl 0 rfl) ?_
  refine r_get C w 0 rfl fr_X8_20 rfl dX8_size_1 ?_
  refine r_get C w 1 rfl fr_X8_31 rfl dX8_size_4 ?_
  exact e_i C hr w (fun _ => 0) [0, 1] rfl rfl rfl dX8_size_7 (by decide) (by decide)
set_option maxRecDepth 100000 in
set_option maxHeartbeats 4000000 in
theorem k414_growth {l : Launch} {s0 : State} {a0 : Array Value} {G : GT} (b0 : B0 l s0 a0 G) (q0 q1 q2 q3 q4 q5 q6 q7 q8 q9 q10 q11 q12 q13 q14 q15 q16 q17 q18 q19 q20 q21 q22 q23 q24 q25 q26 q27 : Nat) (sz : Nat) : Ki l s0 G yX11_growth cX11_growth 2 (some .int) { frames := 4, cells := 6, slots := 11138, locals := 169 } [.ref q0] [(q0, .inr (11, [.ref q4, .ref q5, .ref q1, .ref q6, .ref q7, .ref q8, .ref q9, .ref q10, .ref q2, .ref q11, .int 0, .int (-1), .int 0, .int 0, .null, .null, .null, .null, .null])), (q1, .inr (5, [.ref q3, .ref q12, .ref q13, .int 0])), (q2, .inr (2, [.int 0, .int 0, .ref q14, .ref q15, .ref q16, .ref q17, .ref q18, .ref q19, .ref q20, .ref q21, .ref q22, .ref q23, .ref q24, .ref q25, .ref q26, .ref q27, .int 0])), (q3, .inl (G.2.1, 8, .inl (fun _ => 0)))] sz 1 (fun u => [(q0, .inr (11, [.ref q4, .ref q5, .ref q1, .ref q6, .ref q7, .ref q8, .ref q9, .ref q10, .ref q2, .ref q11, .int 0, .int (-1), .int 0, .int 0, .null, .null, .ref (u 0), .null, .null])), (q1, .inr (5, [.ref q3, .ref q12, .ref q13, .int 0])), (q2, .inr (2, [.int 0, .int 0, .ref q14, .ref q15, .ref q16, .ref q17, .ref q18, .ref q19, .ref q20, .ref q21, .ref q22, .ref q23, .ref q24, .ref q25, .ref q26, .ref q27, .int 0])), (q3, .inl (G.2.1, 8, .inl (fun _ => 0))), ((u 0), .inr (8, [.int 0, .ref (u 1), .ref (u 4), .ref (u 5), .ref q2])), ((u 1), .inr (7, [.ref (u 2), .int 0, .int 1, .int 1008, .ref (u 3)])), ((u 2), .inl (G.2.1, 8064, .inl (fun _ => 0))), ((u 3), .inl (G.2.1, 2048, .inl (upd (fun _ => (-1)) 7 0))), ((u 4), .inl (G.2.1, 1008, .inl (upd (fun _ => 0) 0 (-1)))), ((u 5), .inl (G.2.1, 8, .inl (fun _ => 0)))]) := by
  refine Ki.of b0 (own := RX11) (nm := "growth") [(0, .ref q0)] rfl rfl (by decide +kernel) (Nat.le_of_ble_eq_true rfl) rfl ?_
  intro p e s m below meth c A C hr H locs w ls hl
  have hx := C.hx
  have hb := C.hb
  refine lv_aload_n hx hb dX11_growth_0 rfl (lv_at hl 0 rfl) ?_
  refine fin_r C w (run_V C w mv_X11_239 (k412_grown C.b0 q0 q1 q2 q3 q4 q5 q6 q7 q8 q9 q10 q11 q12 q13 q14 q15 q16 q17 q18 q19 q20 q21 q22 q23 q24 q25 q26 q27 H.size) [0, 1, 2, 3] rfl rfl 0 rfl rfl (by decide) rfl hl.1 rfl (Nat.le_of_ble_eq_true rfl) dX11_growth_1 (cells2 := 6) (slots2 := 11138) (by decide)) [0, 1, 2, 3] [] rfl rfl (by decide) (cells2 := 6) (slots2 := 11138) (by decide) (fun u1 H locs w => ?_)
  have w : Wd s G A [(q0, .inr (11, [.ref q4, .ref q5, .ref q1, .ref q6, .ref q7, .ref q8, .ref q9, .ref q10, .ref q2, .ref q11, .int 0, .int (-1), .int 0, .int 0, .null, .null, .ref (u1 0), .null, .null])), (q1, .inr (5, [.ref q3, .ref q12, .ref q13, .int 0])), (q2, .inr (2, [.int 0, .int 0, .ref q14, .ref q15, .ref q16, .ref q17, .ref q18, .ref q19, .ref q20, .ref q21, .ref q22, .ref q23, .ref q24, .ref q25, .ref q26, .ref q27, .int 0])), (q3, .inl (G.2.1, 8, .inl (fun _ => 0))), ((u1 0), .inr (8, [.int 0, .ref (u1 1), .ref (u1 4), .ref (u1 5), .ref q2])), ((u1 1), .inr (7, [.ref (u1 2), .int 0, .int 1, .int 1008, .ref (u1 3)])), ((u1 2), .inl (G.2.1, 8064, .inl (fun _ => 0))), ((u1 3), .inl (G.2.1, 2048, .inl (upd (fun _ => (-1)) 7 0))), ((u1 4), .inl (G.2.1, 1008, .inl (upd (fun _ => 0) 0 (-1)))), ((u1 5), .inl (G.2.1, 8, .inl (fun _ => 0)))] H locs := w
  refine fin_i C w (run_V C w mv_X11_243 (k413_size C.b0 (u1 0) (u1 1) (u1 4) (u1 5) q2 (u1 2) (u1 3) H.size) [4, 5] rfl rfl 4 rfl rfl (by decide) rfl hl.1 rfl (Nat.le_of_ble_eq_true rfl) dX11_growth_4 (cells2 := 6) (slots2 := 11138) (by decide)) [4, 5] [0, 1, 2, 3, 6, 7, 8, 9] rfl rfl (by decide) (cells2 := 6) (slots2 := 11138) (by decide) (fun u2 H locs w => ?_)
  have w : Wd s G A [(q0, .inr (11, [.ref q4, .ref q5, .ref q1, .ref q6, .ref q7, .ref q8, .ref q9, .ref q10, .ref q2, .ref q11, .int 0, .int (-1), .int 0, .int 0, .null, .null, .ref (u1 0), .null, .null])), (q1, .inr (5, [.ref q3, .ref q12, .ref q13, .int 0])), (q2, .inr (2, [.int 0, .int 0, .ref q14, .ref q15, .ref q16, .ref q17, .ref q18, .ref q19, .ref q20, .ref q21, .ref q22, .ref q23, .ref q24, .ref q25, .ref q26, .ref q27, .int 0])), (q3, .inl (G.2.1, 8, .inl (fun _ => 0))), ((u1 2), .inl (G.2.1, 8064, .inl (fun _ => 0))), ((u1 3), .inl (G.2.1, 2048, .inl (upd (fun _ => (-1)) 7 0))), ((u1 4), .inl (G.2.1, 1008, .inl (upd (fun _ => 0) 0 (-1)))), ((u1 5), .inl (G.2.1, 8, .inl (fun _ => 0))), ((u1 0), .inr (8, [.int 0, .ref (u1 1), .ref (u1 4), .ref (u1 5), .ref q2])), ((u1 1), .inr (7, [.ref (u1 2), .int 0, .int 1, .int 1008, .ref (u1 3)]))] H locs := w
  refine lv_istore_n (lv' := [(1, .int 1), (0, .ref q0)]) hx hb dX11_growth_7 rfl hl (by decide) rfl (fun ls hl => ?_)
  refine lv_iload_n hx hb dX11_growth_8 rfl (lv_at hl 0 rfl) ?_
  refine lv_sipush (v := 1000) hx hb dX11_growth_9 (by decide) ?_
  refine lv_icmp_le (tgt := 20) hx hb dX11_growth_12 (by decide) (fun _ => ?_) (fun h => absurd (by decide) h)
  refine lv_iload_n hx hb dX11_growth_20 rfl (lv_at hl 0 rfl) ?_
  exact e_i C hr w (fun k => [(u1 0), (u1 1), (u1 2), (u1 3), (u1 4), (u1 5)].getD k 0) [0, 1, 2, 3, 8, 9, 4, 5, 6, 7] rfl rfl rfl dX11_growth_21 (by decide) (by decide)
set_option maxRecDepth 100000 in
set_option maxHeartbeats 4000000 in
theorem k415_acts {l : Launch} {s0 : State} {a0 : Array Value} {G : GT} (b0 : B0 l s0 a0 G) (q0 q1 q2 q3 q4 q5 q6 q7 q8 q9 q10 q11 q12 q13 q14 q15 q16 q17 q18 q19 q20 q21 q22 q23 q24 q25 q26 q27 q28 q29 q30 q31 q32 q33 q34 q35 q36 q37 q38 q39 q40 q41 q42 : Nat) (sz : Nat) : Ki l s0 G yX12_acts cX12_acts 1 (some .int) { frames := 0, cells := 0, slots := 0, locals := 0 } [.ref q0] [(q0, .inr (12, [.int 0, .int 0, .int 0, .int 0, .int 0, .int 0, .int 0, .int (-1), .ref q2, .ref q1, .ref q3, .int 0, .ref q4, .ref q5, .ref q6, .ref q7, .ref q8, .ref q9, .ref q10, .int 0, .ref q11, .ref q12, .ref q13, .ref q14, .ref q15, .ref q16, .ref q17, .int 0, .int (-1), .int 0, .ref q18, .ref q19, .ref q20, .ref q21, .ref q22, .ref q23, .ref q24, .ref q25, .int 0, .ref q26, .ref q27, .ref q28, .ref q29, .ref q30, .int 0, .ref q31, .ref q32, .ref q33, .ref q34, .int 1, .ref q35, .ref q36, .ref q37, .ref q38, .int 0, .int 0, .ref q39, .ref q40, .ref q41, .ref q42])), (q1, .inl (G.2.1, 242, .inl (fun _ => 0)))] sz 0 (fun u => [(q0, .inr (12, [.int 0, .int 0, .int 0, .int 0, .int 0, .int 0, .int 0, .int (-1), .ref q2, .ref q1, .ref q3, .int 0, .ref q4, .ref q5, .ref q6, .ref q7, .ref q8, .ref q9, .ref q10, .int 0, .ref q11, .ref q12, .ref q13, .ref q14, .ref q15, .ref q16, .ref q17, .int 0, .int (-1), .int 0, .ref q18, .ref q19, .ref q20, .ref q21, .ref q22, .ref q23, .ref q24, .ref q25, .int 0, .ref q26, .ref q27, .ref q28, .ref q29, .ref q30, .int 0, .ref q31, .ref q32, .ref q33, .ref q34, .int 1, .ref q35, .ref q36, .ref q37, .ref q38, .int 0, .int 0, .ref q39, .ref q40, .ref q41, .ref q42])), (q1, .inl (G.2.1, 242, .inl (fun _ => 0)))]) := by
  refine Ki.of b0 (own := RX12) (nm := "acts") [(0, .ref q0)] rfl rfl (by decide +kernel) (Nat.le_of_ble_eq_true rfl) rfl ?_
  intro p e s m below meth c A C hr H locs w ls hl
  have hx := C.hx
  have hb := C.hb
  refine lv_aload_n hx hb dX12_acts_0 rfl (lv_at hl 0 rfl) ?_
  refine r_get C w 0 rfl fr_X12_20 rfl dX12_acts_1 ?_
  refine lv_iconst (v := 1) hx hb dX12_acts_4 (by decide) ?_
  refine r_iald C w 1 rfl (IX.of (k := 1) (by decide +kernel)) (v := 0) rfl dX12_acts_5 ?_
  exact e_i C hr w (fun _ => 0) [0, 1] rfl rfl rfl dX12_acts_6 (by decide) (by decide)
set_option maxRecDepth 100000 in
set_option maxHeartbeats 4000000 in
theorem k416_grows {l : Launch} {s0 : State} {a0 : Array Value} {G : GT} (b0 : B0 l s0 a0 G) (q0 q1 q2 q3 q4 q5 q6 q7 q8 q9 q10 q11 q12 q13 q14 q15 q16 q17 q18 q19 q20 q21 q22 q23 q24 q25 q26 q27 q28 q29 q30 q31 q32 q33 q34 q35 q36 q37 q38 q39 q40 q41 q42 : Nat) (sz : Nat) : Ki l s0 G yX12_grows cX12_grows 4 (some .boolean) { frames := 1, cells := 0, slots := 0, locals := 20 } [.ref q0] [(q0, .inr (12, [.int 0, .int 0, .int 0, .int 0, .int 0, .int 0, .int 0, .int (-1), .ref q5, .ref q4, .ref q6, .int 0, .ref q7, .ref q8, .ref q9, .ref q10, .ref q11, .ref q2, .ref q12, .int 0, .ref q13, .ref q14, .ref q15, .ref q16, .ref q17, .ref q18, .ref q19, .int 0, .int (-1), .int 0, .ref q20, .ref q21, .ref q22, .ref q23, .ref q24, .ref q25, .ref q26, .ref q27, .int 0, .ref q28, .ref q29, .ref q30, .ref q31, .ref q32, .int 0, .ref q33, .ref q3, .ref q1, .ref q34, .int 0, .ref q35, .ref q36, .ref q37, .ref q38, .int 0, .int 0, .ref q39, .ref q40, .ref q41, .ref q42])), (q1, .inl (G.2.1, 1001, .inl (fun _ => 0))), (q2, .inl (G.2.1, 57, .inl (fun _ => 0))), (q3, .inl (G.2.1, 8008, .inl (fun _ => 0))), (q4, .inl (G.2.1, 242, .inl (fun _ => 0)))] sz 0 (fun u => [(q0, .inr (12, [.int 0, .int 0, .int 0, .int 0, .int 0, .int 0, .int 0, .int (-1), .ref q5, .ref q4, .ref q6, .int 0, .ref q7, .ref q8, .ref q9, .ref q10, .ref q11, .ref q2, .ref q12, .int 0, .ref q13, .ref q14, .ref q15, .ref q16, .ref q17, .ref q18, .ref q19, .int 0, .int (-1), .int 0, .ref q20, .ref q21, .ref q22, .ref q23, .ref q24, .ref q25, .ref q26, .ref q27, .int 0, .ref q28, .ref q29, .ref q30, .ref q31, .ref q32, .int 0, .ref q33, .ref q3, .ref q1, .ref q34, .int 1, .ref q35, .ref q36, .ref q37, .ref q38, .int 0, .int 0, .ref q39, .ref q40, .ref q41, .ref q42])), (q1, .inl (G.2.1, 1001, .inl (upd (fun _ => 0) 0 (-1)))), (q2, .inl (G.2.1, 57, .inl (fun _ => 0))), (q3, .inl (G.2.1, 8008, .inl (fun _ => 0))), (q4, .inl (G.2.1, 242, .inl (fun _ => 0)))]) := by
  refine Ki.of b0 (own := RX12) (nm := "grows") [(0, .ref q0)] rfl rfl (by decide +kernel) (Nat.le_of_ble_eq_true rfl) rfl ?_
  intro p e s m below meth c A C hr H locs w ls hl
  have hx := C.hx
  have hb := C.hb
  refine lv_aload_n hx hb dX12_grows_0 rfl (lv_at hl 0 rfl) ?_
  refine lv_iconst (v := 1) hx hb dX12_grows_1 (by decide) ?_
  refine r_put C w 0 rfl fl_X12_392 (Nat.le_of_ble_eq_true rfl) rfl rfl dX12_grows_2 (ws2 := [(q0, .inr (12, [.int 0, .int 0, .int 0, .int 0, .int 0, .int 0, .int 0, .int (-1), .ref q5, .ref q4, .ref q6, .int 0, .ref q7, .ref q8, .ref q9, .ref q10, .ref q11, .ref q2, .ref q12, .int 0, .ref q13, .ref q14, .ref q15, .ref q16, .ref q17, .ref q18, .ref q19, .int 0, .int (-1), .int 0, .ref q20, .ref q21, .ref q22, .ref q23, .ref q24, .ref q25, .ref q26, .ref q27, .int 0, .ref q28, .ref q29, .ref q30, .ref q31, .ref q32, .int 0, .ref q33, .ref q3, .ref q1, .ref q34, .int 1, .ref q35, .ref q36, .ref q37, .ref q38, .int 0, .int 0, .ref q39, .ref q40, .ref q41, .ref q42])), (q1, .inl (G.2.1, 1001, .inl (fun _ => 0))), (q2, .inl (G.2.1, 57, .inl (fun _ => 0))), (q3, .inl (G.2.1, 8008, .inl (fun _ => 0))), (q4, .inl (G.2.1, 242, .inl (fun _ => 0)))]) rfl (fun H locs w => ?_)
  refine lv_aload_n hx hb dX12_grows_5 rfl (lv_at hl 0 rfl) ?_
  refine r_get C w 0 rfl fr_X12_118 rfl dX12_grows_6 ?_
  refine lv_iconst (v := 0) hx hb dX12_grows_9 (by decide) ?_
  refine lv_iconst (v := (-1)) hx hb dX12_grows_10 (by decide) ?_
  refine r_iast C w 1 rfl (IX.of (k := 0) (by decide +kernel)) (g := (upd (fun _ => 0) 0 (-1))) rfl dX12_grows_11 (ws2 := [(q0, .inr (12, [.int 0, .int 0, .int 0, .int 0, .int 0, .int 0, .int 0, .int (-1), .ref q5, .ref q4, .ref q6, .int 0, .ref q7, .ref q8, .ref q9, .ref q10, .ref q11, .ref q2, .ref q12, .int 0, .ref q13, .ref q14, .ref q15, .ref q16, .ref q17, .ref q18, .ref q19, .int 0, .int (-1), .int 0, .ref q20, .ref q21, .ref q22, .ref q23, .ref q24, .ref q25, .ref q26, .ref q27, .int 0, .ref q28, .ref q29, .ref q30, .ref q31, .ref q32, .int 0, .ref q33, .ref q3, .ref q1, .ref q34, .int 1, .ref q35, .ref q36, .ref q37, .ref q38, .int 0, .int 0, .ref q39, .ref q40, .ref q41, .ref q42])), (q1, .inl (G.2.1, 1001, .inl (upd (fun _ => 0) 0 (-1)))), (q2, .inl (G.2.1, 57, .inl (fun _ => 0))), (q3, .inl (G.2.1, 8008, .inl (fun _ => 0))), (q4, .inl (G.2.1, 242, .inl (fun _ => 0)))]) rfl (fun H locs w => ?_)
  refine lv_iconst (v := 0) hx hb dX12_grows_12 (by decide) ?_
  refine lv_istore_n (lv' := [(1, .int 0), (0, .ref q0)]) hx hb dX12_grows_13 rfl hl (by decide) rfl (fun ls hl => ?_)
  refine lv_iload_n hx hb dX12_grows_14 rfl (lv_at hl 0 rfl) ?_
  refine lv_bipush (v := 8) hx hb dX12_grows_15 (by decide) ?_
  refine lv_icmp_ge (tgt := 38) hx hb dX12_grows_17 (by decide) (fun h => absurd h (by decide)) (fun _ => ?_)
  refine lv_aload_n hx hb dX12_grows_20 rfl (lv_at hl 1 rfl) ?_
  refine r_get C w 0 rfl fr_X12_115 rfl dX12_grows_21 ?_
  refine lv_iload_n hx hb dX12_grows_24 rfl (lv_at hl 0 rfl) ?_
  refine lv_aload_n hx hb dX12_grows_25 rfl (lv_at hl 1 rfl) ?_
  refine r_get C w 0 rfl fr_X12_41 rfl dX12_grows_26 ?_
  refine lv_iload_n hx hb dX12_grows_29 rfl (lv_at hl 0 rfl) ?_
  refine r_iald C w 2 rfl (IX.of (k := 0) (by decide +kernel)) (v := 0) rfl dX12_grows_30 ?_
  refine r_iast C w 3 rfl (IX.of (k := 0) (by decide +kernel)) (g := (fun _ => 0)) (upd_c _ _) dX12_grows_31 (ws2 := [(q0, .inr (12, [.int 0, .int 0, .int 0, .int 0, .int 0, .int 0, .int 0, .int (-1), .ref q5, .ref q4, .ref q6, .int 0, .ref q7, .ref q8, .ref q9, .ref q10, .ref q11, .ref q2, .ref q12, .int 0, .ref q13, .ref q14, .ref q15, .ref q16, .ref q17, .ref q18, .ref q19, .int 0, .int (-1), .int 0, .ref q20, .ref q21, .ref q22, .ref q23, .ref q24, .ref q25, .ref q26, .ref q27, .int 0, .ref q28, .ref q29, .ref q30, .ref q31, .ref q32, .int 0, .ref q33, .ref q3, .ref q1, .ref q34, .int 1, .ref q35, .ref q36, .ref q37, .ref q38, .int 0, .int 0, .ref q39, .ref q40, .ref q41, .ref q42])), (q1, .inl (G.2.1, 1001, .inl (upd (fun _ => 0) 0 (-1)))), (q2, .inl (G.2.1, 57, .inl (fun _ => 0))), (q3, .inl (G.2.1, 8008, .inl (fun _ => 0))), (q4, .inl (G.2.1, 242, .inl (fun _ => 0)))]) rfl (fun H locs w => ?_)
  refine lv_iinc (v := 1) (lv' := [(1, .int 1), (0, .ref q0)]) hx hb dX12_grows_32 hl (k := 0) rfl (by decide +kernel) (by decide) rfl (fun ls hl => ?_)
  refine lv_goto (tgt := 14) hx hb dX12_grows_35 (by decide) ?_
  refine lv_iload_n hx hb dX12_grows_14 rfl (lv_at hl 0 rfl) ?_
  refine lv_bipush (v := 8) hx hb dX12_grows_15 (by decide) ?_
  refine lv_icmp_ge (tgt := 38) hx hb dX12_grows_17 (by decide) (fun h => absurd h (by decide)) (fun _ => ?_)
  refine lv_aload_n hx hb dX12_grows_20 rfl (lv_at hl 1 rfl) ?_
  refine r_get C w 0 rfl fr_X12_115 rfl dX12_grows_21 ?_
  refine lv_iload_n hx hb dX12_grows_24 rfl (lv_at hl 0 rfl) ?_
  refine lv_aload_n hx hb dX12_grows_25 rfl (lv_at hl 1 rfl) ?_
  refine r_get C w 0 rfl fr_X12_41 rfl dX12_grows_26 ?_
  refine lv_iload_n hx hb dX12_grows_29 rfl (lv_at hl 0 rfl) ?_
  refine r_iald C w 2 rfl (IX.of (k := 1) (by decide +kernel)) (v := 0) rfl dX12_grows_30 ?_
  refine r_iast C w 3 rfl (IX.of (k := 1) (by decide +kernel)) (g := (fun _ => 0)) (upd_c _ _) dX12_grows_31 (ws2 := [(q0, .inr (12, [.int 0, .int 0, .int 0, .int 0, .int 0, .int 0, .int 0, .int (-1), .ref q5, .ref q4, .ref q6, .int 0, .ref q7, .ref q8, .ref q9, .ref q10, .ref q11, .ref q2, .ref q12, .int 0, .ref q13, .ref q14, .ref q15, .ref q16, .ref q17, .ref q18, .ref q19, .int 0, .int (-1), .int 0, .ref q20, .ref q21, .ref q22, .ref q23, .ref q24, .ref q25, .ref q26, .ref q27, .int 0, .ref q28, .ref q29, .ref q30, .ref q31, .ref q32, .int 0, .ref q33, .ref q3, .ref q1, .ref q34, .int 1, .ref q35, .ref q36, .ref q37, .ref q38, .int 0, .int 0, .ref q39, .ref q40, .ref q41, .ref q42])), (q1, .inl (G.2.1, 1001, .inl (upd (fun _ => 0) 0 (-1)))), (q2, .inl (G.2.1, 57, .inl (fun _ => 0))), (q3, .inl (G.2.1, 8008, .inl (fun _ => 0))), (q4, .inl (G.2.1, 242, .inl (fun _ => 0)))]) rfl (fun H locs w => ?_)
  refine lv_iinc (v := 2) (lv' := [(1, .int 2), (0, .ref q0)]) hx hb dX12_grows_32 hl (k := 0) rfl (by decide +kernel) (by decide) rfl (fun ls hl => ?_)
  refine lv_goto (tgt := 14) hx hb dX12_grows_35 (by decide) ?_
  refine lv_iload_n hx hb dX12_grows_14 rfl (lv_at hl 0 rfl) ?_
  refine lv_bipush (v := 8) hx hb dX12_grows_15 (by decide) ?_
  refine lv_icmp_ge (tgt := 38) hx hb dX12_grows_17 (by decide) (fun h => absurd h (by decide)) (fun _ => ?_)
  refine lv_aload_n hx hb dX12_grows_20 rfl (lv_at hl 1 rfl) ?_
  refine r_get C w 0 rfl fr_X12_115 rfl dX12_grows_21 ?_
  refine lv_iload_n hx hb dX12_grows_24 rfl (lv_at hl 0 rfl) ?_
  refine lv_aload_n hx hb dX12_grows_25 rfl (lv_at hl 1 rfl) ?_
  refine r_get C w 0 rfl fr_X12_41 rfl dX12_grows_26 ?_
  refine lv_iload_n hx hb dX12_grows_29 rfl (lv_at hl 0 rfl) ?_
  refine r_iald C w 2 rfl (IX.of (k := 2) (by decide +kernel)) (v := 0) rfl dX12_grows_30 ?_
  refine r_iast C w 3 rfl (IX.of (k := 2) (by decide +kernel)) (g := (fun _ => 0)) (upd_c _ _) dX12_grows_31 (ws2 := [(q0, .inr (12, [.int 0, .int 0, .int 0, .int 0, .int 0, .int 0, .int 0, .int (-1), .ref q5, .ref q4, .ref q6, .int 0, .ref q7, .ref q8, .ref q9, .ref q10, .ref q11, .ref q2, .ref q12, .int 0, .ref q13, .ref q14, .ref q15, .ref q16, .ref q17, .ref q18, .ref q19, .int 0, .int (-1), .int 0, .ref q20, .ref q21, .ref q22, .ref q23, .ref q24, .ref q25, .ref q26, .ref q27, .int 0, .ref q28, .ref q29, .ref q30, .ref q31, .ref q32, .int 0, .ref q33, .ref q3, .ref q1, .ref q34, .int 1, .ref q35, .ref q36, .ref q37, .ref q38, .int 0, .int 0, .ref q39, .ref q40, .ref q41, .ref q42])), (q1, .inl (G.2.1, 1001, .inl (upd (fun _ => 0) 0 (-1)))), (q2, .inl (G.2.1, 57, .inl (fun _ => 0))), (q3, .inl (G.2.1, 8008, .inl (fun _ => 0))), (q4, .inl (G.2.1, 242, .inl (fun _ => 0)))]) rfl (fun H locs w => ?_)
  refine lv_iinc (v := 3) (lv' := [(1, .int 3), (0, .ref q0)]) hx hb dX12_grows_32 hl (k := 0) rfl (by decide +kernel) (by decide) rfl (fun ls hl => ?_)
  refine lv_goto (tgt := 14) hx hb dX12_grows_35 (by decide) ?_
  refine lv_iload_n hx hb dX12_grows_14 rfl (lv_at hl 0 rfl) ?_
  refine lv_bipush (v := 8) hx hb dX12_grows_15 (by decide) ?_
  refine lv_icmp_ge (tgt := 38) hx hb dX12_grows_17 (by decide) (fun h => absurd h (by decide)) (fun _ => ?_)
  refine lv_aload_n hx hb dX12_grows_20 rfl (lv_at hl 1 rfl) ?_
  refine r_get C w 0 rfl fr_X12_115 rfl dX12_grows_21 ?_
  refine lv_iload_n hx hb dX12_grows_24 rfl (lv_at hl 0 rfl) ?_
  refine lv_aload_n hx hb dX12_grows_25 rfl (lv_at hl 1 rfl) ?_
  refine r_get C w 0 rfl fr_X12_41 rfl dX12_grows_26 ?_
  refine lv_iload_n hx hb dX12_grows_29 rfl (lv_at hl 0 rfl) ?_
  refine r_iald C w 2 rfl (IX.of (k := 3) (by decide +kernel)) (v := 0) rfl dX12_grows_30 ?_
  refine r_iast C w 3 rfl (IX.of (k := 3) (by decide +kernel)) (g := (fun _ => 0)) (upd_c _ _) dX12_grows_31 (ws2 := [(q0, .inr (12, [.int 0, .int 0, .int 0, .int 0, .int 0, .int 0, .int 0, .int (-1), .ref q5, .ref q4, .ref q6, .int 0, .ref q7, .ref q8, .ref q9, .ref q10, .ref q11, .ref q2, .ref q12, .int 0, .ref q13, .ref q14, .ref q15, .ref q16, .ref q17, .ref q18, .ref q19, .int 0, .int (-1), .int 0, .ref q20, .ref q21, .ref q22, .ref q23, .ref q24, .ref q25, .ref q26, .ref q27, .int 0, .ref q28, .ref q29, .ref q30, .ref q31, .ref q32, .int 0, .ref q33, .ref q3, .ref q1, .ref q34, .int 1, .ref q35, .ref q36, .ref q37, .ref q38, .int 0, .int 0, .ref q39, .ref q40, .ref q41, .ref q42])), (q1, .inl (G.2.1, 1001, .inl (upd (fun _ => 0) 0 (-1)))), (q2, .inl (G.2.1, 57, .inl (fun _ => 0))), (q3, .inl (G.2.1, 8008, .inl (fun _ => 0))), (q4, .inl (G.2.1, 242, .inl (fun _ => 0)))]) rfl (fun H locs w => ?_)
  refine lv_iinc (v := 4) (lv' := [(1, .int 4), (0, .ref q0)]) hx hb dX12_grows_32 hl (k := 0) rfl (by decide +kernel) (by decide) rfl (fun ls hl => ?_)
  refine lv_goto (tgt := 14) hx hb dX12_grows_35 (by decide) ?_
  refine lv_iload_n hx hb dX12_grows_14 rfl (lv_at hl 0 rfl) ?_
  refine lv_bipush (v := 8) hx hb dX12_grows_15 (by decide) ?_
  refine lv_icmp_ge (tgt := 38) hx hb dX12_grows_17 (by decide) (fun h => absurd h (by decide)) (fun _ => ?_)
  refine lv_aload_n hx hb dX12_grows_20 rfl (lv_at hl 1 rfl) ?_
  refine r_get C w 0 rfl fr_X12_115 rfl dX12_grows_21 ?_
  refine lv_iload_n hx hb dX12_grows_24 rfl (lv_at hl 0 rfl) ?_
  refine lv_aload_n hx hb dX12_grows_25 rfl (lv_at hl 1 rfl) ?_
  refine r_get C w 0 rfl fr_X12_41 rfl dX12_grows_26 ?_
  refine lv_iload_n hx hb dX12_grows_29 rfl (lv_at hl 0 rfl) ?_
  refine r_iald C w 2 rfl (IX.of (k := 4) (by decide +kernel)) (v := 0) rfl dX12_grows_30 ?_
  refine r_iast C w 3 rfl (IX.of (k := 4) (by decide +kernel)) (g := (fun _ => 0)) (upd_c _ _) dX12_grows_31 (ws2 := [(q0, .inr (12, [.int 0, .int 0, .int 0, .int 0, .int 0, .int 0, .int 0, .int (-1), .ref q5, .ref q4, .ref q6, .int 0, .ref q7, .ref q8, .ref q9, .ref q10, .ref q11, .ref q2, .ref q12, .int 0, .ref q13, .ref q14, .ref q15, .ref q16, .ref q17, .ref q18, .ref q19, .int 0, .int (-1), .int 0, .ref q20, .ref q21, .ref q22, .ref q23, .ref q24, .ref q25, .ref q26, .ref q27, .int 0, .ref q28, .ref q29, .ref q30, .ref q31, .ref q32, .int 0, .ref q33, .ref q3, .ref q1, .ref q34, .int 1, .ref q35, .ref q36, .ref q37, .ref q38, .int 0, .int 0, .ref q39, .ref q40, .ref q41, .ref q42])), (q1, .inl (G.2.1, 1001, .inl (upd (fun _ => 0) 0 (-1)))), (q2, .inl (G.2.1, 57, .inl (fun _ => 0))), (q3, .inl (G.2.1, 8008, .inl (fun _ => 0))), (q4, .inl (G.2.1, 242, .inl (fun _ => 0)))]) rfl (fun H locs w => ?_)
  refine lv_iinc (v := 5) (lv' := [(1, .int 5), (0, .ref q0)]) hx hb dX12_grows_32 hl (k := 0) rfl (by decide +kernel) (by decide) rfl (fun ls hl => ?_)
  refine lv_goto (tgt := 14) hx hb dX12_grows_35 (by decide) ?_
  refine lv_iload_n hx hb dX12_grows_14 rfl (lv_at hl 0 rfl) ?_
  refine lv_bipush (v := 8) hx hb dX12_grows_15 (by decide) ?_
  refine lv_icmp_ge (tgt := 38) hx hb dX12_grows_17 (by decide) (fun h => absurd h (by decide)) (fun _ => ?_)
  refine lv_aload_n hx hb dX12_grows_20 rfl (lv_at hl 1 rfl) ?_
  refine r_get C w 0 rfl fr_X12_115 rfl dX12_grows_21 ?_
  refine lv_iload_n hx hb dX12_grows_24 rfl (lv_at hl 0 rfl) ?_
  refine lv_aload_n hx hb dX12_grows_25 rfl (lv_at hl 1 rfl) ?_
  refine r_get C w 0 rfl fr_X12_41 rfl dX12_grows_26 ?_
  refine lv_iload_n hx hb dX12_grows_29 rfl (lv_at hl 0 rfl) ?_
  refine r_iald C w 2 rfl (IX.of (k := 5) (by decide +kernel)) (v := 0) rfl dX12_grows_30 ?_
  refine r_iast C w 3 rfl (IX.of (k := 5) (by decide +kernel)) (g := (fun _ => 0)) (upd_c _ _) dX12_grows_31 (ws2 := [(q0, .inr (12, [.int 0, .int 0, .int 0, .int 0, .int 0, .int 0, .int 0, .int (-1), .ref q5, .ref q4, .ref q6, .int 0, .ref q7, .ref q8, .ref q9, .ref q10, .ref q11, .ref q2, .ref q12, .int 0, .ref q13, .ref q14, .ref q15, .ref q16, .ref q17, .ref q18, .ref q19, .int 0, .int (-1), .int 0, .ref q20, .ref q21, .ref q22, .ref q23, .ref q24, .ref q25, .ref q26, .ref q27, .int 0, .ref q28, .ref q29, .ref q30, .ref q31, .ref q32, .int 0, .ref q33, .ref q3, .ref q1, .ref q34, .int 1, .ref q35, .ref q36, .ref q37, .ref q38, .int 0, .int 0, .ref q39, .ref q40, .ref q41, .ref q42])), (q1, .inl (G.2.1, 1001, .inl (upd (fun _ => 0) 0 (-1)))), (q2, .inl (G.2.1, 57, .inl (fun _ => 0))), (q3, .inl (G.2.1, 8008, .inl (fun _ => 0))), (q4, .inl (G.2.1, 242, .inl (fun _ => 0)))]) rfl (fun H locs w => ?_)
  refine lv_iinc (v := 6) (lv' := [(1, .int 6), (0, .ref q0)]) hx hb dX12_grows_32 hl (k := 0) rfl (by decide +kernel) (by decide) rfl (fun ls hl => ?_)
  refine lv_goto (tgt := 14) hx hb dX12_grows_35 (by decide) ?_
  refine lv_iload_n hx hb dX12_grows_14 rfl (lv_at hl 0 rfl) ?_
  refine lv_bipush (v := 8) hx hb dX12_grows_15 (by decide) ?_
  refine lv_icmp_ge (tgt := 38) hx hb dX12_grows_17 (by decide) (fun h => absurd h (by decide)) (fun _ => ?_)
  refine lv_aload_n hx hb dX12_grows_20 rfl (lv_at hl 1 rfl) ?_
  refine r_get C w 0 rfl fr_X12_115 rfl dX12_grows_21 ?_
  refine lv_iload_n hx hb dX12_grows_24 rfl (lv_at hl 0 rfl) ?_
  refine lv_aload_n hx hb dX12_grows_25 rfl (lv_at hl 1 rfl) ?_
  refine r_get C w 0 rfl fr_X12_41 rfl dX12_grows_26 ?_
  refine lv_iload_n hx hb dX12_grows_29 rfl (lv_at hl 0 rfl) ?_
  refine r_iald C w 2 rfl (IX.of (k := 6) (by decide +kernel)) (v := 0) rfl dX12_grows_30 ?_
  refine r_iast C w 3 rfl (IX.of (k := 6) (by decide +kernel)) (g := (fun _ => 0)) (upd_c _ _) dX12_grows_31 (ws2 := [(q0, .inr (12, [.int 0, .int 0, .int 0, .int 0, .int 0, .int 0, .int 0, .int (-1), .ref q5, .ref q4, .ref q6, .int 0, .ref q7, .ref q8, .ref q9, .ref q10, .ref q11, .ref q2, .ref q12, .int 0, .ref q13, .ref q14, .ref q15, .ref q16, .ref q17, .ref q18, .ref q19, .int 0, .int (-1), .int 0, .ref q20, .ref q21, .ref q22, .ref q23, .ref q24, .ref q25, .ref q26, .ref q27, .int 0, .ref q28, .ref q29, .ref q30, .ref q31, .ref q32, .int 0, .ref q33, .ref q3, .ref q1, .ref q34, .int 1, .ref q35, .ref q36, .ref q37, .ref q38, .int 0, .int 0, .ref q39, .ref q40, .ref q41, .ref q42])), (q1, .inl (G.2.1, 1001, .inl (upd (fun _ => 0) 0 (-1)))), (q2, .inl (G.2.1, 57, .inl (fun _ => 0))), (q3, .inl (G.2.1, 8008, .inl (fun _ => 0))), (q4, .inl (G.2.1, 242, .inl (fun _ => 0)))]) rfl (fun H locs w => ?_)
  refine lv_iinc (v := 7) (lv' := [(1, .int 7), (0, .ref q0)]) hx hb dX12_grows_32 hl (k := 0) rfl (by decide +kernel) (by decide) rfl (fun ls hl => ?_)
  refine lv_goto (tgt := 14) hx hb dX12_grows_35 (by decide) ?_
  refine lv_iload_n hx hb dX12_grows_14 rfl (lv_at hl 0 rfl) ?_
  refine lv_bipush (v := 8) hx hb dX12_grows_15 (by decide) ?_
  refine lv_icmp_ge (tgt := 38) hx hb dX12_grows_17 (by decide) (fun h => absurd h (by decide)) (fun _ => ?_)
  refine lv_aload_n hx hb dX12_grows_20 rfl (lv_at hl 1 rfl) ?_
  refine r_get C w 0 rfl fr_X12_115 rfl dX12_grows_21 ?_
  refine lv_iload_n hx hb dX12_grows_24 rfl (lv_at hl 0 rfl) ?_
  refine lv_aload_n hx hb dX12_grows_25 rfl (lv_at hl 1 rfl) ?_
  refine r_get C w 0 rfl fr_X12_41 rfl dX12_grows_26 ?_
  refine lv_iload_n hx hb dX12_grows_29 rfl (lv_at hl 0 rfl) ?_
  refine r_iald C w 2 rfl (IX.of (k := 7) (by decide +kernel)) (v := 0) rfl dX12_grows_30 ?_
  refine r_iast C w 3 rfl (IX.of (k := 7) (by decide +kernel)) (g := (fun _ => 0)) (upd_c _ _) dX12_grows_31 (ws2 := [(q0, .inr (12, [.int 0, .int 0, .int 0, .int 0, .int 0, .int 0, .int 0, .int (-1), .ref q5, .ref q4, .ref q6, .int 0, .ref q7, .ref q8, .ref q9, .ref q10, .ref q11, .ref q2, .ref q12, .int 0, .ref q13, .ref q14, .ref q15, .ref q16, .ref q17, .ref q18, .ref q19, .int 0, .int (-1), .int 0, .ref q20, .ref q21, .ref q22, .ref q23, .ref q24, .ref q25, .ref q26, .ref q27, .int 0, .ref q28, .ref q29, .ref q30, .ref q31, .ref q32, .int 0, .ref q33, .ref q3, .ref q1, .ref q34, .int 1, .ref q35, .ref q36, .ref q37, .ref q38, .int 0, .int 0, .ref q39, .ref q40, .ref q41, .ref q42])), (q1, .inl (G.2.1, 1001, .inl (upd (fun _ => 0) 0 (-1)))), (q2, .inl (G.2.1, 57, .inl (fun _ => 0))), (q3, .inl (G.2.1, 8008, .inl (fun _ => 0))), (q4, .inl (G.2.1, 242, .inl (fun _ => 0)))]) rfl (fun H locs w => ?_)
  refine lv_iinc (v := 8) (lv' := [(1, .int 8), (0, .ref q0)]) hx hb dX12_grows_32 hl (k := 0) rfl (by decide +kernel) (by decide) rfl (fun ls hl => ?_)
  refine lv_goto (tgt := 14) hx hb dX12_grows_35 (by decide) ?_
  refine lv_iload_n hx hb dX12_grows_14 rfl (lv_at hl 0 rfl) ?_
  refine lv_bipush (v := 8) hx hb dX12_grows_15 (by decide) ?_
  refine lv_icmp_ge (tgt := 38) hx hb dX12_grows_17 (by decide) (fun _ => ?_) (fun h => absurd (by decide) h)
  refine lv_iconst (v := 0) hx hb dX12_grows_38 (by decide) ?_
  refine lv_istore_n (lv' := [(1, .int 0), (0, .ref q0)]) hx hb dX12_grows_39 rfl hl (by decide) rfl (fun ls hl => ?_)
  refine lv_iload_n hx hb dX12_grows_40 rfl (lv_at hl 0 rfl) ?_
  refine lv_aload_n hx hb dX12_grows_41 rfl (lv_at hl 1 rfl) ?_
  refine r_get C w 0 rfl fr_X12_392 rfl dX12_grows_42 ?_
  refine lv_icmp_ge (tgt := 163) hx hb dX12_grows_45 (by decide) (fun h => absurd h (by decide)) (fun _ => ?_)
  refine lv_iconst (v := 0) hx hb dX12_grows_48 (by decide) ?_
  refine lv_istore_n (lv' := [(2, .int 0), (1, .int 0), (0, .ref q0)]) hx hb dX12_grows_49 rfl hl (by decide) rfl (fun ls hl => ?_)
  refine lv_iload_n hx hb dX12_grows_50 rfl (lv_at hl 0 rfl) ?_
  refine lv_aload_n hx hb dX12_grows_51 rfl (lv_at hl 2 rfl) ?_
  refine fin_i C w (run_V C w mv_X12_286 (k415_acts C.b0 q0 q4 q5 q6 q7 q8 q9 q10 q11 q2 q12 q13 q14 q15 q16 q17 q18 q19 q20 q21 q22 q23 q24 q25 q26 q27 q28 q29 q30 q31 q32 q33 q3 q1 q34 q35 q36 q37 q38 q39 q40 q41 q42 H.size) [0, 4] rfl rfl 0 rfl rfl (by decide) rfl hl.1 rfl (Nat.le_of_ble_eq_true rfl) dX12_grows_52 (cells2 := 0) (slots2 := 0) (by decide)) [0, 4] [1, 2, 3] rfl rfl (by decide) (cells2 := 0) (slots2 := 0) (by decide) (fun u1 H locs w => ?_)
  have w : Wd s G A [(q1, .inl (G.2.1, 1001, .inl (upd (fun _ => 0) 0 (-1)))), (q2, .inl (G.2.1, 57, .inl (fun _ => 0))), (q3, .inl (G.2.1, 8008, .inl (fun _ => 0))), (q0, .inr (12, [.int 0, .int 0, .int 0, .int 0, .int 0, .int 0, .int 0, .int (-1), .ref q5, .ref q4, .ref q6, .int 0, .ref q7, .ref q8, .ref q9, .ref q10, .ref q11, .ref q2, .ref q12, .int 0, .ref q13, .ref q14, .ref q15, .ref q16, .ref q17, .ref q18, .ref q19, .int 0, .int (-1), .int 0, .ref q20, .ref q21, .ref q22, .ref q23, .ref q24, .ref q25, .ref q26, .ref q27, .int 0, .ref q28, .ref q29, .ref q30, .ref q31, .ref q32, .int 0, .ref q33, .ref q3, .ref q1, .ref q34, .int 1, .ref q35, .ref q36, .ref q37, .ref q38, .int 0, .int 0, .ref q39, .ref q40, .ref q41, .ref q42])), (q4, .inl (G.2.1, 242, .inl (fun _ => 0)))] H locs := w
  refine lv_icmp_ge (tgt := 157) hx hb dX12_grows_55 (by decide) (fun _ => ?_) (fun h => absurd (by decide) h)
  refine lv_iinc (v := 1) (lv' := [(1, .int 1), (2, .int 0), (0, .ref q0)]) hx hb dX12_grows_157 hl (k := 1) rfl (by decide +kernel) (by decide) rfl (fun ls hl => ?_)
  refine lv_goto (tgt := 40) hx hb dX12_grows_160 (by decide) ?_
  refine lv_iload_n hx hb dX12_grows_40 rfl (lv_at hl 0 rfl) ?_
  refine lv_aload_n hx hb dX12_grows_41 rfl (lv_at hl 2 rfl) ?_
  refine r_get C w 3 rfl fr_X12_392 rfl dX12_grows_42 ?_
  refine lv_icmp_ge (tgt := 163) hx hb dX12_grows_45 (by decide) (fun _ => ?_) (fun h => absurd (by decide) h)
  refine lv_iconst (v := 0) hx hb dX12_grows_163 (by decide) ?_
  exact e_i C hr w (fun _ => 0) [3, 0, 1, 2, 4] rfl rfl (by decide) dX12_grows_164 (by decide) (by decide)
set_option maxRecDepth 100000 in
set_option maxHeartbeats 4000000 in
theorem k417_growth {l : Launch} {s0 : State} {a0 : Array Value} {G : GT} (b0 : B0 l s0 a0 G) (q0 q1 q2 q3 q4 q5 q6 q7 q8 q9 q10 q11 q12 q13 q14 q15 q16 q17 q18 q19 q20 q21 q22 q23 q24 q25 q26 q27 q28 q29 q30 q31 q32 q33 q34 q35 q36 q37 q38 q39 q40 q41 q42 : Nat) (sz : Nat) : Ki l s0 G yX12_growth cX12_growth 1 (some .int) { frames := 2, cells := 0, slots := 0, locals := 43 } [.ref q0] [(q0, .inr (12, [.int 0, .int 0, .int 0, .int 0, .int 0, .int 0, .int 0, .int (-1), .ref q5, .ref q4, .ref q6, .int 0, .ref q7, .ref q8, .ref q9, .ref q10, .ref q11, .ref q2, .ref q12, .int 0, .ref q13, .ref q14, .ref q15, .ref q16, .ref q17, .ref q18, .ref q19, .int 0, .int (-1), .int 0, .ref q20, .ref q21, .ref q22, .ref q23, .ref q24, .ref q25, .ref q26, .ref q27, .int 0, .ref q28, .ref q29, .ref q30, .ref q31, .ref q32, .int 0, .ref q33, .ref q3, .ref q1, .ref q34, .int 0, .ref q35, .ref q36, .ref q37, .ref q38, .int 0, .int 0, .ref q39, .ref q40, .ref q41, .ref q42])), (q1, .inl (G.2.1, 1001, .inl (fun _ => 0))), (q2, .inl (G.2.1, 57, .inl (fun _ => 0))), (q3, .inl (G.2.1, 8008, .inl (fun _ => 0))), (q4, .inl (G.2.1, 242, .inl (fun _ => 0)))] sz 1 (fun u => [(q0, .inr (12, [.int 0, .int 0, .int 0, .int 0, .int 0, .int 0, .int 0, .int (-1), .ref q5, .ref q4, .ref q6, .int 0, .ref q7, .ref q8, .ref q9, .ref q10, .ref q11, .ref q2, .ref q12, .int 0, .ref q13, .ref q14, .ref q15, .ref q16, .ref q17, .ref q18, .ref q19, .int 0, .int (-1), .int 0, .ref q20, .ref q21, .ref q22, .ref q23, .ref q24, .ref q25, .ref q26, .ref q27, .int 0, .ref q28, .ref q29, .ref q30, .ref q31, .ref q32, .int 0, .ref q33, .ref q3, .ref q1, .ref q34, .int 1, .ref q35, .ref q36, .ref q37, .ref q38, .int 0, .int 0, .ref q39, .ref q40, .ref q41, .ref q42])), (q1, .inl (G.2.1, 1001, .inl (upd (fun _ => 0) 0 (-1)))), (q2, .inl (G.2.1, 57, .inl (fun _ => 0))), (q3, .inl (G.2.1, 8008, .inl (fun _ => 0))), (q4, .inl (G.2.1, 242, .inl (fun _ => 0)))]) := by
  refine Ki.of b0 (own := RX12) (nm := "growth") [(0, .ref q0)] rfl rfl (by decide +kernel) (Nat.le_of_ble_eq_true rfl) rfl ?_
  intro p e s m below meth c A C hr H locs w ls hl
  have hx := C.hx
  have hb := C.hb
  refine lv_aload_n hx hb dX12_growth_0 rfl (lv_at hl 0 rfl) ?_
  refine lv_iconst (v := 0) hx hb dX12_growth_1 (by decide) ?_
  refine r_put C w 0 rfl fl_X12_1 (Nat.le_of_ble_eq_true rfl) rfl rfl dX12_growth_2 (ws2 := [(q0, .inr (12, [.int 0, .int 0, .int 0, .int 0, .int 0, .int 0, .int 0, .int (-1), .ref q5, .ref q4, .ref q6, .int 0, .ref q7, .ref q8, .ref q9, .ref q10, .ref q11, .ref q2, .ref q12, .int 0, .ref q13, .ref q14, .ref q15, .ref q16, .ref q17, .ref q18, .ref q19, .int 0, .int (-1), .int 0, .ref q20, .ref q21, .ref q22, .ref q23, .ref q24, .ref q25, .ref q26, .ref q27, .int 0, .ref q28, .ref q29, .ref q30, .ref q31, .ref q32, .int 0, .ref q33, .ref q3, .ref q1, .ref q34, .int 0, .ref q35, .ref q36, .ref q37, .ref q38, .int 0, .int 0, .ref q39, .ref q40, .ref q41, .ref q42])), (q1, .inl (G.2.1, 1001, .inl (fun _ => 0))), (q2, .inl (G.2.1, 57, .inl (fun _ => 0))), (q3, .inl (G.2.1, 8008, .inl (fun _ => 0))), (q4, .inl (G.2.1, 242, .inl (fun _ => 0)))]) rfl (fun H locs w => ?_)
  refine lv_aload_n hx hb dX12_growth_5 rfl (lv_at hl 0 rfl) ?_
  refine fin_i C w (run_V C w mv_X12_405 (k416_grows C.b0 q0 q1 q2 q3 q4 q5 q6 q7 q8 q9 q10 q11 q12 q13 q14 q15 q16 q17 q18 q19 q20 q21 q22 q23 q24 q25 q26 q27 q28 q29 q30 q31 q32 q33 q34 q35 q36 q37 q38 q39 q40 q41 q42 H.size) [0, 1, 2, 3, 4] rfl rfl 0 rfl rfl (by decide) rfl hl.1 rfl (Nat.le_of_ble_eq_true rfl) dX12_growth_6 (cells2 := 0) (slots2 := 0) (by decide)) [0, 1, 2, 3, 4] [] rfl rfl (by decide) (cells2 := 0) (slots2 := 0) (by decide) (fun u1 H locs w => ?_)
  have w : Wd s G A [(q0, .inr (12, [.int 0, .int 0, .int 0, .int 0, .int 0, .int 0, .int 0, .int (-1), .ref q5, .ref q4, .ref q6, .int 0, .ref q7, .ref q8, .ref q9, .ref q10, .ref q11, .ref q2, .ref q12, .int 0, .ref q13, .ref q14, .ref q15, .ref q16, .ref q17, .ref q18, .ref q19, .int 0, .int (-1), .int 0, .ref q20, .ref q21, .ref q22, .ref q23, .ref q24, .ref q25, .ref q26, .ref q27, .int 0, .ref q28, .ref q29, .ref q30, .ref q31, .ref q32, .int 0, .ref q33, .ref q3, .ref q1, .ref q34, .int 1, .ref q35, .ref q36, .ref q37, .ref q38, .int 0, .int 0, .ref q39, .ref q40, .ref q41, .ref q42])), (q1, .inl (G.2.1, 1001, .inl (upd (fun _ => 0) 0 (-1)))), (q2, .inl (G.2.1, 57, .inl (fun _ => 0))), (q3, .inl (G.2.1, 8008, .inl (fun _ => 0))), (q4, .inl (G.2.1, 242, .inl (fun _ => 0)))] H locs := w
  refine lv_if_eq (tgt := 17) hx hb dX12_growth_9 (by decide) (fun _ => ?_) (fun h => absurd (by decide) h)
  refine lv_aload_n hx hb dX12_growth_17 rfl (lv_at hl 0 rfl) ?_
  refine r_get C w 0 rfl fr_X12_392 rfl dX12_growth_18 ?_
  exact e_i C hr w (fun _ => 0) [0, 1, 2, 3, 4] rfl rfl rfl dX12_growth_21 (by decide) (by decide)
set_option maxRecDepth 100000 in
set_option maxHeartbeats 4000000 in
theorem k418_leastSet {l : Launch} {s0 : State} {a0 : Array Value} {G : GT} (b0 : B0 l s0 a0 G) (q0 q1 q2 q3 q4 q5 q6 q7 q8 q9 q10 q11 q12 q13 q14 q15 : Nat) (x0 : Int32) (sz : Nat) : Ki l s0 G yX4_leastSet cX4_leastSet 6 (some .int) { frames := 0, cells := 0, slots := 0, locals := 0 } [.ref q1, .ref q0, .int 0, .int x0] [(q0, .inr (2, [.int 0, .int 0, .ref q2, .ref q3, .ref q4, .ref q5, .ref q6, .ref q7, .ref q8, .ref q9, .ref q10, .ref q11, .ref q12, .ref q13, .ref q14, .ref q15, .int 0]))] sz 0 (fun u => [(q0, .inr (2, [.int 0, .int 0, .ref q2, .ref q3, .ref q4, .ref q5, .ref q6, .ref q7, .ref q8, .ref q9, .ref q10, .ref q11, .ref q12, .ref q13, .ref q14, .ref q15, .int 0]))]) := by
  refine Ki.of b0 (own := RX4) (nm := "leastSet") [(0, .ref q1), (1, .ref q0), (2, .int 0), (3, .int x0)] rfl rfl (by decide +kernel) (Nat.le_of_ble_eq_true rfl) rfl ?_
  intro p e s m below meth c A C hr H locs w ls hl
  have hx := C.hx
  have hb := C.hb
  refine lv_iconst (v := 0) hx hb dX4_leastSet_0 (by decide) ?_
  refine lv_istore (lv' := [(4, .int 0), (0, .ref q1), (1, .ref q0), (2, .int 0), (3, .int x0)]) hx hb dX4_leastSet_1 hl (by decide) rfl (fun ls hl => ?_)
  refine lv_iconst (v := 1) hx hb dX4_leastSet_3 (by decide) ?_
  refine lv_istore (lv' := [(5, .int 1), (4, .int 0), (0, .ref q1), (1, .ref q0), (2, .int 0), (3, .int x0)]) hx hb dX4_leastSet_4 hl (by decide) rfl (fun ls hl => ?_)
  refine lv_iload hx hb dX4_leastSet_6 (lv_at hl 0 rfl) ?_
  refine lv_iconst (v := 1) hx hb dX4_leastSet_8 (by decide) ?_
  refine lv_aload_n hx hb dX4_leastSet_9 rfl (lv_at hl 3 rfl) ?_
  refine r_get C w 0 rfl fr_X4_24 rfl dX4_leastSet_10 ?_
  refine lv_ishl hx hb dX4_leastSet_13 ?_
  refine z_i (v := 1) (by decide +kernel) ?_
  refine lv_icmp_ge (tgt := 72) hx hb dX4_leastSet_14 (by decide) (fun _ => ?_) (fun h => absurd (by decide) h)
  refine lv_iconst (v := 0) hx hb dX4_leastSet_72 (by decide) ?_
  exact e_i C hr w (fun _ => 0) [0] rfl rfl rfl dX4_leastSet_73 (by decide) (by decide)
set_option maxRecDepth 100000 in
set_option maxHeartbeats 4000000 in
theorem k419_siphon {l : Launch} {s0 : State} {a0 : Array Value} {G : GT} (b0 : B0 l s0 a0 G) (q0 : Nat) (x0 : Int32) (h0 : x0 < 0) (sz : Nat) : Kx l s0 G yX11_siphon cX11_siphon 3 (some .int) { frames := 6, cells := 1, slots := 6, locals := 90 } [.ref q0, .int 0, .int x0] [] sz "java/lang/IllegalArgumentException" := by
  refine Kx.of b0 (own := RX11) (nm := "siphon") [(0, .ref q0), (1, .int 0), (2, .int x0)] rfl rfl (by decide +kernel) (Nat.le_of_ble_eq_true rfl) rfl ?_
  intro p e s m below meth c A C ht H locs w ls hl
  have hx := C.hx
  have hb := C.hb
  refine lv_iload_n hx hb dX11_siphon_0 rfl (lv_at hl 2 rfl) ?_
  refine lv_if_ge (tgt := 14) hx hb dX11_siphon_1 (by decide) (fun h => absurd h (Int32.not_le.mpr h0)) (fun _ => ?_)
  exact r_throwS C ht w hl.1 th_X11_247 C.b0.2.2.2.2.2.1 dX11_siphon_4 dX11_siphon_7 dX11_siphon_8 dX11_siphon_10 dX11_siphon_13 (by decide) (Nat.le_of_ble_eq_true rfl) (by decide) (by decide) (by decide) (by decide) [] rfl rfl
set_option maxRecDepth 100000 in
set_option maxHeartbeats 4000000 in
theorem k420_siphon {l : Launch} {s0 : State} {a0 : Array Value} {G : GT} (b0 : B0 l s0 a0 G) (q0 q1 q2 q3 q4 q5 q6 q7 q8 q9 q10 q11 : Nat) (x0 : Int32) (h0 : x0 < 0) (sz : Nat) : Kh l s0 G yL_siphon cL_siphon 5 (some .int) [(0, 10, 13, 13)] { frames := 7, cells := 1, slots := 6, locals := 112 } [.ref q0, .int 0, .int x0, .ref q1] [(q0, .inr (11, [.ref q2, .ref q3, .ref q4, .ref q5, .ref q6, .ref q7, .ref q8, .ref q9, .ref q10, .ref q11, .int 0, .int (-1), .int 0, .int 0, .null, .null, .null, .null, .null]))] sz 1 (fun u => [(q0, .inr (11, [.ref q2, .ref q3, .ref q4, .ref q5, .ref q6, .ref q7, .ref q8, .ref q9, .ref q10, .ref q11, .int 0, .int (-1), .int 0, .int 0, .null, .null, .null, .null, .null]))]) := by
  refine Kh.of b0 (own := RL) (nm := "siphon") [(0, .ref q0), (1, .int 0), (2, .int x0), (3, .ref q1)] rfl rfl (by decide +kernel) (Nat.le_of_ble_eq_true rfl) rfl ?_
  intro p e s m below meth c A C hr ht H locs w ls hl
  have hx := C.hx
  have hb := C.hb
  refine lv_aload_n hx hb dL_siphon_0 rfl (lv_at hl 3 rfl) ?_
  refine lv_iconst (v := 0) hx hb dL_siphon_1 (by decide) ?_
  refine lv_aload_n hx hb dL_siphon_2 rfl (lv_at hl 0 rfl) ?_
  refine lv_iload_n hx hb dL_siphon_3 rfl (lv_at hl 1 rfl) ?_
  refine lv_iload_n hx hb dL_siphon_4 rfl (lv_at hl 2 rfl) ?_
  refine fin_x C w (run_Vx C w mv_L_93 (k419_siphon C.b0 q0 x0 h0 H.size) [] rfl rfl 0 rfl rfl (by decide) rfl hl.1 rfl (Nat.le_of_ble_eq_true rfl) dL_siphon_5 (cells2 := 1) (slots2 := 6) (by decide)) [] [0] rfl rfl (by decide) (cells2 := 1) (slots2 := 6) (by decide) (fun qx2 ce H locs w hce hcv hcl => ?_)
  have w : Wd s G A [(q0, .inr (11, [.ref q2, .ref q3, .ref q4, .ref q5, .ref q6, .ref q7, .ref q8, .ref q9, .ref q10, .ref q11, .int 0, .int (-1), .int 0, .int 0, .null, .null, .null, .null, .null]))] H locs := w
  refine r_catch C ht (by decide) (by decide) tl_L_13 tk_java_lang_IllegalArgumentException hce hcv hcl ?_
  refine lv_astore (lv' := [(4, .ref qx2), (0, .ref q0), (1, .int 0), (2, .int x0), (3, .ref q1)]) hx hb dL_siphon_13 hl (by decide) rfl (fun ls hl => ?_)
  refine lv_iconst (v := 1) hx hb dL_siphon_15 (by decide) ?_
  exact e_i C hr w (fun _ => 0) [0] rfl rfl rfl dL_siphon_16 (by decide) (by decide)
set_option maxRecDepth 100000 in
set_option maxHeartbeats 4000000 in
theorem k421_siphon {l : Launch} {s0 : State} {a0 : Array Value} {G : GT} (b0 : B0 l s0 a0 G) (q0 q1 q2 q3 q4 q5 q6 q7 q8 q9 q10 q11 q12 q13 q14 q15 q16 q17 q18 q19 q20 q21 q22 q23 q24 q25 q26 q27 q28 q29 q30 q31 q32 q33 q34 q35 q36 q37 q38 q39 q40 q41 q42 : Nat) (x0 : Int32) (h0 : x0 < 0) (sz : Nat) : Ki l s0 G yX12_siphon cX12_siphon 5 (some .int) { frames := 1, cells := 0, slots := 0, locals := 22 } [.ref q0, .int 0, .int x0] [(q0, .inr (12, [.int 0, .int 0, .int 0, .int 0, .int 0, .int 0, .int 0, .int (-1), .ref q1, .ref q2, .ref q3, .int 0, .ref q4, .ref q5, .ref q6, .ref q7, .ref q8, .ref q9, .ref q10, .int 0, .ref q11, .ref q12, .ref q13, .ref q14, .ref q15, .ref q16, .ref q17, .int 0, .int (-1), .int 0, .ref q18, .ref q19, .ref q20, .ref q21, .ref q22, .ref q23, .ref q24, .ref q25, .int 0, .ref q26, .ref q27, .ref q28, .ref q29, .ref q30, .int 0, .ref q31, .ref q32, .ref q33, .ref q34, .int 0, .ref q35, .ref q36, .ref q37, .ref q38, .int 0, .int 0, .ref q39, .ref q40, .ref q41, .ref q42]))] sz 0 (fun u => [(q0, .inr (12, [.int 1, .int 0, .int 0, .int 0, .int 0, .int 0, .int 0, .int (-1), .ref q1, .ref q2, .ref q3, .int 0, .ref q4, .ref q5, .ref q6, .ref q7, .ref q8, .ref q9, .ref q10, .int 0, .ref q11, .ref q12, .ref q13, .ref q14, .ref q15, .ref q16, .ref q17, .int 0, .int (-1), .int 0, .ref q18, .ref q19, .ref q20, .ref q21, .ref q22, .ref q23, .ref q24, .ref q25, .int 0, .ref q26, .ref q27, .ref q28, .ref q29, .ref q30, .int 0, .ref q31, .ref q32, .ref q33, .ref q34, .int 0, .ref q35, .ref q36, .ref q37, .ref q38, .int 0, .int 0, .ref q39, .ref q40, .ref q41, .ref q42]))]) := by
  refine Ki.of b0 (own := RX12) (nm := "siphon") [(0, .ref q0), (1, .int 0), (2, .int x0)] rfl rfl (by decide +kernel) (Nat.le_of_ble_eq_true rfl) rfl ?_
  intro p e s m below meth c A C hr H locs w ls hl
  have hx := C.hx
  have hb := C.hb
  refine lv_aload_n hx hb dX12_siphon_0 rfl (lv_at hl 0 rfl) ?_
  refine lv_iconst (v := 0) hx hb dX12_siphon_1 (by decide) ?_
  refine r_put C w 0 rfl fl_X12_1 (Nat.le_of_ble_eq_true rfl) rfl rfl dX12_siphon_2 (ws2 := [(q0, .inr (12, [.int 0, .int 0, .int 0, .int 0, .int 0, .int 0, .int 0, .int (-1), .ref q1, .ref q2, .ref q3, .int 0, .ref q4, .ref q5, .ref q6, .ref q7, .ref q8, .ref q9, .ref q10, .int 0, .ref q11, .ref q12, .ref q13, .ref q14, .ref q15, .ref q16, .ref q17, .int 0, .int (-1), .int 0, .ref q18, .ref q19, .ref q20, .ref q21, .ref q22, .ref q23, .ref q24, .ref q25, .int 0, .ref q26, .ref q27, .ref q28, .ref q29, .ref q30, .int 0, .ref q31, .ref q32, .ref q33, .ref q34, .int 0, .ref q35, .ref q36, .ref q37, .ref q38, .int 0, .int 0, .ref q39, .ref q40, .ref q41, .ref q42]))]) rfl (fun H locs w => ?_)
  refine lv_aload_n hx hb dX12_siphon_5 rfl (lv_at hl 0 rfl) ?_
  refine lv_iload_n hx hb dX12_siphon_6 rfl (lv_at hl 2 rfl) ?_
  refine lv_if_lt (tgt := 14) hx hb dX12_siphon_7 (by decide) (fun _ => ?_) (fun h => absurd h0 h)
  refine lv_iconst (v := 0) hx hb dX12_siphon_14 (by decide) ?_
  refine lv_iconst (v := 1) hx hb dX12_siphon_15 (by decide) ?_
  refine fin_i C w (run_V C w mv_X12_267 (k18_may C.b0 q0 q1 q2 q3 q4 q5 q6 q7 q8 q9 q10 q11 q12 q13 q14 q15 q16 q17 q18 q19 q20 q21 q22 q23 q24 q25 q26 q27 q28 q29 q30 q31 q32 q33 q34 q35 q36 q37 q38 q39 q40 q41 q42 H.size) [0] rfl rfl 0 rfl rfl (by decide) rfl hl.1 rfl (Nat.le_of_ble_eq_true rfl) dX12_siphon_16 (cells2 := 0) (slots2 := 0) (by decide)) [0] [] rfl rfl (by decide) (cells2 := 0) (slots2 := 0) (by decide) (fun u1 H locs w => ?_)
  have w : Wd s G A [(q0, .inr (12, [.int 1, .int 0, .int 0, .int 0, .int 0, .int 0, .int 0, .int (-1), .ref q1, .ref q2, .ref q3, .int 0, .ref q4, .ref q5, .ref q6, .ref q7, .ref q8, .ref q9, .ref q10, .int 0, .ref q11, .ref q12, .ref q13, .ref q14, .ref q15, .ref q16, .ref q17, .int 0, .int (-1), .int 0, .ref q18, .ref q19, .ref q20, .ref q21, .ref q22, .ref q23, .ref q24, .ref q25, .int 0, .ref q26, .ref q27, .ref q28, .ref q29, .ref q30, .int 0, .ref q31, .ref q32, .ref q33, .ref q34, .int 0, .ref q35, .ref q36, .ref q37, .ref q38, .int 0, .int 0, .ref q39, .ref q40, .ref q41, .ref q42]))] H locs := w
  refine lv_if_ne (tgt := 24) hx hb dX12_siphon_19 (by decide) (fun h => absurd (by decide) h) (fun _ => ?_)
  refine lv_iconst (v := 0) hx hb dX12_siphon_22 (by decide) ?_
  exact e_i C hr w (fun _ => 0) [0] rfl rfl rfl dX12_siphon_23 (by decide) (by decide)
set_option maxRecDepth 100000 in
set_option maxHeartbeats 4000000 in
theorem k422_siphon {l : Launch} {s0 : State} {a0 : Array Value} {G : GT} (b0 : B0 l s0 a0 G) (q0 : Nat) (x0 : Int32) (h0 : x0 < 0) (sz : Nat) : Kx l s0 G yX11_siphon cX11_siphon 3 (some .int) { frames := 6, cells := 1, slots := 6, locals := 90 } [.ref q0, .int 1, .int x0] [] sz "java/lang/IllegalArgumentException" := by
  refine Kx.of b0 (own := RX11) (nm := "siphon") [(0, .ref q0), (1, .int 1), (2, .int x0)] rfl rfl (by decide +kernel) (Nat.le_of_ble_eq_true rfl) rfl ?_
  intro p e s m below meth c A C ht H locs w ls hl
  have hx := C.hx
  have hb := C.hb
  refine lv_iload_n hx hb dX11_siphon_0 rfl (lv_at hl 2 rfl) ?_
  refine lv_if_ge (tgt := 14) hx hb dX11_siphon_1 (by decide) (fun h => absurd h (Int32.not_le.mpr h0)) (fun _ => ?_)
  exact r_throwS C ht w hl.1 th_X11_247 C.b0.2.2.2.2.2.1 dX11_siphon_4 dX11_siphon_7 dX11_siphon_8 dX11_siphon_10 dX11_siphon_13 (by decide) (Nat.le_of_ble_eq_true rfl) (by decide) (by decide) (by decide) (by decide) [] rfl rfl
set_option maxRecDepth 100000 in
set_option maxHeartbeats 4000000 in
theorem k423_siphon {l : Launch} {s0 : State} {a0 : Array Value} {G : GT} (b0 : B0 l s0 a0 G) (q0 q1 q2 q3 q4 q5 q6 q7 q8 q9 q10 q11 : Nat) (x0 : Int32) (h0 : x0 < 0) (sz : Nat) : Kh l s0 G yL_siphon cL_siphon 5 (some .int) [(0, 10, 13, 13)] { frames := 7, cells := 1, slots := 6, locals := 112 } [.ref q0, .int 1, .int x0, .ref q1] [(q0, .inr (11, [.ref q2, .ref q3, .ref q4, .ref q5, .ref q6, .ref q7, .ref q8, .ref q9, .ref q10, .ref q11, .int 0, .int (-1), .int 0, .int 0, .null, .null, .null, .null, .null]))] sz 1 (fun u => [(q0, .inr (11, [.ref q2, .ref q3, .ref q4, .ref q5, .ref q6, .ref q7, .ref q8, .ref q9, .ref q10, .ref q11, .int 0, .int (-1), .int 0, .int 0, .null, .null, .null, .null, .null]))]) := by
  refine Kh.of b0 (own := RL) (nm := "siphon") [(0, .ref q0), (1, .int 1), (2, .int x0), (3, .ref q1)] rfl rfl (by decide +kernel) (Nat.le_of_ble_eq_true rfl) rfl ?_
  intro p e s m below meth c A C hr ht H locs w ls hl
  have hx := C.hx
  have hb := C.hb
  refine lv_aload_n hx hb dL_siphon_0 rfl (lv_at hl 3 rfl) ?_
  refine lv_iconst (v := 0) hx hb dL_siphon_1 (by decide) ?_
  refine lv_aload_n hx hb dL_siphon_2 rfl (lv_at hl 0 rfl) ?_
  refine lv_iload_n hx hb dL_siphon_3 rfl (lv_at hl 1 rfl) ?_
  refine lv_iload_n hx hb dL_siphon_4 rfl (lv_at hl 2 rfl) ?_
  refine fin_x C w (run_Vx C w mv_L_93 (k422_siphon C.b0 q0 x0 h0 H.size) [] rfl rfl 0 rfl rfl (by decide) rfl hl.1 rfl (Nat.le_of_ble_eq_true rfl) dL_siphon_5 (cells2 := 1) (slots2 := 6) (by decide)) [] [0] rfl rfl (by decide) (cells2 := 1) (slots2 := 6) (by decide) (fun qx2 ce H locs w hce hcv hcl => ?_)
  have w : Wd s G A [(q0, .inr (11, [.ref q2, .ref q3, .ref q4, .ref q5, .ref q6, .ref q7, .ref q8, .ref q9, .ref q10, .ref q11, .int 0, .int (-1), .int 0, .int 0, .null, .null, .null, .null, .null]))] H locs := w
  refine r_catch C ht (by decide) (by decide) tl_L_13 tk_java_lang_IllegalArgumentException hce hcv hcl ?_
  refine lv_astore (lv' := [(4, .ref qx2), (0, .ref q0), (1, .int 1), (2, .int x0), (3, .ref q1)]) hx hb dL_siphon_13 hl (by decide) rfl (fun ls hl => ?_)
  refine lv_iconst (v := 1) hx hb dL_siphon_15 (by decide) ?_
  exact e_i C hr w (fun _ => 0) [0] rfl rfl rfl dL_siphon_16 (by decide) (by decide)
set_option maxRecDepth 100000 in
set_option maxHeartbeats 4000000 in
theorem k424_siphon {l : Launch} {s0 : State} {a0 : Array Value} {G : GT} (b0 : B0 l s0 a0 G) (q0 q1 q2 q3 q4 q5 q6 q7 q8 q9 q10 q11 q12 q13 q14 q15 q16 q17 q18 q19 q20 q21 q22 q23 q24 q25 q26 q27 q28 q29 q30 q31 q32 q33 q34 q35 q36 q37 q38 q39 q40 q41 q42 : Nat) (x0 : Int32) (h0 : x0 < 0) (sz : Nat) : Ki l s0 G yX12_siphon cX12_siphon 5 (some .int) { frames := 1, cells := 0, slots := 0, locals := 22 } [.ref q0, .int 1, .int x0] [(q0, .inr (12, [.int 0, .int 0, .int 0, .int 0, .int 0, .int 0, .int 0, .int (-1), .ref q1, .ref q2, .ref q3, .int 0, .ref q4, .ref q5, .ref q6, .ref q7, .ref q8, .ref q9, .ref q10, .int 0, .ref q11, .ref q12, .ref q13, .ref q14, .ref q15, .ref q16, .ref q17, .int 0, .int (-1), .int 0, .ref q18, .ref q19, .ref q20, .ref q21, .ref q22, .ref q23, .ref q24, .ref q25, .int 0, .ref q26, .ref q27, .ref q28, .ref q29, .ref q30, .int 0, .ref q31, .ref q32, .ref q33, .ref q34, .int 0, .ref q35, .ref q36, .ref q37, .ref q38, .int 0, .int 0, .ref q39, .ref q40, .ref q41, .ref q42]))] sz 0 (fun u => [(q0, .inr (12, [.int 1, .int 0, .int 0, .int 0, .int 0, .int 0, .int 0, .int (-1), .ref q1, .ref q2, .ref q3, .int 0, .ref q4, .ref q5, .ref q6, .ref q7, .ref q8, .ref q9, .ref q10, .int 0, .ref q11, .ref q12, .ref q13, .ref q14, .ref q15, .ref q16, .ref q17, .int 0, .int (-1), .int 0, .ref q18, .ref q19, .ref q20, .ref q21, .ref q22, .ref q23, .ref q24, .ref q25, .int 0, .ref q26, .ref q27, .ref q28, .ref q29, .ref q30, .int 0, .ref q31, .ref q32, .ref q33, .ref q34, .int 0, .ref q35, .ref q36, .ref q37, .ref q38, .int 0, .int 0, .ref q39, .ref q40, .ref q41, .ref q42]))]) := by
  refine Ki.of b0 (own := RX12) (nm := "siphon") [(0, .ref q0), (1, .int 1), (2, .int x0)] rfl rfl (by decide +kernel) (Nat.le_of_ble_eq_true rfl) rfl ?_
  intro p e s m below meth c A C hr H locs w ls hl
  have hx := C.hx
  have hb := C.hb
  refine lv_aload_n hx hb dX12_siphon_0 rfl (lv_at hl 0 rfl) ?_
  refine lv_iconst (v := 0) hx hb dX12_siphon_1 (by decide) ?_
  refine r_put C w 0 rfl fl_X12_1 (Nat.le_of_ble_eq_true rfl) rfl rfl dX12_siphon_2 (ws2 := [(q0, .inr (12, [.int 0, .int 0, .int 0, .int 0, .int 0, .int 0, .int 0, .int (-1), .ref q1, .ref q2, .ref q3, .int 0, .ref q4, .ref q5, .ref q6, .ref q7, .ref q8, .ref q9, .ref q10, .int 0, .ref q11, .ref q12, .ref q13, .ref q14, .ref q15, .ref q16, .ref q17, .int 0, .int (-1), .int 0, .ref q18, .ref q19, .ref q20, .ref q21, .ref q22, .ref q23, .ref q24, .ref q25, .int 0, .ref q26, .ref q27, .ref q28, .ref q29, .ref q30, .int 0, .ref q31, .ref q32, .ref q33, .ref q34, .int 0, .ref q35, .ref q36, .ref q37, .ref q38, .int 0, .int 0, .ref q39, .ref q40, .ref q41, .ref q42]))]) rfl (fun H locs w => ?_)
  refine lv_aload_n hx hb dX12_siphon_5 rfl (lv_at hl 0 rfl) ?_
  refine lv_iload_n hx hb dX12_siphon_6 rfl (lv_at hl 2 rfl) ?_
  refine lv_if_lt (tgt := 14) hx hb dX12_siphon_7 (by decide) (fun _ => ?_) (fun h => absurd h0 h)
  refine lv_iconst (v := 0) hx hb dX12_siphon_14 (by decide) ?_
  refine lv_iconst (v := 1) hx hb dX12_siphon_15 (by decide) ?_
  refine fin_i C w (run_V C w mv_X12_267 (k18_may C.b0 q0 q1 q2 q3 q4 q5 q6 q7 q8 q9 q10 q11 q12 q13 q14 q15 q16 q17 q18 q19 q20 q21 q22 q23 q24 q25 q26 q27 q28 q29 q30 q31 q32 q33 q34 q35 q36 q37 q38 q39 q40 q41 q42 H.size) [0] rfl rfl 0 rfl rfl (by decide) rfl hl.1 rfl (Nat.le_of_ble_eq_true rfl) dX12_siphon_16 (cells2 := 0) (slots2 := 0) (by decide)) [0] [] rfl rfl (by decide) (cells2 := 0) (slots2 := 0) (by decide) (fun u1 H locs w => ?_)
  have w : Wd s G A [(q0, .inr (12, [.int 1, .int 0, .int 0, .int 0, .int 0, .int 0, .int 0, .int (-1), .ref q1, .ref q2, .ref q3, .int 0, .ref q4, .ref q5, .ref q6, .ref q7, .ref q8, .ref q9, .ref q10, .int 0, .ref q11, .ref q12, .ref q13, .ref q14, .ref q15, .ref q16, .ref q17, .int 0, .int (-1), .int 0, .ref q18, .ref q19, .ref q20, .ref q21, .ref q22, .ref q23, .ref q24, .ref q25, .int 0, .ref q26, .ref q27, .ref q28, .ref q29, .ref q30, .int 0, .ref q31, .ref q32, .ref q33, .ref q34, .int 0, .ref q35, .ref q36, .ref q37, .ref q38, .int 0, .int 0, .ref q39, .ref q40, .ref q41, .ref q42]))] H locs := w
  refine lv_if_ne (tgt := 24) hx hb dX12_siphon_19 (by decide) (fun h => absurd (by decide) h) (fun _ => ?_)
  refine lv_iconst (v := 0) hx hb dX12_siphon_22 (by decide) ?_
  exact e_i C hr w (fun _ => 0) [0] rfl rfl rfl dX12_siphon_23 (by decide) (by decide)
set_option maxRecDepth 100000 in
set_option maxHeartbeats 4000000 in
theorem k425_siphon {l : Launch} {s0 : State} {a0 : Array Value} {G : GT} (b0 : B0 l s0 a0 G) (q0 q1 q2 q3 q4 q5 q6 q7 q8 q9 q10 q11 q12 q13 q14 q15 q16 q17 q18 q19 q20 q21 q22 q23 q24 q25 q26 q27 q28 : Nat) (x0 : Int32) (h0 : ¬ x0 < 0) (sz : Nat) : Ki l s0 G yX11_siphon cX11_siphon 3 (some .int) { frames := 1, cells := 0, slots := 0, locals := 25 } [.ref q0, .int 0, .int x0] [(q0, .inr (11, [.ref q3, .ref q4, .ref q5, .ref q6, .ref q7, .ref q8, .ref q1, .ref q9, .ref q2, .ref q10, .int 0, .int (-1), .int 0, .int 0, .null, .null, .null, .null, .null])), (q1, .inr (4, [.ref q11, .ref q12, .ref q13, .ref q14, .null])), (q2, .inr (2, [.int 0, .int 0, .ref q15, .ref q16, .ref q17, .ref q18, .ref q19, .ref q20, .ref q21, .ref q22, .ref q23, .ref q24, .ref q25, .ref q26, .ref q27, .ref q28, .int 0]))] sz 0 (fun u => [(q0, .inr (11, [.ref q3, .ref q4, .ref q5, .ref q6, .ref q7, .ref q8, .ref q1, .ref q9, .ref q2, .ref q10, .int 0, .int (-1), .int 0, .int 0, .null, .null, .null, .null, .null])), (q1, .inr (4, [.ref q11, .ref q12, .ref q13, .ref q14, .null])), (q2, .inr (2, [.int 0, .int 0, .ref q15, .ref q16, .ref q17, .ref q18, .ref q19, .ref q20, .ref q21, .ref q22, .ref q23, .ref q24, .ref q25, .ref q26, .ref q27, .ref q28, .int 0]))]) := by
  refine Ki.of b0 (own := RX11) (nm := "siphon") [(0, .ref q0), (1, .int 0), (2, .int x0)] rfl rfl (by decide +kernel) (Nat.le_of_ble_eq_true rfl) rfl ?_
  intro p e s m below meth c A C hr H locs w ls hl
  have hx := C.hx
  have hb := C.hb
  refine lv_iload_n hx hb dX11_siphon_0 rfl (lv_at hl 2 rfl) ?_
  refine lv_if_ge (tgt := 14) hx hb dX11_siphon_1 (by decide) (fun _ => ?_) (fun h => absurd (Int32.not_lt.mp h0) h)
  refine lv_aload_n hx hb dX11_siphon_14 rfl (lv_at hl 0 rfl) ?_
  refine r_get C w 0 rfl fr_X11_44 rfl dX11_siphon_15 ?_
  refine lv_aload_n hx hb dX11_siphon_18 rfl (lv_at hl 0 rfl) ?_
  refine r_get C w 0 rfl fr_X11_54 rfl dX11_siphon_19 ?_
  refine lv_iload_n hx hb dX11_siphon_22 rfl (lv_at hl 1 rfl) ?_
  refine lv_iload_n hx hb dX11_siphon_23 rfl (lv_at hl 2 rfl) ?_
  refine fin_i C w (run_V C w mv_X11_254 (k418_leastSet C.b0 q2 q1 q15 q16 q17 q18 q19 q20 q21 q22 q23 q24 q25 q26 q27 q28 x0 H.size) [2] rfl rfl 1 rfl rfl (by decide) rfl hl.1 rfl (Nat.le_of_ble_eq_true rfl) dX11_siphon_24 (cells2 := 0) (slots2 := 0) (by decide)) [2] [0, 1] rfl rfl (by decide) (cells2 := 0) (slots2 := 0) (by decide) (fun u1 H locs w => ?_)
  have w : Wd s G A [(q0, .inr (11, [.ref q3, .ref q4, .ref q5, .ref q6, .ref q7, .ref q8, .ref q1, .ref q9, .ref q2, .ref q10, .int 0, .int (-1), .int 0, .int 0, .null, .null, .null, .null, .null])), (q1, .inr (4, [.ref q11, .ref q12, .ref q13, .ref q14, .null])), (q2, .inr (2, [.int 0, .int 0, .ref q15, .ref q16, .ref q17, .ref q18, .ref q19, .ref q20, .ref q21, .ref q22, .ref q23, .ref q24, .ref q25, .ref q26, .ref q27, .ref q28, .int 0]))] H locs := w
  exact e_i C hr w (fun _ => 0) [0, 1, 2] rfl rfl rfl dX11_siphon_27 (by decide) (by decide)
set_option maxRecDepth 100000 in
set_option maxHeartbeats 4000000 in
theorem k426_siphon {l : Launch} {s0 : State} {a0 : Array Value} {G : GT} (b0 : B0 l s0 a0 G) (q0 q1 q2 q3 q4 q5 q6 q7 q8 q9 q10 q11 q12 q13 q14 q15 q16 q17 q18 q19 q20 q21 q22 q23 q24 q25 q26 q27 q28 q29 : Nat) (x0 : Int32) (h0 : ¬ x0 < 0) (sz : Nat) : Kh l s0 G yL_siphon cL_siphon 5 (some .int) [(0, 10, 13, 13)] { frames := 2, cells := 0, slots := 0, locals := 47 } [.ref q0, .int 0, .int x0, .ref q3] [(q0, .inr (11, [.ref q4, .ref q5, .ref q6, .ref q7, .ref q8, .ref q9, .ref q1, .ref q10, .ref q2, .ref q11, .int 0, .int (-1), .int 0, .int 0, .null, .null, .null, .null, .null])), (q1, .inr (4, [.ref q12, .ref q13, .ref q14, .ref q15, .null])), (q2, .inr (2, [.int 0, .int 0, .ref q16, .ref q17, .ref q18, .ref q19, .ref q20, .ref q21, .ref q22, .ref q23, .ref q24, .ref q25, .ref q26, .ref q27, .ref q28, .ref q29, .int 0])), (q3, .inl (G.2.2.1, 1, .inr (.inl (fun _ => 0))))] sz 0 (fun u => [(q0, .inr (11, [.ref q4, .ref q5, .ref q6, .ref q7, .ref q8, .ref q9, .ref q1, .ref q10, .ref q2, .ref q11, .int 0, .int (-1), .int 0, .int 0, .null, .null, .null, .null, .null])), (q1, .inr (4, [.ref q12, .ref q13, .ref q14, .ref q15, .null])), (q2, .inr (2, [.int 0, .int 0, .ref q16, .ref q17, .ref q18, .ref q19, .ref q20, .ref q21, .ref q22, .ref q23, .ref q24, .ref q25, .ref q26, .ref q27, .ref q28, .ref q29, .int 0])), (q3, .inl (G.2.2.1, 1, .inr (.inl (fun _ => 0))))]) := by
  refine Kh.of b0 (own := RL) (nm := "siphon") [(0, .ref q0), (1, .int 0), (2, .int x0), (3, .ref q3)] rfl rfl (by decide +kernel) (Nat.le_of_ble_eq_true rfl) rfl ?_
  intro p e s m below meth c A C hr ht H locs w ls hl
  have hx := C.hx
  have hb := C.hb
  refine lv_aload_n hx hb dL_siphon_0 rfl (lv_at hl 3 rfl) ?_
  refine lv_iconst (v := 0) hx hb dL_siphon_1 (by decide) ?_
  refine lv_aload_n hx hb dL_siphon_2 rfl (lv_at hl 0 rfl) ?_
  refine lv_iload_n hx hb dL_siphon_3 rfl (lv_at hl 1 rfl) ?_
  refine lv_iload_n hx hb dL_siphon_4 rfl (lv_at hl 2 rfl) ?_
  refine fin_i C w (run_V C w mv_L_93 (k425_siphon C.b0 q0 q1 q2 q4 q5 q6 q7 q8 q9 q10 q11 q12 q13 q14 q15 q16 q17 q18 q19 q20 q21 q22 q23 q24 q25 q26 q27 q28 q29 x0 h0 H.size) [0, 1, 2] rfl rfl 0 rfl rfl (by decide) rfl hl.1 rfl (Nat.le_of_ble_eq_true rfl) dL_siphon_5 (cells2 := 0) (slots2 := 0) (by decide)) [0, 1, 2] [3] rfl rfl (by decide) (cells2 := 0) (slots2 := 0) (by decide) (fun u1 H locs w => ?_)
  have w : Wd s G A [(q3, .inl (G.2.2.1, 1, .inr (.inl (fun _ => 0)))), (q0, .inr (11, [.ref q4, .ref q5, .ref q6, .ref q7, .ref q8, .ref q9, .ref q1, .ref q10, .ref q2, .ref q11, .int 0, .int (-1), .int 0, .int 0, .null, .null, .null, .null, .null])), (q1, .inr (4, [.ref q12, .ref q13, .ref q14, .ref q15, .null])), (q2, .inr (2, [.int 0, .int 0, .ref q16, .ref q17, .ref q18, .ref q19, .ref q20, .ref q21, .ref q22, .ref q23, .ref q24, .ref q25, .ref q26, .ref q27, .ref q28, .ref q29, .int 0]))] H locs := w
  refine lv_i2l (v := 0) hx hb dL_siphon_8 (by decide +kernel) ?_
  refine r_last C w 0 rfl (IX.of (k := 0) (by decide +kernel)) (g := (fun _ => 0)) (updL_c _ _) dL_siphon_9 (ws2 := [(q3, .inl (G.2.2.1, 1, .inr (.inl (fun _ => 0)))), (q0, .inr (11, [.ref q4, .ref q5, .ref q6, .ref q7, .ref q8, .ref q9, .ref q1, .ref q10, .ref q2, .ref q11, .int 0, .int (-1), .int 0, .int 0, .null, .null, .null, .null, .null])), (q1, .inr (4, [.ref q12, .ref q13, .ref q14, .ref q15, .null])), (q2, .inr (2, [.int 0, .int 0, .ref q16, .ref q17, .ref q18, .ref q19, .ref q20, .ref q21, .ref q22, .ref q23, .ref q24, .ref q25, .ref q26, .ref q27, .ref q28, .ref q29, .int 0]))]) rfl (fun H locs w => ?_)
  refine lv_goto (tgt := 17) hx hb dL_siphon_10 (by decide) ?_
  refine lv_iconst (v := 0) hx hb dL_siphon_17 (by decide) ?_
  exact e_i C hr w (fun _ => 0) [1, 2, 3, 0] rfl rfl rfl dL_siphon_18 (by decide) (by decide)
set_option maxRecDepth 100000 in
set_option maxHeartbeats 4000000 in
theorem k427_siphon {l : Launch} {s0 : State} {a0 : Array Value} {G : GT} (b0 : B0 l s0 a0 G) (q0 q1 q2 q3 q4 q5 q6 q7 q8 q9 q10 q11 q12 q13 q14 q15 q16 q17 q18 q19 q20 q21 q22 q23 q24 q25 q26 q27 q28 q29 q30 q31 q32 q33 q34 q35 q36 q37 q38 q39 q40 q41 q42 : Nat) (x0 : Int32) (h0 : ¬ x0 < 0) (sz : Nat) : Ki l s0 G yX12_siphon cX12_siphon 5 (some .int) { frames := 1, cells := 0, slots := 0, locals := 22 } [.ref q0, .int 0, .int x0] [(q0, .inr (12, [.int 0, .int 0, .int 0, .int 0, .int 0, .int 0, .int 0, .int (-1), .ref q2, .ref q1, .ref q3, .int 0, .ref q4, .ref q5, .ref q6, .ref q7, .ref q8, .ref q9, .ref q10, .int 0, .ref q11, .ref q12, .ref q13, .ref q14, .ref q15, .ref q16, .ref q17, .int 0, .int (-1), .int 0, .ref q18, .ref q19, .ref q20, .ref q21, .ref q22, .ref q23, .ref q24, .ref q25, .int 0, .ref q26, .ref q27, .ref q28, .ref q29, .ref q30, .int 0, .ref q31, .ref q32, .ref q33, .ref q34, .int 0, .ref q35, .ref q36, .ref q37, .ref q38, .int 0, .int 0, .ref q39, .ref q40, .ref q41, .ref q42])), (q1, .inl (G.2.1, 242, .inl (fun _ => 0)))] sz 0 (fun u => [(q0, .inr (12, [.int 0, .int 0, .int 0, .int 0, .int 0, .int 0, .int 0, .int (-1), .ref q2, .ref q1, .ref q3, .int 0, .ref q4, .ref q5, .ref q6, .ref q7, .ref q8, .ref q9, .ref q10, .int 0, .ref q11, .ref q12, .ref q13, .ref q14, .ref q15, .ref q16, .ref q17, .int 0, .int (-1), .int 0, .ref q18, .ref q19, .ref q20, .ref q21, .ref q22, .ref q23, .ref q24, .ref q25, .int 0, .ref q26, .ref q27, .ref q28, .ref q29, .ref q30, .int 0, .ref q31, .ref q32, .ref q33, .ref q34, .int 0, .ref q35, .ref q36, .ref q37, .ref q38, .int 0, .int 0, .ref q39, .ref q40, .ref q41, .ref q42])), (q1, .inl (G.2.1, 242, .inl (fun _ => 0)))]) := by
  refine Ki.of b0 (own := RX12) (nm := "siphon") [(0, .ref q0), (1, .int 0), (2, .int x0)] rfl rfl (by decide +kernel) (Nat.le_of_ble_eq_true rfl) rfl ?_
  intro p e s m below meth c A C hr H locs w ls hl
  have hx := C.hx
  have hb := C.hb
  refine lv_aload_n hx hb dX12_siphon_0 rfl (lv_at hl 0 rfl) ?_
  refine lv_iconst (v := 0) hx hb dX12_siphon_1 (by decide) ?_
  refine r_put C w 0 rfl fl_X12_1 (Nat.le_of_ble_eq_true rfl) rfl rfl dX12_siphon_2 (ws2 := [(q0, .inr (12, [.int 0, .int 0, .int 0, .int 0, .int 0, .int 0, .int 0, .int (-1), .ref q2, .ref q1, .ref q3, .int 0, .ref q4, .ref q5, .ref q6, .ref q7, .ref q8, .ref q9, .ref q10, .int 0, .ref q11, .ref q12, .ref q13, .ref q14, .ref q15, .ref q16, .ref q17, .int 0, .int (-1), .int 0, .ref q18, .ref q19, .ref q20, .ref q21, .ref q22, .ref q23, .ref q24, .ref q25, .int 0, .ref q26, .ref q27, .ref q28, .ref q29, .ref q30, .int 0, .ref q31, .ref q32, .ref q33, .ref q34, .int 0, .ref q35, .ref q36, .ref q37, .ref q38, .int 0, .int 0, .ref q39, .ref q40, .ref q41, .ref q42])), (q1, .inl (G.2.1, 242, .inl (fun _ => 0)))]) rfl (fun H locs w => ?_)
  refine lv_aload_n hx hb dX12_siphon_5 rfl (lv_at hl 0 rfl) ?_
  refine lv_iload_n hx hb dX12_siphon_6 rfl (lv_at hl 2 rfl) ?_
  refine lv_if_lt (tgt := 14) hx hb dX12_siphon_7 (by decide) (fun h => absurd h h0) (fun _ => ?_)
  refine lv_iconst (v := 1) hx hb dX12_siphon_10 (by decide) ?_
  refine lv_goto (tgt := 15) hx hb dX12_siphon_11 (by decide) ?_
  refine lv_iconst (v := 1) hx hb dX12_siphon_15 (by decide) ?_
  refine fin_i C w (run_V C w mv_X12_267 (k32_may C.b0 q0 q2 q1 q3 q4 q5 q6 q7 q8 q9 q10 q11 q12 q13 q14 q15 q16 q17 q18 q19 q20 q21 q22 q23 q24 q25 q26 q27 q28 q29 q30 q31 q32 q33 q34 q35 q36 q37 q38 q39 q40 q41 q42 H.size) [0] rfl rfl 0 rfl rfl (by decide) rfl hl.1 rfl (Nat.le_of_ble_eq_true rfl) dX12_siphon_16 (cells2 := 0) (slots2 := 0) (by decide)) [0] [1] rfl rfl (by decide) (cells2 := 0) (slots2 := 0) (by decide) (fun u1 H locs w => ?_)
  have w : Wd s G A [(q1, .inl (G.2.1, 242, .inl (fun _ => 0))), (q0, .inr (12, [.int 0, .int 0, .int 0, .int 0, .int 0, .int 0, .int 0, .int (-1), .ref q2, .ref q1, .ref q3, .int 0, .ref q4, .ref q5, .ref q6, .ref q7, .ref q8, .ref q9, .ref q10, .int 0, .ref q11, .ref q12, .ref q13, .ref q14, .ref q15, .ref q16, .ref q17, .int 0, .int (-1), .int 0, .ref q18, .ref q19, .ref q20, .ref q21, .ref q22, .ref q23, .ref q24, .ref q25, .int 0, .ref q26, .ref q27, .ref q28, .ref q29, .ref q30, .int 0, .ref q31, .ref q32, .ref q33, .ref q34, .int 0, .ref q35, .ref q36, .ref q37, .ref q38, .int 0, .int 0, .ref q39, .ref q40, .ref q41, .ref q42]))] H locs := w
  refine lv_if_ne (tgt := 24) hx hb dX12_siphon_19 (by decide) (fun _ => ?_) (fun h => h.elim (by decide))
  refine lv_iconst (v := 0) hx hb dX12_siphon_24 (by decide) ?_
  refine lv_istore_n (lv' := [(3, .int 0), (0, .ref q0), (1, .int 0), (2, .int x0)]) hx hb dX12_siphon_25 rfl hl (by decide) rfl (fun ls hl => ?_)
  refine lv_iconst (v := 1) hx hb dX12_siphon_26 (by decide) ?_
  refine lv_istore (lv' := [(4, .int 1), (3, .int 0), (0, .ref q0), (1, .int 0), (2, .int x0)]) hx hb dX12_siphon_27 hl (by decide) rfl (fun ls hl => ?_)
  refine lv_iload hx hb dX12_siphon_29 (lv_at hl 0 rfl) ?_
  refine lv_iconst (v := 1) hx hb dX12_siphon_31 (by decide) ?_
  refine lv_aload_n hx hb dX12_siphon_32 rfl (lv_at hl 2 rfl) ?_
  refine fin_i C w (run_V C w mv_X12_280 (k57_places C.b0 q0 q1 q2 q3 q4 q5 q6 q7 q8 q9 q10 q11 q12 q13 q14 q15 q16 q17 q18 q19 q20 q21 q22 q23 q24 q25 q26 q27 q28 q29 q30 q31 q32 q33 q34 q35 q36 q37 q38 q39 q40 q41 q42 H.size) [1, 0] rfl rfl 1 rfl rfl (by decide) rfl hl.1 rfl (Nat.le_of_ble_eq_true rfl) dX12_siphon_33 (cells2 := 0) (slots2 := 0) (by decide)) [1, 0] [] rfl rfl (by decide) (cells2 := 0) (slots2 := 0) (by decide) (fun u2 H locs w => ?_)
  have w : Wd s G A [(q0, .inr (12, [.int 0, .int 0, .int 0, .int 0, .int 0, .int 0, .int 0, .int (-1), .ref q2, .ref q1, .ref q3, .int 0, .ref q4, .ref q5, .ref q6, .ref q7, .ref q8, .ref q9, .ref q10, .int 0, .ref q11, .ref q12, .ref q13, .ref q14, .ref q15, .ref q16, .ref q17, .int 0, .int (-1), .int 0, .ref q18, .ref q19, .ref q20, .ref q21, .ref q22, .ref q23, .ref q24, .ref q25, .int 0, .ref q26, .ref q27, .ref q28, .ref q29, .ref q30, .int 0, .ref q31, .ref q32, .ref q33, .ref q34, .int 0, .ref q35, .ref q36, .ref q37, .ref q38, .int 0, .int 0, .ref q39, .ref q40, .ref q41, .ref q42])), (q1, .inl (G.2.1, 242, .inl (fun _ => 0)))] H locs := w
  refine lv_ishl hx hb dX12_siphon_36 ?_
  refine z_i (v := 1) (by decide +kernel) ?_
  refine lv_icmp_ge (tgt := 70) hx hb dX12_siphon_37 (by decide) (fun _ => ?_) (fun h => absurd (by decide) h)
  refine lv_iconst (v := 0) hx hb dX12_siphon_70 (by decide) ?_
  exact e_i C hr w (fun _ => 0) [0, 1] rfl rfl rfl dX12_siphon_71 (by decide) (by decide)
set_option maxRecDepth 100000 in
set_option maxHeartbeats 4000000 in
theorem k428_leastSet {l : Launch} {s0 : State} {a0 : Array Value} {G : GT} (b0 : B0 l s0 a0 G) (q0 q1 q2 q3 q4 q5 q6 q7 q8 q9 q10 q11 q12 q13 q14 q15 : Nat) (x0 : Int32) (sz : Nat) : Ki l s0 G yX4_leastSet cX4_leastSet 6 (some .int) { frames := 0, cells := 0, slots := 0, locals := 0 } [.ref q1, .ref q0, .int 1, .int x0] [(q0, .inr (2, [.int 0, .int 0, .ref q2, .ref q3, .ref q4, .ref q5, .ref q6, .ref q7, .ref q8, .ref q9, .ref q10, .ref q11, .ref q12, .ref q13, .ref q14, .ref q15, .int 0]))] sz 0 (fun u => [(q0, .inr (2, [.int 0, .int 0, .ref q2, .ref q3, .ref q4, .ref q5, .ref q6, .ref q7, .ref q8, .ref q9, .ref q10, .ref q11, .ref q12, .ref q13, .ref q14, .ref q15, .int 0]))]) := by
  refine Ki.of b0 (own := RX4) (nm := "leastSet") [(0, .ref q1), (1, .ref q0), (2, .int 1), (3, .int x0)] rfl rfl (by decide +kernel) (Nat.le_of_ble_eq_true rfl) rfl ?_
  intro p e s m below meth c A C hr H locs w ls hl
  have hx := C.hx
  have hb := C.hb
  refine lv_iconst (v := 0) hx hb dX4_leastSet_0 (by decide) ?_
  refine lv_istore (lv' := [(4, .int 0), (0, .ref q1), (1, .ref q0), (2, .int 1), (3, .int x0)]) hx hb dX4_leastSet_1 hl (by decide) rfl (fun ls hl => ?_)
  refine lv_iconst (v := 1) hx hb dX4_leastSet_3 (by decide) ?_
  refine lv_istore (lv' := [(5, .int 1), (4, .int 0), (0, .ref q1), (1, .ref q0), (2, .int 1), (3, .int x0)]) hx hb dX4_leastSet_4 hl (by decide) rfl (fun ls hl => ?_)
  refine lv_iload hx hb dX4_leastSet_6 (lv_at hl 0 rfl) ?_
  refine lv_iconst (v := 1) hx hb dX4_leastSet_8 (by decide) ?_
  refine lv_aload_n hx hb dX4_leastSet_9 rfl (lv_at hl 3 rfl) ?_
  refine r_get C w 0 rfl fr_X4_24 rfl dX4_leastSet_10 ?_
  refine lv_ishl hx hb dX4_leastSet_13 ?_
  refine z_i (v := 1) (by decide +kernel) ?_
  refine lv_icmp_ge (tgt := 72) hx hb dX4_leastSet_14 (by decide) (fun _ => ?_) (fun h => absurd (by decide) h)
  refine lv_iconst (v := 0) hx hb dX4_leastSet_72 (by decide) ?_
  exact e_i C hr w (fun _ => 0) [0] rfl rfl rfl dX4_leastSet_73 (by decide) (by decide)
set_option maxRecDepth 100000 in
set_option maxHeartbeats 4000000 in
theorem k429_siphon {l : Launch} {s0 : State} {a0 : Array Value} {G : GT} (b0 : B0 l s0 a0 G) (q0 q1 q2 q3 q4 q5 q6 q7 q8 q9 q10 q11 q12 q13 q14 q15 q16 q17 q18 q19 q20 q21 q22 q23 q24 q25 q26 q27 q28 : Nat) (x0 : Int32) (h0 : ¬ x0 < 0) (sz : Nat) : Ki l s0 G yX11_siphon cX11_siphon 3 (some .int) { frames := 1, cells := 0, slots := 0, locals := 25 } [.ref q0, .int 1, .int x0] [(q0, .inr (11, [.ref q3, .ref q4, .ref q5, .ref q6, .ref q7, .ref q8, .ref q1, .ref q9, .ref q2, .ref q10, .int 0, .int (-1), .int 0, .int 0, .null, .null, .null, .null, .null])), (q1, .inr (4, [.ref q11, .ref q12, .ref q13, .ref q14, .null])), (q2, .inr (2, [.int 0, .int 0, .ref q15, .ref q16, .ref q17, .ref q18, .ref q19, .ref q20, .ref q21, .ref q22, .ref q23, .ref q24, .ref q25, .ref q26, .ref q27, .ref q28, .int 0]))] sz 0 (fun u => [(q0, .inr (11, [.ref q3, .ref q4, .ref q5, .ref q6, .ref q7, .ref q8, .ref q1, .ref q9, .ref q2, .ref q10, .int 0, .int (-1), .int 0, .int 0, .null, .null, .null, .null, .null])), (q1, .inr (4, [.ref q11, .ref q12, .ref q13, .ref q14, .null])), (q2, .inr (2, [.int 0, .int 0, .ref q15, .ref q16, .ref q17, .ref q18, .ref q19, .ref q20, .ref q21, .ref q22, .ref q23, .ref q24, .ref q25, .ref q26, .ref q27, .ref q28, .int 0]))]) := by
  refine Ki.of b0 (own := RX11) (nm := "siphon") [(0, .ref q0), (1, .int 1), (2, .int x0)] rfl rfl (by decide +kernel) (Nat.le_of_ble_eq_true rfl) rfl ?_
  intro p e s m below meth c A C hr H locs w ls hl
  have hx := C.hx
  have hb := C.hb
  refine lv_iload_n hx hb dX11_siphon_0 rfl (lv_at hl 2 rfl) ?_
  refine lv_if_ge (tgt := 14) hx hb dX11_siphon_1 (by decide) (fun _ => ?_) (fun h => absurd (Int32.not_lt.mp h0) h)
  refine lv_aload_n hx hb dX11_siphon_14 rfl (lv_at hl 0 rfl) ?_
  refine r_get C w 0 rfl fr_X11_44 rfl dX11_siphon_15 ?_
  refine lv_aload_n hx hb dX11_siphon_18 rfl (lv_at hl 0 rfl) ?_
  refine r_get C w 0 rfl fr_X11_54 rfl dX11_siphon_19 ?_
  refine lv_iload_n hx hb dX11_siphon_22 rfl (lv_at hl 1 rfl) ?_
  refine lv_iload_n hx hb dX11_siphon_23 rfl (lv_at hl 2 rfl) ?_
  refine fin_i C w (run_V C w mv_X11_254 (k428_leastSet C.b0 q2 q1 q15 q16 q17 q18 q19 q20 q21 q22 q23 q24 q25 q26 q27 q28 x0 H.size) [2] rfl rfl 1 rfl rfl (by decide) rfl hl.1 rfl (Nat.le_of_ble_eq_true rfl) dX11_siphon_24 (cells2 := 0) (slots2 := 0) (by decide)) [2] [0, 1] rfl rfl (by decide) (cells2 := 0) (slots2 := 0) (by decide) (fun u1 H locs w => ?_)
  have w : Wd s G A [(q0, .inr (11, [.ref q3, .ref q4, .ref q5, .ref q6, .ref q7, .ref q8, .ref q1, .ref q9, .ref q2, .ref q10, .int 0, .int (-1), .int 0, .int 0, .null, .null, .null, .null, .null])), (q1, .inr (4, [.ref q11, .ref q12, .ref q13, .ref q14, .null])), (q2, .inr (2, [.int 0, .int 0, .ref q15, .ref q16, .ref q17, .ref q18, .ref q19, .ref q20, .ref q21, .ref q22, .ref q23, .ref q24, .ref q25, .ref q26, .ref q27, .ref q28, .int 0]))] H locs := w
  exact e_i C hr w (fun _ => 0) [0, 1, 2] rfl rfl rfl dX11_siphon_27 (by decide) (by decide)
set_option maxRecDepth 100000 in
set_option maxHeartbeats 4000000 in
theorem k430_siphon {l : Launch} {s0 : State} {a0 : Array Value} {G : GT} (b0 : B0 l s0 a0 G) (q0 q1 q2 q3 q4 q5 q6 q7 q8 q9 q10 q11 q12 q13 q14 q15 q16 q17 q18 q19 q20 q21 q22 q23 q24 q25 q26 q27 q28 q29 : Nat) (x0 : Int32) (h0 : ¬ x0 < 0) (sz : Nat) : Kh l s0 G yL_siphon cL_siphon 5 (some .int) [(0, 10, 13, 13)] { frames := 2, cells := 0, slots := 0, locals := 47 } [.ref q0, .int 1, .int x0, .ref q3] [(q0, .inr (11, [.ref q4, .ref q5, .ref q6, .ref q7, .ref q8, .ref q9, .ref q1, .ref q10, .ref q2, .ref q11, .int 0, .int (-1), .int 0, .int 0, .null, .null, .null, .null, .null])), (q1, .inr (4, [.ref q12, .ref q13, .ref q14, .ref q15, .null])), (q2, .inr (2, [.int 0, .int 0, .ref q16, .ref q17, .ref q18, .ref q19, .ref q20, .ref q21, .ref q22, .ref q23, .ref q24, .ref q25, .ref q26, .ref q27, .ref q28, .ref q29, .int 0])), (q3, .inl (G.2.2.1, 1, .inr (.inl (fun _ => 0))))] sz 0 (fun u => [(q0, .inr (11, [.ref q4, .ref q5, .ref q6, .ref q7, .ref q8, .ref q9, .ref q1, .ref q10, .ref q2, .ref q11, .int 0, .int (-1), .int 0, .int 0, .null, .null, .null, .null, .null])), (q1, .inr (4, [.ref q12, .ref q13, .ref q14, .ref q15, .null])), (q2, .inr (2, [.int 0, .int 0, .ref q16, .ref q17, .ref q18, .ref q19, .ref q20, .ref q21, .ref q22, .ref q23, .ref q24, .ref q25, .ref q26, .ref q27, .ref q28, .ref q29, .int 0])), (q3, .inl (G.2.2.1, 1, .inr (.inl (fun _ => 0))))]) := by
  refine Kh.of b0 (own := RL) (nm := "siphon") [(0, .ref q0), (1, .int 1), (2, .int x0), (3, .ref q3)] rfl rfl (by decide +kernel) (Nat.le_of_ble_eq_true rfl) rfl ?_
  intro p e s m below meth c A C hr ht H locs w ls hl
  have hx := C.hx
  have hb := C.hb
  refine lv_aload_n hx hb dL_siphon_0 rfl (lv_at hl 3 rfl) ?_
  refine lv_iconst (v := 0) hx hb dL_siphon_1 (by decide) ?_
  refine lv_aload_n hx hb dL_siphon_2 rfl (lv_at hl 0 rfl) ?_
  refine lv_iload_n hx hb dL_siphon_3 rfl (lv_at hl 1 rfl) ?_
  refine lv_iload_n hx hb dL_siphon_4 rfl (lv_at hl 2 rfl) ?_
  refine fin_i C w (run_V C w mv_L_93 (k429_siphon C.b0 q0 q1 q2 q4 q5 q6 q7 q8 q9 q10 q11 q12 q13 q14 q15 q16 q17 q18 q19 q20 q21 q22 q23 q24 q25 q26 q27 q28 q29 x0 h0 H.size) [0, 1, 2] rfl rfl 0 rfl rfl (by decide) rfl hl.1 rfl (Nat.le_of_ble_eq_true rfl) dL_siphon_5 (cells2 := 0) (slots2 := 0) (by decide)) [0, 1, 2] [3] rfl rfl (by decide) (cells2 := 0) (slots2 := 0) (by decide) (fun u1 H locs w => ?_)
  have w : Wd s G A [(q3, .inl (G.2.2.1, 1, .inr (.inl (fun _ => 0)))), (q0, .inr (11, [.ref q4, .ref q5, .ref q6, .ref q7, .ref q8, .ref q9, .ref q1, .ref q10, .ref q2, .ref q11, .int 0, .int (-1), .int 0, .int 0, .null, .null, .null, .null, .null])), (q1, .inr (4, [.ref q12, .ref q13, .ref q14, .ref q15, .null])), (q2, .inr (2, [.int 0, .int 0, .ref q16, .ref q17, .ref q18, .ref q19, .ref q20, .ref q21, .ref q22, .ref q23, .ref q24, .ref q25, .ref q26, .ref q27, .ref q28, .ref q29, .int 0]))] H locs := w
  refine lv_i2l (v := 0) hx hb dL_siphon_8 (by decide +kernel) ?_
  refine r_last C w 0 rfl (IX.of (k := 0) (by decide +kernel)) (g := (fun _ => 0)) (updL_c _ _) dL_siphon_9 (ws2 := [(q3, .inl (G.2.2.1, 1, .inr (.inl (fun _ => 0)))), (q0, .inr (11, [.ref q4, .ref q5, .ref q6, .ref q7, .ref q8, .ref q9, .ref q1, .ref q10, .ref q2, .ref q11, .int 0, .int (-1), .int 0, .int 0, .null, .null, .null, .null, .null])), (q1, .inr (4, [.ref q12, .ref q13, .ref q14, .ref q15, .null])), (q2, .inr (2, [.int 0, .int 0, .ref q16, .ref q17, .ref q18, .ref q19, .ref q20, .ref q21, .ref q22, .ref q23, .ref q24, .ref q25, .ref q26, .ref q27, .ref q28, .ref q29, .int 0]))]) rfl (fun H locs w => ?_)
  refine lv_goto (tgt := 17) hx hb dL_siphon_10 (by decide) ?_
  refine lv_iconst (v := 0) hx hb dL_siphon_17 (by decide) ?_
  exact e_i C hr w (fun _ => 0) [1, 2, 3, 0] rfl rfl rfl dL_siphon_18 (by decide) (by decide)
set_option maxRecDepth 100000 in
set_option maxHeartbeats 4000000 in
theorem k431_siphon {l : Launch} {s0 : State} {a0 : Array Value} {G : GT} (b0 : B0 l s0 a0 G) (q0 q1 q2 q3 q4 q5 q6 q7 q8 q9 q10 q11 q12 q13 q14 q15 q16 q17 q18 q19 q20 q21 q22 q23 q24 q25 q26 q27 q28 q29 q30 q31 q32 q33 q34 q35 q36 q37 q38 q39 q40 q41 q42 : Nat) (x0 : Int32) (h0 : ¬ x0 < 0) (sz : Nat) : Ki l s0 G yX12_siphon cX12_siphon 5 (some .int) { frames := 1, cells := 0, slots := 0, locals := 22 } [.ref q0, .int 1, .int x0] [(q0, .inr (12, [.int 0, .int 0, .int 0, .int 0, .int 0, .int 0, .int 0, .int (-1), .ref q2, .ref q1, .ref q3, .int 0, .ref q4, .ref q5, .ref q6, .ref q7, .ref q8, .ref q9, .ref q10, .int 0, .ref q11, .ref q12, .ref q13, .ref q14, .ref q15, .ref q16, .ref q17, .int 0, .int (-1), .int 0, .ref q18, .ref q19, .ref q20, .ref q21, .ref q22, .ref q23, .ref q24, .ref q25, .int 0, .ref q26, .ref q27, .ref q28, .ref q29, .ref q30, .int 0, .ref q31, .ref q32, .ref q33, .ref q34, .int 0, .ref q35, .ref q36, .ref q37, .ref q38, .int 0, .int 0, .ref q39, .ref q40, .ref q41, .ref q42])), (q1, .inl (G.2.1, 242, .inl (fun _ => 0)))] sz 0 (fun u => [(q0, .inr (12, [.int 0, .int 0, .int 0, .int 0, .int 0, .int 0, .int 0, .int (-1), .ref q2, .ref q1, .ref q3, .int 0, .ref q4, .ref q5, .ref q6, .ref q7, .ref q8, .ref q9, .ref q10, .int 0, .ref q11, .ref q12, .ref q13, .ref q14, .ref q15, .ref q16, .ref q17, .int 0, .int (-1), .int 0, .ref q18, .ref q19, .ref q20, .ref q21, .ref q22, .ref q23, .ref q24, .ref q25, .int 0, .ref q26, .ref q27, .ref q28, .ref q29, .ref q30, .int 0, .ref q31, .ref q32, .ref q33, .ref q34, .int 0, .ref q35, .ref q36, .ref q37, .ref q38, .int 0, .int 0, .ref q39, .ref q40, .ref q41, .ref q42])), (q1, .inl (G.2.1, 242, .inl (fun _ => 0)))]) := by
  refine Ki.of b0 (own := RX12) (nm := "siphon") [(0, .ref q0), (1, .int 1), (2, .int x0)] rfl rfl (by decide +kernel) (Nat.le_of_ble_eq_true rfl) rfl ?_
  intro p e s m below meth c A C hr H locs w ls hl
  have hx := C.hx
  have hb := C.hb
  refine lv_aload_n hx hb dX12_siphon_0 rfl (lv_at hl 0 rfl) ?_
  refine lv_iconst (v := 0) hx hb dX12_siphon_1 (by decide) ?_
  refine r_put C w 0 rfl fl_X12_1 (Nat.le_of_ble_eq_true rfl) rfl rfl dX12_siphon_2 (ws2 := [(q0, .inr (12, [.int 0, .int 0, .int 0, .int 0, .int 0, .int 0, .int 0, .int (-1), .ref q2, .ref q1, .ref q3, .int 0, .ref q4, .ref q5, .ref q6, .ref q7, .ref q8, .ref q9, .ref q10, .int 0, .ref q11, .ref q12, .ref q13, .ref q14, .ref q15, .ref q16, .ref q17, .int 0, .int (-1), .int 0, .ref q18, .ref q19, .ref q20, .ref q21, .ref q22, .ref q23, .ref q24, .ref q25, .int 0, .ref q26, .ref q27, .ref q28, .ref q29, .ref q30, .int 0, .ref q31, .ref q32, .ref q33, .ref q34, .int 0, .ref q35, .ref q36, .ref q37, .ref q38, .int 0, .int 0, .ref q39, .ref q40, .ref q41, .ref q42])), (q1, .inl (G.2.1, 242, .inl (fun _ => 0)))]) rfl (fun H locs w => ?_)
  refine lv_aload_n hx hb dX12_siphon_5 rfl (lv_at hl 0 rfl) ?_
  refine lv_iload_n hx hb dX12_siphon_6 rfl (lv_at hl 2 rfl) ?_
  refine lv_if_lt (tgt := 14) hx hb dX12_siphon_7 (by decide) (fun h => absurd h h0) (fun _ => ?_)
  refine lv_iconst (v := 1) hx hb dX12_siphon_10 (by decide) ?_
  refine lv_goto (tgt := 15) hx hb dX12_siphon_11 (by decide) ?_
  refine lv_iconst (v := 1) hx hb dX12_siphon_15 (by decide) ?_
  refine fin_i C w (run_V C w mv_X12_267 (k32_may C.b0 q0 q2 q1 q3 q4 q5 q6 q7 q8 q9 q10 q11 q12 q13 q14 q15 q16 q17 q18 q19 q20 q21 q22 q23 q24 q25 q26 q27 q28 q29 q30 q31 q32 q33 q34 q35 q36 q37 q38 q39 q40 q41 q42 H.size) [0] rfl rfl 0 rfl rfl (by decide) rfl hl.1 rfl (Nat.le_of_ble_eq_true rfl) dX12_siphon_16 (cells2 := 0) (slots2 := 0) (by decide)) [0] [1] rfl rfl (by decide) (cells2 := 0) (slots2 := 0) (by decide) (fun u1 H locs w => ?_)
  have w : Wd s G A [(q1, .inl (G.2.1, 242, .inl (fun _ => 0))), (q0, .inr (12, [.int 0, .int 0, .int 0, .int 0, .int 0, .int 0, .int 0, .int (-1), .ref q2, .ref q1, .ref q3, .int 0, .ref q4, .ref q5, .ref q6, .ref q7, .ref q8, .ref q9, .ref q10, .int 0, .ref q11, .ref q12, .ref q13, .ref q14, .ref q15, .ref q16, .ref q17, .int 0, .int (-1), .int 0, .ref q18, .ref q19, .ref q20, .ref q21, .ref q22, .ref q23, .ref q24, .ref q25, .int 0, .ref q26, .ref q27, .ref q28, .ref q29, .ref q30, .int 0, .ref q31, .ref q32, .ref q33, .ref q34, .int 0, .ref q35, .ref q36, .ref q37, .ref q38, .int 0, .int 0, .ref q39, .ref q40, .ref q41, .ref q42]))] H locs := w
  refine lv_if_ne (tgt := 24) hx hb dX12_siphon_19 (by decide) (fun _ => ?_) (fun h => h.elim (by decide))
  refine lv_iconst (v := 0) hx hb dX12_siphon_24 (by decide) ?_
  refine lv_istore_n (lv' := [(3, .int 0), (0, .ref q0), (1, .int 1), (2, .int x0)]) hx hb dX12_siphon_25 rfl hl (by decide) rfl (fun ls hl => ?_)
  refine lv_iconst (v := 1) hx hb dX12_siphon_26 (by decide) ?_
  refine lv_istore (lv' := [(4, .int 1), (3, .int 0), (0, .ref q0), (1, .int 1), (2, .int x0)]) hx hb dX12_siphon_27 hl (by decide) rfl (fun ls hl => ?_)
  refine lv_iload hx hb dX12_siphon_29 (lv_at hl 0 rfl) ?_
  refine lv_iconst (v := 1) hx hb dX12_siphon_31 (by decide) ?_
  refine lv_aload_n hx hb dX12_siphon_32 rfl (lv_at hl 2 rfl) ?_
  refine fin_i C w (run_V C w mv_X12_280 (k57_places C.b0 q0 q1 q2 q3 q4 q5 q6 q7 q8 q9 q10 q11 q12 q13 q14 q15 q16 q17 q18 q19 q20 q21 q22 q23 q24 q25 q26 q27 q28 q29 q30 q31 q32 q33 q34 q35 q36 q37 q38 q39 q40 q41 q42 H.size) [1, 0] rfl rfl 1 rfl rfl (by decide) rfl hl.1 rfl (Nat.le_of_ble_eq_true rfl) dX12_siphon_33 (cells2 := 0) (slots2 := 0) (by decide)) [1, 0] [] rfl rfl (by decide) (cells2 := 0) (slots2 := 0) (by decide) (fun u2 H locs w => ?_)
  have w : Wd s G A [(q0, .inr (12, [.int 0, .int 0, .int 0, .int 0, .int 0, .int 0, .int 0, .int (-1), .ref q2, .ref q1, .ref q3, .int 0, .ref q4, .ref q5, .ref q6, .ref q7, .ref q8, .ref q9, .ref q10, .int 0, .ref q11, .ref q12, .ref q13, .ref q14, .ref q15, .ref q16, .ref q17, .int 0, .int (-1), .int 0, .ref q18, .ref q19, .ref q20, .ref q21, .ref q22, .ref q23, .ref q24, .ref q25, .int 0, .ref q26, .ref q27, .ref q28, .ref q29, .ref q30, .int 0, .ref q31, .ref q32, .ref q33, .ref q34, .int 0, .ref q35, .ref q36, .ref q37, .ref q38, .int 0, .int 0, .ref q39, .ref q40, .ref q41, .ref q42])), (q1, .inl (G.2.1, 242, .inl (fun _ => 0)))] H locs := w
  refine lv_ishl hx hb dX12_siphon_36 ?_
  refine z_i (v := 1) (by decide +kernel) ?_
  refine lv_icmp_ge (tgt := 70) hx hb dX12_siphon_37 (by decide) (fun _ => ?_) (fun h => absurd (by decide) h)
  refine lv_iconst (v := 0) hx hb dX12_siphon_70 (by decide) ?_
  exact e_i C hr w (fun _ => 0) [0, 1] rfl rfl rfl dX12_siphon_71 (by decide) (by decide)
set_option maxRecDepth 100000 in
set_option maxHeartbeats 4000000 in
theorem k432_needWithin {l : Launch} {s0 : State} {a0 : Array Value} {G : GT} (b0 : B0 l s0 a0 G) (x0 : Int32) (sz : Nat) : Kx l s0 G yX11_needWithin cX11_needWithin 3 none { frames := 6, cells := 1, slots := 6, locals := 90 } [.int x0, .int 1, .int 0] [] sz "java/lang/IllegalArgumentException" := by
  refine Kx.of b0 (own := RX11) (nm := "needWithin") [(0, .int x0), (1, .int 1), (2, .int 0)] rfl rfl (by decide +kernel) (Nat.le_of_ble_eq_true rfl) rfl ?_
  intro p e s m below meth c A C ht H locs w ls hl
  have hx := C.hx
  have hb := C.hb
  refine lv_iload_n hx hb dX11_needWithin_0 rfl (lv_at hl 0 rfl) ?_
  refine lv_iload_n hx hb dX11_needWithin_1 rfl (lv_at hl 1 rfl) ?_
  refine lv_icmp_lt (tgt := 10) hx hb dX11_needWithin_2 (by decide) (fun hf1 => ?_) (fun hf1 => ?_)
  · exact r_throwS C ht w hl.1 th_X11_247 C.b0.2.2.2.2.2.1 dX11_needWithin_10 dX11_needWithin_13 dX11_needWithin_14 dX11_needWithin_16 dX11_needWithin_19 (by decide) (Nat.le_of_ble_eq_true rfl) (by decide) (by decide) (by decide) (by decide) [] rfl rfl
  · refine lv_iload_n hx hb dX11_needWithin_5 rfl (lv_at hl 0 rfl) ?_
    refine lv_iload_n hx hb dX11_needWithin_6 rfl (lv_at hl 2 rfl) ?_
    refine lv_icmp_le (tgt := 20) hx hb dX11_needWithin_7 (by decide) (fun h => absurd h (Int32.not_le.mpr (kl2 (L := 1) (a := 0) hf1 (by decide)))) (fun _ => ?_)
    exact r_throwS C ht w hl.1 th_X11_247 C.b0.2.2.2.2.2.1 dX11_needWithin_10 dX11_needWithin_13 dX11_needWithin_14 dX11_needWithin_16 dX11_needWithin_19 (by decide) (Nat.le_of_ble_eq_true rfl) (by decide) (by decide) (by decide) (by decide) [] rfl rfl
set_option maxRecDepth 100000 in
set_option maxHeartbeats 4000000 in
theorem k433_is {l : Launch} {s0 : State} {a0 : Array Value} {G : GT} (b0 : B0 l s0 a0 G) (q0 q1 q2 q3 q4 q5 q6 q7 q8 q9 q10 q11 q12 q13 q14 q15 q16 q17 q18 q19 q20 q21 q22 q23 q24 : Nat) (x0 : Int32) (x1 : Int32) (sz : Nat) : Kx l s0 G yX11_is cX11_is 3 (some .boolean) { frames := 7, cells := 1, slots := 6, locals := 112 } [.ref q0, .int x0, .int x1] [(q0, .inr (11, [.ref q2, .ref q3, .ref q4, .ref q5, .ref q6, .ref q7, .ref q8, .ref q9, .ref q1, .ref q10, .int 0, .int (-1), .int 0, .int 0, .null, .null, .null, .null, .null])), (q1, .inr (2, [.int 0, .int 0, .ref q11, .ref q12, .ref q13, .ref q14, .ref q15, .ref q16, .ref q17, .ref q18, .ref q19, .ref q20, .ref q21, .ref q22, .ref q23, .ref q24, .int 0]))] sz "java/lang/IllegalArgumentException" := by
  refine Kx.of b0 (own := RX11) (nm := "is") [(0, .ref q0), (1, .int x0), (2, .int x1)] rfl rfl (by decide +kernel) (Nat.le_of_ble_eq_true rfl) rfl ?_
  intro p e s m below meth c A C ht H locs w ls hl
  have hx := C.hx
  have hb := C.hb
  refine lv_iload_n hx hb dX11_is_0 rfl (lv_at hl 1 rfl) ?_
  refine lv_iconst (v := 1) hx hb dX11_is_1 (by decide) ?_
  refine lv_iconst (v := 1) hx hb dX11_is_2 (by decide) ?_
  refine lv_aload_n hx hb dX11_is_3 rfl (lv_at hl 0 rfl) ?_
  refine r_get C w 0 rfl fr_X11_54 rfl dX11_is_4 ?_
  refine r_get C w 1 rfl fr_X11_98 rfl dX11_is_7 ?_
  refine lv_ishl hx hb dX11_is_10 ?_
  refine z_i (v := 1) (by decide +kernel) ?_
  refine lv_iconst (v := 1) hx hb dX11_is_11 (by decide) ?_
  refine lv_isub hx hb dX11_is_12 ?_
  refine z_i (v := 0) (by decide +kernel) ?_
  refine fin_x C w (run_Sx C w ms_X11_72 (k432_needWithin C.b0 x0 H.size) [] rfl rfl (by decide) rfl hl.1 rfl (Nat.le_of_ble_eq_true rfl) dX11_is_13 (cells2 := 1) (slots2 := 6) (by decide)) [] [0, 1] rfl rfl (by decide) (cells2 := 1) (slots2 := 6) (by decide) (fun qx2 ce H locs w hce hcv hcl => ?_)
  have w : Wd s G A [(q0, .inr (11, [.ref q2, .ref q3, .ref q4, .ref q5, .ref q6, .ref q7, .ref q8, .ref q9, .ref q1, .ref q10, .int 0, .int (-1), .int 0, .int 0, .null, .null, .null, .null, .null])), (q1, .inr (2, [.int 0, .int 0, .ref q11, .ref q12, .ref q13, .ref q14, .ref q15, .ref q16, .ref q17, .ref q18, .ref q19, .ref q20, .ref q21, .ref q22, .ref q23, .ref q24, .int 0]))] H locs := w
  exact r_out C ht w [0, 1] rfl rfl hce hcv hcl (by decide) (by decide)
set_option maxRecDepth 100000 in
set_option maxHeartbeats 4000000 in
theorem k434_is {l : Launch} {s0 : State} {a0 : Array Value} {G : GT} (b0 : B0 l s0 a0 G) (q0 q1 q2 q3 q4 q5 q6 q7 q8 q9 q10 q11 q12 q13 q14 q15 q16 q17 q18 q19 q20 q21 q22 q23 q24 q25 : Nat) (x0 : Int32) (x1 : Int32) (sz : Nat) : Kh l s0 G yL_is cL_is 5 (some .int) [(0, 17, 20, 13)] { frames := 8, cells := 1, slots := 6, locals := 134 } [.ref q0, .int x0, .int x1, .ref q2] [(q0, .inr (11, [.ref q3, .ref q4, .ref q5, .ref q6, .ref q7, .ref q8, .ref q9, .ref q10, .ref q1, .ref q11, .int 0, .int (-1), .int 0, .int 0, .null, .null, .null, .null, .null])), (q1, .inr (2, [.int 0, .int 0, .ref q12, .ref q13, .ref q14, .ref q15, .ref q16, .ref q17, .ref q18, .ref q19, .ref q20, .ref q21, .ref q22, .ref q23, .ref q24, .ref q25, .int 0]))] sz 1 (fun u => [(q0, .inr (11, [.ref q3, .ref q4, .ref q5, .ref q6, .ref q7, .ref q8, .ref q9, .ref q10, .ref q1, .ref q11, .int 0, .int (-1), .int 0, .int 0, .null, .null, .null, .null, .null])), (q1, .inr (2, [.int 0, .int 0, .ref q12, .ref q13, .ref q14, .ref q15, .ref q16, .ref q17, .ref q18, .ref q19, .ref q20, .ref q21, .ref q22, .ref q23, .ref q24, .ref q25, .int 0]))]) := by
  refine Kh.of b0 (own := RL) (nm := "is") [(0, .ref q0), (1, .int x0), (2, .int x1), (3, .ref q2)] rfl rfl (by decide +kernel) (Nat.le_of_ble_eq_true rfl) rfl ?_
  intro p e s m below meth c A C hr ht H locs w ls hl
  have hx := C.hx
  have hb := C.hb
  refine lv_aload_n hx hb dL_is_0 rfl (lv_at hl 3 rfl) ?_
  refine lv_iconst (v := 0) hx hb dL_is_1 (by decide) ?_
  refine lv_aload_n hx hb dL_is_2 rfl (lv_at hl 0 rfl) ?_
  refine lv_iload_n hx hb dL_is_3 rfl (lv_at hl 1 rfl) ?_
  refine lv_iload_n hx hb dL_is_4 rfl (lv_at hl 2 rfl) ?_
  refine fin_x C w (run_Vx C w mv_L_97 (k433_is C.b0 q0 q1 q3 q4 q5 q6 q7 q8 q9 q10 q11 q12 q13 q14 q15 q16 q17 q18 q19 q20 q21 q22 q23 q24 q25 x0 x1 H.size) [0, 1] rfl rfl 0 rfl rfl (by decide) rfl hl.1 rfl (Nat.le_of_ble_eq_true rfl) dL_is_5 (cells2 := 1) (slots2 := 6) (by decide)) [0, 1] [] rfl rfl (by decide) (cells2 := 1) (slots2 := 6) (by decide) (fun qx2 ce H locs w hce hcv hcl => ?_)
  have w : Wd s G A [(q0, .inr (11, [.ref q3, .ref q4, .ref q5, .ref q6, .ref q7, .ref q8, .ref q9, .ref q10, .ref q1, .ref q11, .int 0, .int (-1), .int 0, .int 0, .null, .null, .null, .null, .null])), (q1, .inr (2, [.int 0, .int 0, .ref q12, .ref q13, .ref q14, .ref q15, .ref q16, .ref q17, .ref q18, .ref q19, .ref q20, .ref q21, .ref q22, .ref q23, .ref q24, .ref q25, .int 0]))] H locs := w
  refine r_catch C ht (by decide) (by decide) tl_L_13 tk_java_lang_IllegalArgumentException hce hcv hcl ?_
  refine lv_astore (lv' := [(4, .ref qx2), (0, .ref q0), (1, .int x0), (2, .int x1), (3, .ref q2)]) hx hb dL_is_20 hl (by decide) rfl (fun ls hl => ?_)
  refine lv_iconst (v := 1) hx hb dL_is_22 (by decide) ?_
  exact e_i C hr w (fun _ => 0) [0, 1] rfl rfl rfl dL_is_23 (by decide) (by decide)
set_option maxRecDepth 100000 in
set_option maxHeartbeats 4000000 in
theorem k435_is {l : Launch} {s0 : State} {a0 : Array Value} {G : GT} (b0 : B0 l s0 a0 G) (q0 q1 q2 q3 q4 q5 q6 q7 q8 q9 q10 q11 q12 q13 q14 q15 q16 q17 q18 q19 q20 q21 q22 q23 q24 q25 q26 q27 q28 q29 q30 q31 q32 q33 q34 q35 q36 q37 q38 q39 q40 q41 q42 : Nat) (x0 : Int32) (x1 : Int32) (sz : Nat) : Ki l s0 G yX12_is cX12_is 4 (some .boolean) { frames := 1, cells := 0, slots := 0, locals := 22 } [.ref q0, .int x0, .int x1] [(q0, .inr (12, [.int 0, .int 0, .int 0, .int 0, .int 0, .int 0, .int 0, .int (-1), .ref q2, .ref q1, .ref q3, .int 0, .ref q4, .ref q5, .ref q6, .ref q7, .ref q8, .ref q9, .ref q10, .int 0, .ref q11, .ref q12, .ref q13, .ref q14, .ref q15, .ref q16, .ref q17, .int 0, .int (-1), .int 0, .ref q18, .ref q19, .ref q20, .ref q21, .ref q22, .ref q23, .ref q24, .ref q25, .int 0, .ref q26, .ref q27, .ref q28, .ref q29, .ref q30, .int 0, .ref q31, .ref q32, .ref q33, .ref q34, .int 0, .ref q35, .ref q36, .ref q37, .ref q38, .int 0, .int 0, .ref q39, .ref q40, .ref q41, .ref q42])), (q1, .inl (G.2.1, 242, .inl (fun _ => 0)))] sz 0 (fun u => [(q0, .inr (12, [.int 1, .int 0, .int 0, .int 0, .int 0, .int 0, .int 0, .int (-1), .ref q2, .ref q1, .ref q3, .int 0, .ref q4, .ref q5, .ref q6, .ref q7, .ref q8, .ref q9, .ref q10, .int 0, .ref q11, .ref q12, .ref q13, .ref q14, .ref q15, .ref q16, .ref q17, .int 0, .int (-1), .int 0, .ref q18, .ref q19, .ref q20, .ref q21, .ref q22, .ref q23, .ref q24, .ref q25, .int 0, .ref q26, .ref q27, .ref q28, .ref q29, .ref q30, .int 0, .ref q31, .ref q32, .ref q33, .ref q34, .int 0, .ref q35, .ref q36, .ref q37, .ref q38, .int 0, .int 0, .ref q39, .ref q40, .ref q41, .ref q42])), (q1, .inl (G.2.1, 242, .inl (fun _ => 0)))]) := by
  refine Ki.of b0 (own := RX12) (nm := "is") [(0, .ref q0), (1, .int x0), (2, .int x1)] rfl rfl (by decide +kernel) (Nat.le_of_ble_eq_true rfl) rfl ?_
  intro p e s m below meth c A C hr H locs w ls hl
  have hx := C.hx
  have hb := C.hb
  refine lv_aload_n hx hb dX12_is_0 rfl (lv_at hl 0 rfl) ?_
  refine lv_iconst (v := 0) hx hb dX12_is_1 (by decide) ?_
  refine r_put C w 0 rfl fl_X12_1 (Nat.le_of_ble_eq_true rfl) rfl rfl dX12_is_2 (ws2 := [(q0, .inr (12, [.int 0, .int 0, .int 0, .int 0, .int 0, .int 0, .int 0, .int (-1), .ref q2, .ref q1, .ref q3, .int 0, .ref q4, .ref q5, .ref q6, .ref q7, .ref q8, .ref q9, .ref q10, .int 0, .ref q11, .ref q12, .ref q13, .ref q14, .ref q15, .ref q16, .ref q17, .int 0, .int (-1), .int 0, .ref q18, .ref q19, .ref q20, .ref q21, .ref q22, .ref q23, .ref q24, .ref q25, .int 0, .ref q26, .ref q27, .ref q28, .ref q29, .ref q30, .int 0, .ref q31, .ref q32, .ref q33, .ref q34, .int 0, .ref q35, .ref q36, .ref q37, .ref q38, .int 0, .int 0, .ref q39, .ref q40, .ref q41, .ref q42])), (q1, .inl (G.2.1, 242, .inl (fun _ => 0)))]) rfl (fun H locs w => ?_)
  refine lv_aload_n hx hb dX12_is_5 rfl (lv_at hl 0 rfl) ?_
  refine lv_iload_n hx hb dX12_is_6 rfl (lv_at hl 1 rfl) ?_
  refine lv_iconst (v := 1) hx hb dX12_is_7 (by decide) ?_
  refine lv_icmp_lt (tgt := 34) hx hb dX12_is_8 (by decide) (fun hf1 => ?_) (fun hf1 => ?_)
  · refine lv_iconst (v := 0) hx hb dX12_is_34 (by decide) ?_
    refine lv_iconst (v := 1) hx hb dX12_is_35 (by decide) ?_
    refine fin_i C w (run_V C w mv_X12_267 (k18_may C.b0 q0 q2 q1 q3 q4 q5 q6 q7 q8 q9 q10 q11 q12 q13 q14 q15 q16 q17 q18 q19 q20 q21 q22 q23 q24 q25 q26 q27 q28 q29 q30 q31 q32 q33 q34 q35 q36 q37 q38 q39 q40 q41 q42 H.size) [0] rfl rfl 0 rfl rfl (by decide) rfl hl.1 rfl (Nat.le_of_ble_eq_true rfl) dX12_is_36 (cells2 := 0) (slots2 := 0) (by decide)) [0] [1] rfl rfl (by decide) (cells2 := 0) (slots2 := 0) (by decide) (fun u2 H locs w => ?_)
    have w : Wd s G A [(q1, .inl (G.2.1, 242, .inl (fun _ => 0))), (q0, .inr (12, [.int 1, .int 0, .int 0, .int 0, .int 0, .int 0, .int 0, .int (-1), .ref q2, .ref q1, .ref q3, .int 0, .ref q4, .ref q5, .ref q6, .ref q7, .ref q8, .ref q9, .ref q10, .int 0, .ref q11, .ref q12, .ref q13, .ref q14, .ref q15, .ref q16, .ref q17, .int 0, .int (-1), .int 0, .ref q18, .ref q19, .ref q20, .ref q21, .ref q22, .ref q23, .ref q24, .ref q25, .int 0, .ref q26, .ref q27, .ref q28, .ref q29, .ref q30, .int 0, .ref q31, .ref q32, .ref q33, .ref q34, .int 0, .ref q35, .ref q36, .ref q37, .ref q38, .int 0, .int 0, .ref q39, .ref q40, .ref q41, .ref q42]))] H locs := w
    refine lv_if_ne (tgt := 44) hx hb dX12_is_39 (by decide) (fun h => absurd (by decide) h) (fun _ => ?_)
    refine lv_iconst (v := 0) hx hb dX12_is_42 (by decide) ?_
    exact e_i C hr w (fun _ => 0) [1, 0] rfl rfl (by decide) dX12_is_43 (by decide) (by decide)
  · refine lv_iload_n hx hb dX12_is_11 rfl (lv_at hl 1 rfl) ?_
    refine lv_iconst (v := 1) hx hb dX12_is_12 (by decide) ?_
    refine lv_aload_n hx hb dX12_is_13 rfl (lv_at hl 0 rfl) ?_
    refine fin_i C w (run_V C w mv_X12_280 (k57_places C.b0 q0 q1 q2 q3 q4 q5 q6 q7 q8 q9 q10 q11 q12 q13 q14 q15 q16 q17 q18 q19 q20 q21 q22 q23 q24 q25 q26 q27 q28 q29 q30 q31 q32 q33 q34 q35 q36 q37 q38 q39 q40 q41 q42 H.size) [0, 1] rfl rfl 0 rfl rfl (by decide) rfl hl.1 rfl (Nat.le_of_ble_eq_true rfl) dX12_is_14 (cells2 := 0) (slots2 := 0) (by decide)) [0, 1] [] rfl rfl (by decide) (cells2 := 0) (slots2 := 0) (by decide) (fun u3 H locs w => ?_)
    have w : Wd s G A [(q0, .inr (12, [.int 0, .int 0, .int 0, .int 0, .int 0, .int 0, .int 0, .int (-1), .ref q2, .ref q1, .ref q3, .int 0, .ref q4, .ref q5, .ref q6, .ref q7, .ref q8, .ref q9, .ref q10, .int 0, .ref q11, .ref q12, .ref q13, .ref q14, .ref q15, .ref q16, .ref q17, .int 0, .int (-1), .int 0, .ref q18, .ref q19, .ref q20, .ref q21, .ref q22, .ref q23, .ref q24, .ref q25, .int 0, .ref q26, .ref q27, .ref q28, .ref q29, .ref q30, .int 0, .ref q31, .ref q32, .ref q33, .ref q34, .int 0, .ref q35, .ref q36, .ref q37, .ref q38, .int 0, .int 0, .ref q39, .ref q40, .ref q41, .ref q42])), (q1, .inl (G.2.1, 242, .inl (fun _ => 0)))] H locs := w
    refine lv_ishl hx hb dX12_is_17 ?_
    refine z_i (v := 1) (by decide +kernel) ?_
    refine lv_icmp_ge (tgt := 34) hx hb dX12_is_18 (by decide) (fun _ => ?_) (fun h => absurd (Int32.not_lt.mp hf1) h)
    refine lv_iconst (v := 0) hx hb dX12_is_34 (by decide) ?_
    refine lv_iconst (v := 1) hx hb dX12_is_35 (by decide) ?_
    refine fin_i C w (run_V C w mv_X12_267 (k18_may C.b0 q0 q2 q1 q3 q4 q5 q6 q7 q8 q9 q10 q11 q12 q13 q14 q15 q16 q17 q18 q19 q20 q21 q22 q23 q24 q25 q26 q27 q28 q29 q30 q31 q32 q33 q34 q35 q36 q37 q38 q39 q40 q41 q42 H.size) [0] rfl rfl 0 rfl rfl (by decide) rfl hl.1 rfl (Nat.le_of_ble_eq_true rfl) dX12_is_36 (cells2 := 0) (slots2 := 0) (by decide)) [0] [1] rfl rfl (by decide) (cells2 := 0) (slots2 := 0) (by decide) (fun u4 H locs w => ?_)
    have w : Wd s G A [(q1, .inl (G.2.1, 242, .inl (fun _ => 0))), (q0, .inr (12, [.int 1, .int 0, .int 0, .int 0, .int 0, .int 0, .int 0, .int (-1), .ref q2, .ref q1, .ref q3, .int 0, .ref q4, .ref q5, .ref q6, .ref q7, .ref q8, .ref q9, .ref q10, .int 0, .ref q11, .ref q12, .ref q13, .ref q14, .ref q15, .ref q16, .ref q17, .int 0, .int (-1), .int 0, .ref q18, .ref q19, .ref q20, .ref q21, .ref q22, .ref q23, .ref q24, .ref q25, .int 0, .ref q26, .ref q27, .ref q28, .ref q29, .ref q30, .int 0, .ref q31, .ref q32, .ref q33, .ref q34, .int 0, .ref q35, .ref q36, .ref q37, .ref q38, .int 0, .int 0, .ref q39, .ref q40, .ref q41, .ref q42]))] H locs := w
    refine lv_if_ne (tgt := 44) hx hb dX12_is_39 (by decide) (fun h => absurd (by decide) h) (fun _ => ?_)
    refine lv_iconst (v := 0) hx hb dX12_is_42 (by decide) ?_
    exact e_i C hr w (fun _ => 0) [1, 0] rfl rfl (by decide) dX12_is_43 (by decide) (by decide)
set_option maxRecDepth 100000 in
set_option maxHeartbeats 4000000 in
theorem k436_kindOf {l : Launch} {s0 : State} {a0 : Array Value} {G : GT} (b0 : B0 l s0 a0 G) (q0 q1 q2 q3 q4 q5 q6 q7 q8 q9 q10 q11 q12 q13 q14 : Nat) (sz : Nat) : Ki l s0 G yX4_kindOf cX4_kindOf 2 (some .int) { frames := 0, cells := 0, slots := 0, locals := 0 } [.ref q0] [(q0, .inr (2, [.int 0, .int 0, .ref q1, .ref q2, .ref q3, .ref q4, .ref q5, .ref q6, .ref q7, .ref q8, .ref q9, .ref q10, .ref q11, .ref q12, .ref q13, .ref q14, .int 0]))] sz 0 (fun u => [(q0, .inr (2, [.int 0, .int 0, .ref q1, .ref q2, .ref q3, .ref q4, .ref q5, .ref q6, .ref q7, .ref q8, .ref q9, .ref q10, .ref q11, .ref q12, .ref q13, .ref q14, .int 0]))]) := by
  refine Ki.of b0 (own := RX4) (nm := "kindOf") [(0, .ref q0)] rfl rfl (by decide +kernel) (Nat.le_of_ble_eq_true rfl) rfl ?_
  intro p e s m below meth c A C hr H locs w ls hl
  have hx := C.hx
  have hb := C.hb
  refine lv_aload_n hx hb dX4_kindOf_0 rfl (lv_at hl 0 rfl) ?_
  refine r_get C w 0 rfl fr_X4_24 rfl dX4_kindOf_1 ?_
  refine lv_if_ne (tgt := 9) hx hb dX4_kindOf_4 (by decide) (fun h => absurd (by decide) h) (fun _ => ?_)
  refine lv_iconst (v := 0) hx hb dX4_kindOf_7 (by decide) ?_
  exact e_i C hr w (fun _ => 0) [0] rfl rfl rfl dX4_kindOf_8 (by decide) (by decide)
set_option maxRecDepth 100000 in
set_option maxHeartbeats 4000000 in
theorem k437_looks {l : Launch} {s0 : State} {a0 : Array Value} {G : GT} (b0 : B0 l s0 a0 G) (q0 q1 q2 q3 q4 q5 q6 q7 q8 q9 q10 q11 q12 q13 q14 q15 q16 q17 q18 q19 q20 q21 q22 q23 q24 : Nat) (sz : Nat) : Ki l s0 G yX11_looks cX11_looks 1 (some .int) { frames := 1, cells := 0, slots := 0, locals := 21 } [.ref q0] [(q0, .inr (11, [.ref q2, .ref q3, .ref q4, .ref q5, .ref q6, .ref q7, .ref q8, .ref q9, .ref q1, .ref q10, .int 0, .int (-1), .int 0, .int 0, .null, .null, .null, .null, .null])), (q1, .inr (2, [.int 0, .int 0, .ref q11, .ref q12, .ref q13, .ref q14, .ref q15, .ref q16, .ref q17, .ref q18, .ref q19, .ref q20, .ref q21, .ref q22, .ref q23, .ref q24, .int 0]))] sz 0 (fun u => [(q0, .inr (11, [.ref q2, .ref q3, .ref q4, .ref q5, .ref q6, .ref q7, .ref q8, .ref q9, .ref q1, .ref q10, .int 0, .int (-1), .int 0, .int 0, .null, .null, .null, .null, .null])), (q1, .inr (2, [.int 0, .int 0, .ref q11, .ref q12, .ref q13, .ref q14, .ref q15, .ref q16, .ref q17, .ref q18, .ref q19, .ref q20, .ref q21, .ref q22, .ref q23, .ref q24, .int 0]))]) := by
  refine Ki.of b0 (own := RX11) (nm := "looks") [(0, .ref q0)] rfl rfl (by decide +kernel) (Nat.le_of_ble_eq_true rfl) rfl ?_
  intro p e s m below meth c A C hr H locs w ls hl
  have hx := C.hx
  have hb := C.hb
  refine lv_aload_n hx hb dX11_looks_0 rfl (lv_at hl 0 rfl) ?_
  refine r_get C w 0 rfl fr_X11_54 rfl dX11_looks_1 ?_
  refine fin_i C w (run_S C w ms_X11_266 (k436_kindOf C.b0 q1 q11 q12 q13 q14 q15 q16 q17 q18 q19 q20 q21 q22 q23 q24 H.size) [1] rfl rfl (by decide) rfl hl.1 rfl (Nat.le_of_ble_eq_true rfl) dX11_looks_4 (cells2 := 0) (slots2 := 0) (by decide)) [1] [0] rfl rfl (by decide) (cells2 := 0) (slots2 := 0) (by decide) (fun u1 H locs w => ?_)
  have w : Wd s G A [(q0, .inr (11, [.ref q2, .ref q3, .ref q4, .ref q5, .ref q6, .ref q7, .ref q8, .ref q9, .ref q1, .ref q10, .int 0, .int (-1), .int 0, .int 0, .null, .null, .null, .null, .null])), (q1, .inr (2, [.int 0, .int 0, .ref q11, .ref q12, .ref q13, .ref q14, .ref q15, .ref q16, .ref q17, .ref q18, .ref q19, .ref q20, .ref q21, .ref q22, .ref q23, .ref q24, .int 0]))] H locs := w
  exact e_i C hr w (fun _ => 0) [0, 1] rfl rfl rfl dX11_looks_7 (by decide) (by decide)
set_option maxRecDepth 100000 in
set_option maxHeartbeats 4000000 in
theorem k438_looks {l : Launch} {s0 : State} {a0 : Array Value} {G : GT} (b0 : B0 l s0 a0 G) (q0 q1 q2 q3 q4 q5 q6 q7 q8 q9 q10 q11 q12 q13 q14 q15 q16 q17 q18 q19 q20 q21 q22 q23 q24 q25 q26 q27 q28 q29 q30 q31 q32 q33 q34 q35 q36 q37 q38 q39 q40 q41 q42 : Nat) (sz : Nat) : Ki l s0 G yX12_looks cX12_looks 7 (some .int) { frames := 1, cells := 0, slots := 0, locals := 20 } [.ref q0] [(q0, .inr (12, [.int 0, .int 0, .int 0, .int 0, .int 0, .int 0, .int 0, .int (-1), .ref q2, .ref q1, .ref q3, .int 0, .ref q4, .ref q5, .ref q6, .ref q7, .ref q8, .ref q9, .ref q10, .int 0, .ref q11, .ref q12, .ref q13, .ref q14, .ref q15, .ref q16, .ref q17, .int 0, .int (-1), .int 0, .ref q18, .ref q19, .ref q20, .ref q21, .ref q22, .ref q23, .ref q24, .ref q25, .int 0, .ref q26, .ref q27, .ref q28, .ref q29, .ref q30, .int 0, .ref q31, .ref q32, .ref q33, .ref q34, .int 0, .ref q35, .ref q36, .ref q37, .ref q38, .int 0, .int 0, .ref q39, .ref q40, .ref q41, .ref q42])), (q1, .inl (G.2.1, 242, .inl (fun _ => 0)))] sz 0 (fun u => [(q0, .inr (12, [.int 0, .int 0, .int 0, .int 0, .int 0, .int 0, .int 0, .int (-1), .ref q2, .ref q1, .ref q3, .int 0, .ref q4, .ref q5, .ref q6, .ref q7, .ref q8, .ref q9, .ref q10, .int 0, .ref q11, .ref q12, .ref q13, .ref q14, .ref q15, .ref q16, .ref q17, .int 0, .int (-1), .int 0, .ref q18, .ref q19, .ref q20, .ref q21, .ref q22, .ref q23, .ref q24, .ref q25, .int 0, .ref q26, .ref q27, .ref q28, .ref q29, .ref q30, .int 0, .ref q31, .ref q32, .ref q33, .ref q34, .int 0, .ref q35, .ref q36, .ref q37, .ref q38, .int 0, .int 0, .ref q39, .ref q40, .ref q41, .ref q42])), (q1, .inl (G.2.1, 242, .inl (fun _ => 0)))]) := by
  refine Ki.of b0 (own := RX12) (nm := "looks") [(0, .ref q0)] rfl rfl (by decide +kernel) (Nat.le_of_ble_eq_true rfl) rfl ?_
  intro p e s m below meth c A C hr H locs w ls hl
  have hx := C.hx
  have hb := C.hb
  refine lv_aload_n hx hb dX12_looks_0 rfl (lv_at hl 0 rfl) ?_
  refine lv_iconst (v := 0) hx hb dX12_looks_1 (by decide) ?_
  refine r_put C w 0 rfl fl_X12_1 (Nat.le_of_ble_eq_true rfl) rfl rfl dX12_looks_2 (ws2 := [(q0, .inr (12, [.int 0, .int 0, .int 0, .int 0, .int 0, .int 0, .int 0, .int (-1), .ref q2, .ref q1, .ref q3, .int 0, .ref q4, .ref q5, .ref q6, .ref q7, .ref q8, .ref q9, .ref q10, .int 0, .ref q11, .ref q12, .ref q13, .ref q14, .ref q15, .ref q16, .ref q17, .int 0, .int (-1), .int 0, .ref q18, .ref q19, .ref q20, .ref q21, .ref q22, .ref q23, .ref q24, .ref q25, .int 0, .ref q26, .ref q27, .ref q28, .ref q29, .ref q30, .int 0, .ref q31, .ref q32, .ref q33, .ref q34, .int 0, .ref q35, .ref q36, .ref q37, .ref q38, .int 0, .int 0, .ref q39, .ref q40, .ref q41, .ref q42])), (q1, .inl (G.2.1, 242, .inl (fun _ => 0)))]) rfl (fun H locs w => ?_)
  refine lv_aload_n hx hb dX12_looks_5 rfl (lv_at hl 0 rfl) ?_
  refine fin_i C w (run_V C w mv_X12_280 (k57_places C.b0 q0 q1 q2 q3 q4 q5 q6 q7 q8 q9 q10 q11 q12 q13 q14 q15 q16 q17 q18 q19 q20 q21 q22 q23 q24 q25 q26 q27 q28 q29 q30 q31 q32 q33 q34 q35 q36 q37 q38 q39 q40 q41 q42 H.size) [0, 1] rfl rfl 0 rfl rfl (by decide) rfl hl.1 rfl (Nat.le_of_ble_eq_true rfl) dX12_looks_6 (cells2 := 0) (slots2 := 0) (by decide)) [0, 1] [] rfl rfl (by decide) (cells2 := 0) (slots2 := 0) (by decide) (fun u1 H locs w => ?_)
  have w : Wd s G A [(q0, .inr (12, [.int 0, .int 0, .int 0, .int 0, .int 0, .int 0, .int 0, .int (-1), .ref q2, .ref q1, .ref q3, .int 0, .ref q4, .ref q5, .ref q6, .ref q7, .ref q8, .ref q9, .ref q10, .int 0, .ref q11, .ref q12, .ref q13, .ref q14, .ref q15, .ref q16, .ref q17, .int 0, .int (-1), .int 0, .ref q18, .ref q19, .ref q20, .ref q21, .ref q22, .ref q23, .ref q24, .ref q25, .int 0, .ref q26, .ref q27, .ref q28, .ref q29, .ref q30, .int 0, .ref q31, .ref q32, .ref q33, .ref q34, .int 0, .ref q35, .ref q36, .ref q37, .ref q38, .int 0, .int 0, .ref q39, .ref q40, .ref q41, .ref q42])), (q1, .inl (G.2.1, 242, .inl (fun _ => 0)))] H locs := w
  refine lv_if_ne (tgt := 14) hx hb dX12_looks_9 (by decide) (fun h => absurd (by decide) h) (fun _ => ?_)
  refine lv_iconst (v := 0) hx hb dX12_looks_12 (by decide) ?_
  exact e_i C hr w (fun _ => 0) [0, 1] rfl rfl rfl dX12_looks_13 (by decide) (by decide)
set_option maxRecDepth 100000 in
set_option maxHeartbeats 4000000 in
theorem k439_ableActs {l : Launch} {s0 : State} {a0 : Array Value} {G : GT} (b0 : B0 l s0 a0 G) (q0 q1 q2 q3 q4 q5 q6 q7 q8 q9 q10 q11 q12 q13 q14 q15 : Nat) (sz : Nat) : Ki l s0 G yX2_ableActs cX2_ableActs 4 (some .int) { frames := 0, cells := 0, slots := 0, locals := 0 } [.ref q0, .ref q1] [(q0, .inr (2, [.int 0, .int 0, .ref q2, .ref q3, .ref q4, .ref q5, .ref q6, .ref q7, .ref q8, .ref q9, .ref q10, .ref q11, .ref q12, .ref q13, .ref q14, .ref q15, .int 0]))] sz 0 (fun u => [(q0, .inr (2, [.int 0, .int 0, .ref q2, .ref q3, .ref q4, .ref q5, .ref q6, .ref q7, .ref q8, .ref q9, .ref q10, .ref q11, .ref q12, .ref q13, .ref q14, .ref q15, .int 0]))]) := by
  refine Ki.of b0 (own := RX2) (nm := "ableActs") [(0, .ref q0), (1, .ref q1)] rfl rfl (by decide +kernel) (Nat.le_of_ble_eq_true rfl) rfl ?_
  intro p e s m below meth c A C hr H locs w ls hl
  have hx := C.hx
  have hb := C.hb
  refine lv_iconst (v := 0) hx hb dX2_ableActs_0 (by decide) ?_
  refine lv_istore_n (lv' := [(2, .int 0), (0, .ref q0), (1, .ref q1)]) hx hb dX2_ableActs_1 rfl hl (by decide) rfl (fun ls hl => ?_)
  refine lv_iconst (v := 0) hx hb dX2_ableActs_2 (by decide) ?_
  refine lv_istore_n (lv' := [(3, .int 0), (2, .int 0), (0, .ref q0), (1, .ref q1)]) hx hb dX2_ableActs_3 rfl hl (by decide) rfl (fun ls hl => ?_)
  refine lv_iload_n hx hb dX2_ableActs_4 rfl (lv_at hl 0 rfl) ?_
  refine lv_aload_n hx hb dX2_ableActs_5 rfl (lv_at hl 2 rfl) ?_
  refine r_get C w 0 rfl fr_X2_58 rfl dX2_ableActs_6 ?_
  refine lv_icmp_ge (tgt := 38) hx hb dX2_ableActs_9 (by decide) (fun _ => ?_) (fun h => absurd (by decide) h)
  refine lv_iload_n hx hb dX2_ableActs_38 rfl (lv_at hl 1 rfl) ?_
  exact e_i C hr w (fun _ => 0) [0] rfl rfl rfl dX2_ableActs_39 (by decide) (by decide)
set_option maxRecDepth 100000 in
set_option maxHeartbeats 4000000 in
theorem k440_once {l : Launch} {s0 : State} {a0 : Array Value} {G : GT} (b0 : B0 l s0 a0 G) (q0 q1 q2 q3 q4 q5 q6 q7 q8 q9 q10 q11 q12 q13 q14 q15 q16 q17 q18 q19 q20 q21 q22 q23 q24 q25 q26 q27 : Nat) (sz : Nat) : Ki l s0 G yX11_once cX11_once 5 (some .int) { frames := 1, cells := 0, slots := 0, locals := 23 } [.ref q0] [(q0, .inr (11, [.ref q3, .ref q4, .ref q1, .ref q5, .ref q6, .ref q7, .ref q8, .ref q9, .ref q2, .ref q10, .int 0, .int (-1), .int 0, .int 0, .null, .null, .null, .null, .null])), (q1, .inr (5, [.ref q11, .ref q12, .ref q13, .int 0])), (q2, .inr (2, [.int 0, .int 0, .ref q14, .ref q15, .ref q16, .ref q17, .ref q18, .ref q19, .ref q20, .ref q21, .ref q22, .ref q23, .ref q24, .ref q25, .ref q26, .ref q27, .int 0]))] sz 0 (fun u => [(q0, .inr (11, [.ref q3, .ref q4, .ref q1, .ref q5, .ref q6, .ref q7, .ref q8, .ref q9, .ref q2, .ref q10, .int 0, .int (-1), .int 0, .int 0, .null, .null, .null, .null, .null])), (q1, .inr (5, [.ref q11, .ref q12, .ref q13, .int 0])), (q2, .inr (2, [.int 0, .int 0, .ref q14, .ref q15, .ref q16, .ref q17, .ref q18, .ref q19, .ref q20, .ref q21, .ref q22, .ref q23, .ref q24, .ref q25, .ref q26, .ref q27, .int 0]))]) := by
  refine Ki.of b0 (own := RX11) (nm := "once") [(0, .ref q0)] rfl rfl (by decide +kernel) (Nat.le_of_ble_eq_true rfl) rfl ?_
  intro p e s m below meth c A C hr H locs w ls hl
  have hx := C.hx
  have hb := C.hb
  refine lv_aload_n hx hb dX11_once_0 rfl (lv_at hl 0 rfl) ?_
  refine r_get C w 0 rfl fr_X11_54 rfl dX11_once_1 ?_
  refine lv_aload_n hx hb dX11_once_4 rfl (lv_at hl 0 rfl) ?_
  refine r_get C w 0 rfl fr_X11_23 rfl dX11_once_5 ?_
  refine r_get C w 1 rfl fr_X11_129 rfl dX11_once_8 ?_
  refine fin_i C w (run_V C w mv_X11_270 (k439_ableActs C.b0 q2 q11 q14 q15 q16 q17 q18 q19 q20 q21 q22 q23 q24 q25 q26 q27 H.size) [2] rfl rfl 2 rfl rfl (by decide) rfl hl.1 rfl (Nat.le_of_ble_eq_true rfl) dX11_once_11 (cells2 := 0) (slots2 := 0) (by decide)) [2] [0, 1] rfl rfl (by decide) (cells2 := 0) (slots2 := 0) (by decide) (fun u1 H locs w => ?_)
  have w : Wd s G A [(q0, .inr (11, [.ref q3, .ref q4, .ref q1, .ref q5, .ref q6, .ref q7, .ref q8, .ref q9, .ref q2, .ref q10, .int 0, .int (-1), .int 0, .int 0, .null, .null, .null, .null, .null])), (q1, .inr (5, [.ref q11, .ref q12, .ref q13, .int 0])), (q2, .inr (2, [.int 0, .int 0, .ref q14, .ref q15, .ref q16, .ref q17, .ref q18, .ref q19, .ref q20, .ref q21, .ref q22, .ref q23, .ref q24, .ref q25, .ref q26, .ref q27, .int 0]))] H locs := w
  refine lv_istore_n (lv' := [(1, .int 0), (0, .ref q0)]) hx hb dX11_once_14 rfl hl (by decide) rfl (fun ls hl => ?_)
  refine lv_iconst (v := 0) hx hb dX11_once_15 (by decide) ?_
  refine lv_istore_n (lv' := [(2, .int 0), (1, .int 0), (0, .ref q0)]) hx hb dX11_once_16 rfl hl (by decide) rfl (fun ls hl => ?_)
  refine lv_iconst (v := 1) hx hb dX11_once_17 (by decide) ?_
  refine lv_istore_n (lv' := [(3, .int 1), (2, .int 0), (1, .int 0), (0, .ref q0)]) hx hb dX11_once_18 rfl hl (by decide) rfl (fun ls hl => ?_)
  refine lv_iload_n hx hb dX11_once_19 rfl (lv_at hl 0 rfl) ?_
  refine lv_iconst (v := 1) hx hb dX11_once_20 (by decide) ?_
  refine lv_aload_n hx hb dX11_once_21 rfl (lv_at hl 3 rfl) ?_
  refine r_get C w 0 rfl fr_X11_54 rfl dX11_once_22 ?_
  refine r_get C w 2 rfl fr_X11_101 rfl dX11_once_25 ?_
  refine lv_ishl hx hb dX11_once_28 ?_
  refine z_i (v := 1) (by decide +kernel) ?_
  refine lv_icmp_ge (tgt := 89) hx hb dX11_once_29 (by decide) (fun _ => ?_) (fun h => absurd (by decide) h)
  refine lv_iload_n hx hb dX11_once_89 rfl (lv_at hl 1 rfl) ?_
  exact e_i C hr w (fun _ => 0) [0, 1, 2] rfl rfl rfl dX11_once_90 (by decide) (by decide)
set_option maxRecDepth 100000 in
set_option maxHeartbeats 4000000 in
theorem k441_once {l : Launch} {s0 : State} {a0 : Array Value} {G : GT} (b0 : B0 l s0 a0 G) (q0 q1 q2 q3 q4 q5 q6 q7 q8 q9 q10 q11 q12 q13 q14 q15 q16 q17 q18 q19 q20 q21 q22 q23 q24 q25 q26 q27 q28 q29 q30 q31 q32 q33 q34 q35 q36 q37 q38 q39 q40 q41 q42 : Nat) (sz : Nat) : Ki l s0 G yX12_once cX12_once 3 (some .int) { frames := 1, cells := 0, slots := 0, locals := 20 } [.ref q0] [(q0, .inr (12, [.int 0, .int 0, .int 0, .int 0, .int 0, .int 0, .int 0, .int (-1), .ref q2, .ref q1, .ref q3, .int 0, .ref q4, .ref q5, .ref q6, .ref q7, .ref q8, .ref q9, .ref q10, .int 0, .ref q11, .ref q12, .ref q13, .ref q14, .ref q15, .ref q16, .ref q17, .int 0, .int (-1), .int 0, .ref q18, .ref q19, .ref q20, .ref q21, .ref q22, .ref q23, .ref q24, .ref q25, .int 0, .ref q26, .ref q27, .ref q28, .ref q29, .ref q30, .int 0, .ref q31, .ref q32, .ref q33, .ref q34, .int 0, .ref q35, .ref q36, .ref q37, .ref q38, .int 0, .int 0, .ref q39, .ref q40, .ref q41, .ref q42])), (q1, .inl (G.2.1, 242, .inl (fun _ => 0)))] sz 0 (fun u => [(q0, .inr (12, [.int 0, .int 0, .int 0, .int 0, .int 0, .int 0, .int 0, .int (-1), .ref q2, .ref q1, .ref q3, .int 0, .ref q4, .ref q5, .ref q6, .ref q7, .ref q8, .ref q9, .ref q10, .int 0, .ref q11, .ref q12, .ref q13, .ref q14, .ref q15, .ref q16, .ref q17, .int 0, .int (-1), .int 0, .ref q18, .ref q19, .ref q20, .ref q21, .ref q22, .ref q23, .ref q24, .ref q25, .int 0, .ref q26, .ref q27, .ref q28, .ref q29, .ref q30, .int 0, .ref q31, .ref q32, .ref q33, .ref q34, .int 0, .ref q35, .ref q36, .ref q37, .ref q38, .int 0, .int 0, .ref q39, .ref q40, .ref q41, .ref q42])), (q1, .inl (G.2.1, 242, .inl (fun _ => 0)))]) := by
  refine Ki.of b0 (own := RX12) (nm := "once") [(0, .ref q0)] rfl rfl (by decide +kernel) (Nat.le_of_ble_eq_true rfl) rfl ?_
  intro p e s m below meth c A C hr H locs w ls hl
  have hx := C.hx
  have hb := C.hb
  refine lv_aload_n hx hb dX12_once_0 rfl (lv_at hl 0 rfl) ?_
  refine lv_iconst (v := 0) hx hb dX12_once_1 (by decide) ?_
  refine r_put C w 0 rfl fl_X12_1 (Nat.le_of_ble_eq_true rfl) rfl rfl dX12_once_2 (ws2 := [(q0, .inr (12, [.int 0, .int 0, .int 0, .int 0, .int 0, .int 0, .int 0, .int (-1), .ref q2, .ref q1, .ref q3, .int 0, .ref q4, .ref q5, .ref q6, .ref q7, .ref q8, .ref q9, .ref q10, .int 0, .ref q11, .ref q12, .ref q13, .ref q14, .ref q15, .ref q16, .ref q17, .int 0, .int (-1), .int 0, .ref q18, .ref q19, .ref q20, .ref q21, .ref q22, .ref q23, .ref q24, .ref q25, .int 0, .ref q26, .ref q27, .ref q28, .ref q29, .ref q30, .int 0, .ref q31, .ref q32, .ref q33, .ref q34, .int 0, .ref q35, .ref q36, .ref q37, .ref q38, .int 0, .int 0, .ref q39, .ref q40, .ref q41, .ref q42])), (q1, .inl (G.2.1, 242, .inl (fun _ => 0)))]) rfl (fun H locs w => ?_)
  refine lv_iconst (v := 0) hx hb dX12_once_5 (by decide) ?_
  refine lv_istore_n (lv' := [(1, .int 0), (0, .ref q0)]) hx hb dX12_once_6 rfl hl (by decide) rfl (fun ls hl => ?_)
  refine lv_iconst (v := 1) hx hb dX12_once_7 (by decide) ?_
  refine lv_istore_n (lv' := [(2, .int 1), (1, .int 0), (0, .ref q0)]) hx hb dX12_once_8 rfl hl (by decide) rfl (fun ls hl => ?_)
  refine lv_iload_n hx hb dX12_once_9 rfl (lv_at hl 0 rfl) ?_
  refine lv_iconst (v := 1) hx hb dX12_once_10 (by decide) ?_
  refine lv_aload_n hx hb dX12_once_11 rfl (lv_at hl 2 rfl) ?_
  refine fin_i C w (run_V C w mv_X12_286 (k56_acts C.b0 q0 q1 q2 q3 q4 q5 q6 q7 q8 q9 q10 q11 q12 q13 q14 q15 q16 q17 q18 q19 q20 q21 q22 q23 q24 q25 q26 q27 q28 q29 q30 q31 q32 q33 q34 q35 q36 q37 q38 q39 q40 q41 q42 H.size) [0, 1] rfl rfl 0 rfl rfl (by decide) rfl hl.1 rfl (Nat.le_of_ble_eq_true rfl) dX12_once_12 (cells2 := 0) (slots2 := 0) (by decide)) [0, 1] [] rfl rfl (by decide) (cells2 := 0) (slots2 := 0) (by decide) (fun u1 H locs w => ?_)
  have w : Wd s G A [(q0, .inr (12, [.int 0, .int 0, .int 0, .int 0, .int 0, .int 0, .int 0, .int (-1), .ref q2, .ref q1, .ref q3, .int 0, .ref q4, .ref q5, .ref q6, .ref q7, .ref q8, .ref q9, .ref q10, .int 0, .ref q11, .ref q12, .ref q13, .ref q14, .ref q15, .ref q16, .ref q17, .int 0, .int (-1), .int 0, .ref q18, .ref q19, .ref q20, .ref q21, .ref q22, .ref q23, .ref q24, .ref q25, .int 0, .ref q26, .ref q27, .ref q28, .ref q29, .ref q30, .int 0, .ref q31, .ref q32, .ref q33, .ref q34, .int 0, .ref q35, .ref q36, .ref q37, .ref q38, .int 0, .int 0, .ref q39, .ref q40, .ref q41, .ref q42])), (q1, .inl (G.2.1, 242, .inl (fun _ => 0)))] H locs := w
  refine lv_ishl hx hb dX12_once_15 ?_
  refine z_i (v := 1) (by decide +kernel) ?_
  refine lv_icmp_ge (tgt := 46) hx hb dX12_once_16 (by decide) (fun _ => ?_) (fun h => absurd (by decide) h)
  refine lv_iload_n hx hb dX12_once_46 rfl (lv_at hl 1 rfl) ?_
  exact e_i C hr w (fun _ => 0) [0, 1] rfl rfl rfl dX12_once_47 (by decide) (by decide)
set_option maxRecDepth 100000 in
set_option maxHeartbeats 4000000 in
theorem k442_two {l : Launch} {s0 : State} {a0 : Array Value} {G : GT} (b0 : B0 l s0 a0 G) (q0 q1 q2 q3 q4 q5 q6 q7 q8 q9 q10 q11 q12 q13 q14 q15 q16 q17 q18 q19 q20 q21 q22 q23 q24 : Nat) (x0 : Int32) (x1 : Int32) (x2 : Int32) (sz : Nat) : Kx l s0 G yX11_two cX11_two 5 (some .boolean) { frames := 7, cells := 1, slots := 6, locals := 111 } [.ref q0, .int x0, .int x1, .int x2] [(q0, .inr (11, [.ref q2, .ref q3, .ref q4, .ref q5, .ref q6, .ref q7, .ref q8, .ref q9, .ref q1, .ref q10, .int 0, .int (-1), .int 0, .int 0, .null, .null, .null, .null, .null])), (q1, .inr (2, [.int 0, .int 0, .ref q11, .ref q12, .ref q13, .ref q14, .ref q15, .ref q16, .ref q17, .ref q18, .ref q19, .ref q20, .ref q21, .ref q22, .ref q23, .ref q24, .int 0]))] sz "java/util/NoSuchElementException" := by
  refine Kx.of b0 (own := RX11) (nm := "two") [(0, .ref q0), (1, .int x0), (2, .int x1), (3, .int x2)] rfl rfl (by decide +kernel) (Nat.le_of_ble_eq_true rfl) rfl ?_
  intro p e s m below meth c A C ht H locs w ls hl
  have hx := C.hx
  have hb := C.hb
  refine lv_aload_n hx hb dX11_two_0 rfl (lv_at hl 0 rfl) ?_
  refine lv_iload_n hx hb dX11_two_1 rfl (lv_at hl 1 rfl) ?_
  refine fin_x C w (run_Vx C w mv_X11_104 (k60_needAct C.b0 q0 q1 q2 q3 q4 q5 q6 q7 q8 q9 q10 q11 q12 q13 q14 q15 q16 q17 q18 q19 q20 q21 q22 q23 q24 x0 H.size) [0, 1] rfl rfl 0 rfl rfl (by decide) rfl hl.1 rfl (Nat.le_of_ble_eq_true rfl) dX11_two_2 (cells2 := 1) (slots2 := 6) (by decide)) [0, 1] [] rfl rfl (by decide) (cells2 := 1) (slots2 := 6) (by decide) (fun qx2 ce H locs w hce hcv hcl => ?_)
  have w : Wd s G A [(q0, .inr (11, [.ref q2, .ref q3, .ref q4, .ref q5, .ref q6, .ref q7, .ref q8, .ref q9, .ref q1, .ref q10, .int 0, .int (-1), .int 0, .int 0, .null, .null, .null, .null, .null])), (q1, .inr (2, [.int 0, .int 0, .ref q11, .ref q12, .ref q13, .ref q14, .ref q15, .ref q16, .ref q17, .ref q18, .ref q19, .ref q20, .ref q21, .ref q22, .ref q23, .ref q24, .int 0]))] H locs := w
  exact r_out C ht w [0, 1] rfl rfl hce hcv hcl (by decide) (by decide)
set_option maxRecDepth 100000 in
set_option maxHeartbeats 4000000 in
theorem k443_two {l : Launch} {s0 : State} {a0 : Array Value} {G : GT} (b0 : B0 l s0 a0 G) (q0 q1 q2 q3 q4 q5 q6 q7 q8 q9 q10 q11 q12 q13 q14 q15 q16 q17 q18 q19 q20 q21 q22 q23 q24 q25 : Nat) (x0 : Int32) (x1 : Int32) (x2 : Int32) (sz : Nat) : Kh l s0 G yL_two cL_two 6 (some .int) [(0, 19, 22, 22), (0, 19, 26, 13)] { frames := 8, cells := 1, slots := 6, locals := 135 } [.ref q0, .int x0, .int x1, .int x2, .ref q2] [(q0, .inr (11, [.ref q3, .ref q4, .ref q5, .ref q6, .ref q7, .ref q8, .ref q9, .ref q10, .ref q1, .ref q11, .int 0, .int (-1), .int 0, .int 0, .null, .null, .null, .null, .null])), (q1, .inr (2, [.int 0, .int 0, .ref q12, .ref q13, .ref q14, .ref q15, .ref q16, .ref q17, .ref q18, .ref q19, .ref q20, .ref q21, .ref q22, .ref q23, .ref q24, .ref q25, .int 0]))] sz 1 (fun u => [(q0, .inr (11, [.ref q3, .ref q4, .ref q5, .ref q6, .ref q7, .ref q8, .ref q9, .ref q10, .ref q1, .ref q11, .int 0, .int (-1), .int 0, .int 0, .null, .null, .null, .null, .null])), (q1, .inr (2, [.int 0, .int 0, .ref q12, .ref q13, .ref q14, .ref q15, .ref q16, .ref q17, .ref q18, .ref q19, .ref q20, .ref q21, .ref q22, .ref q23, .ref q24, .ref q25, .int 0]))]) := by
  refine Kh.of b0 (own := RL) (nm := "two") [(0, .ref q0), (1, .int x0), (2, .int x1), (3, .int x2), (4, .ref q2)] rfl rfl (by decide +kernel) (Nat.le_of_ble_eq_true rfl) rfl ?_
  intro p e s m below meth c A C hr ht H locs w ls hl
  have hx := C.hx
  have hb := C.hb
  refine lv_aload hx hb dL_two_0 (lv_at hl 4 rfl) ?_
  refine lv_iconst (v := 0) hx hb dL_two_2 (by decide) ?_
  refine lv_aload_n hx hb dL_two_3 rfl (lv_at hl 0 rfl) ?_
  refine lv_iload_n hx hb dL_two_4 rfl (lv_at hl 1 rfl) ?_
  refine lv_iload_n hx hb dL_two_5 rfl (lv_at hl 2 rfl) ?_
  refine lv_iload_n hx hb dL_two_6 rfl (lv_at hl 3 rfl) ?_
  refine fin_x C w (run_Vx C w mv_L_101 (k442_two C.b0 q0 q1 q3 q4 q5 q6 q7 q8 q9 q10 q11 q12 q13 q14 q15 q16 q17 q18 q19 q20 q21 q22 q23 q24 q25 x0 x1 x2 H.size) [0, 1] rfl rfl 0 rfl rfl (by decide) rfl hl.1 rfl (Nat.le_of_ble_eq_true rfl) dL_two_7 (cells2 := 1) (slots2 := 6) (by decide)) [0, 1] [] rfl rfl (by decide) (cells2 := 1) (slots2 := 6) (by decide) (fun qx2 ce H locs w hce hcv hcl => ?_)
  have w : Wd s G A [(q0, .inr (11, [.ref q3, .ref q4, .ref q5, .ref q6, .ref q7, .ref q8, .ref q9, .ref q10, .ref q1, .ref q11, .int 0, .int (-1), .int 0, .int 0, .null, .null, .null, .null, .null])), (q1, .inr (2, [.int 0, .int 0, .ref q12, .ref q13, .ref q14, .ref q15, .ref q16, .ref q17, .ref q18, .ref q19, .ref q20, .ref q21, .ref q22, .ref q23, .ref q24, .ref q25, .int 0]))] H locs := w
  refine r_catch C ht (by decide) (by decide) tl_L_22 tk_java_util_NoSuchElementException hce hcv hcl ?_
  refine lv_astore (lv' := [(5, .ref qx2), (0, .ref q0), (1, .int x0), (2, .int x1), (3, .int x2), (4, .ref q2)]) hx hb dL_two_22 hl (by decide) rfl (fun ls hl => ?_)
  refine lv_iconst (v := 1) hx hb dL_two_24 (by decide) ?_
  exact e_i C hr w (fun _ => 0) [0, 1] rfl rfl rfl dL_two_25 (by decide) (by decide)
set_option maxRecDepth 100000 in
set_option maxHeartbeats 4000000 in
theorem k444_two {l : Launch} {s0 : State} {a0 : Array Value} {G : GT} (b0 : B0 l s0 a0 G) (q0 q1 q2 q3 q4 q5 q6 q7 q8 q9 q10 q11 q12 q13 q14 q15 q16 q17 q18 q19 q20 q21 q22 q23 q24 q25 q26 q27 q28 q29 q30 q31 q32 q33 q34 q35 q36 q37 q38 q39 q40 q41 q42 : Nat) (x0 : Int32) (x1 : Int32) (x2 : Int32) (sz : Nat) : Ki l s0 G yX12_two cX12_two 4 (some .boolean) { frames := 2, cells := 0, slots := 0, locals := 44 } [.ref q0, .int x0, .int x1, .int x2] [(q0, .inr (12, [.int 0, .int 0, .int 0, .int 0, .int 0, .int 0, .int 0, .int (-1), .ref q2, .ref q1, .ref q3, .int 0, .ref q4, .ref q5, .ref q6, .ref q7, .ref q8, .ref q9, .ref q10, .int 0, .ref q11, .ref q12, .ref q13, .ref q14, .ref q15, .ref q16, .ref q17, .int 0, .int (-1), .int 0, .ref q18, .ref q19, .ref q20, .ref q21, .ref q22, .ref q23, .ref q24, .ref q25, .int 0, .ref q26, .ref q27, .ref q28, .ref q29, .ref q30, .int 0, .ref q31, .ref q32, .ref q33, .ref q34, .int 0, .ref q35, .ref q36, .ref q37, .ref q38, .int 0, .int 0, .ref q39, .ref q40, .ref q41, .ref q42])), (q1, .inl (G.2.1, 242, .inl (fun _ => 0)))] sz 0 (fun u => [(q0, .inr (12, [.int 1, .int 0, .int 0, .int 0, .int 0, .int 0, .int 0, .int (-1), .ref q2, .ref q1, .ref q3, .int 0, .ref q4, .ref q5, .ref q6, .ref q7, .ref q8, .ref q9, .ref q10, .int 0, .ref q11, .ref q12, .ref q13, .ref q14, .ref q15, .ref q16, .ref q17, .int 0, .int (-1), .int 0, .ref q18, .ref q19, .ref q20, .ref q21, .ref q22, .ref q23, .ref q24, .ref q25, .int 0, .ref q26, .ref q27, .ref q28, .ref q29, .ref q30, .int 0, .ref q31, .ref q32, .ref q33, .ref q34, .int 0, .ref q35, .ref q36, .ref q37, .ref q38, .int 0, .int 0, .ref q39, .ref q40, .ref q41, .ref q42])), (q1, .inl (G.2.1, 242, .inl (fun _ => 0)))]) := by
  refine Ki.of b0 (own := RX12) (nm := "two") [(0, .ref q0), (1, .int x0), (2, .int x1), (3, .int x2)] rfl rfl (by decide +kernel) (Nat.le_of_ble_eq_true rfl) rfl ?_
  intro p e s m below meth c A C hr H locs w ls hl
  have hx := C.hx
  have hb := C.hb
  refine lv_aload_n hx hb dX12_two_0 rfl (lv_at hl 0 rfl) ?_
  refine lv_iconst (v := 0) hx hb dX12_two_1 (by decide) ?_
  refine r_put C w 0 rfl fl_X12_1 (Nat.le_of_ble_eq_true rfl) rfl rfl dX12_two_2 (ws2 := [(q0, .inr (12, [.int 0, .int 0, .int 0, .int 0, .int 0, .int 0, .int 0, .int (-1), .ref q2, .ref q1, .ref q3, .int 0, .ref q4, .ref q5, .ref q6, .ref q7, .ref q8, .ref q9, .ref q10, .int 0, .ref q11, .ref q12, .ref q13, .ref q14, .ref q15, .ref q16, .ref q17, .int 0, .int (-1), .int 0, .ref q18, .ref q19, .ref q20, .ref q21, .ref q22, .ref q23, .ref q24, .ref q25, .int 0, .ref q26, .ref q27, .ref q28, .ref q29, .ref q30, .int 0, .ref q31, .ref q32, .ref q33, .ref q34, .int 0, .ref q35, .ref q36, .ref q37, .ref q38, .int 0, .int 0, .ref q39, .ref q40, .ref q41, .ref q42])), (q1, .inl (G.2.1, 242, .inl (fun _ => 0)))]) rfl (fun H locs w => ?_)
  refine lv_aload_n hx hb dX12_two_5 rfl (lv_at hl 0 rfl) ?_
  refine lv_iload_n hx hb dX12_two_6 rfl (lv_at hl 1 rfl) ?_
  refine lv_iconst (v := 1) hx hb dX12_two_7 (by decide) ?_
  refine fin_i C w (run_V C w mv_X12_293 (k64_isAct C.b0 q0 q1 q2 q3 q4 q5 q6 q7 q8 q9 q10 q11 q12 q13 q14 q15 q16 q17 q18 q19 q20 q21 q22 q23 q24 q25 q26 q27 q28 q29 q30 q31 q32 q33 q34 q35 q36 q37 q38 q39 q40 q41 q42 x0 H.size) [0, 1] rfl rfl 0 rfl rfl (by decide) rfl hl.1 rfl (Nat.le_of_ble_eq_true rfl) dX12_two_8 (cells2 := 0) (slots2 := 0) (by decide)) [0, 1] [] rfl rfl (by decide) (cells2 := 0) (slots2 := 0) (by decide) (fun u1 H locs w => ?_)
  have w : Wd s G A [(q0, .inr (12, [.int 1, .int 0, .int 0, .int 0, .int 0, .int 0, .int 0, .int (-1), .ref q2, .ref q1, .ref q3, .int 0, .ref q4, .ref q5, .ref q6, .ref q7, .ref q8, .ref q9, .ref q10, .int 0, .ref q11, .ref q12, .ref q13, .ref q14, .ref q15, .ref q16, .ref q17, .int 0, .int (-1), .int 0, .ref q18, .ref q19, .ref q20, .ref q21, .ref q22, .ref q23, .ref q24, .ref q25, .int 0, .ref q26, .ref q27, .ref q28, .ref q29, .ref q30, .int 0, .ref q31, .ref q32, .ref q33, .ref q34, .int 0, .ref q35, .ref q36, .ref q37, .ref q38, .int 0, .int 0, .ref q39, .ref q40, .ref q41, .ref q42])), (q1, .inl (G.2.1, 242, .inl (fun _ => 0)))] H locs := w
  refine lv_if_eq (tgt := 50) hx hb dX12_two_11 (by decide) (fun _ => ?_) (fun h => absurd (by decide) h)
  refine lv_iconst (v := 0) hx hb dX12_two_50 (by decide) ?_
  exact e_i C hr w (fun _ => 0) [0, 1] rfl rfl (by decide) dX12_two_51 (by decide) (by decide)
