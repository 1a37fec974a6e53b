set_option maxRecDepth 100000 in
set_option maxHeartbeats 4000000 in
theorem k487_within {l : Launch} {s0 : State} {a0 : Array Value} {G : GT} (b0 : B0 l s0 a0 G) (x0 : Int32) (h0 : x0 < 1) (sz : Nat) : Ki l s0 G yX12_within cX12_within 3 (some .boolean) { frames := 0, cells := 0, slots := 0, locals := 0 } [.int x0, .int 1, .int 1000] [] sz 0 (fun u => []) := by
  refine Ki.of b0 (own := RX12) (nm := "within") [(0, .int x0), (1, .int 1), (2, .int 1000)] rfl rfl (by decide +kernel) (Nat.le_of_ble_eq_true rfl) rfl ?_
  intro p e s m below meth c A C hr H locs w ls hl
  have hx := C.hx
  have hb := C.hb
  refine lv_iload_n hx hb dX12_within_0 rfl (lv_at hl 0 rfl) ?_
  refine lv_iload_n hx hb dX12_within_1 rfl (lv_at hl 1 rfl) ?_
  refine lv_icmp_lt (tgt := 14) hx hb dX12_within_2 (by decide) (fun _ => ?_) (fun h => absurd h0 h)
  refine lv_iconst (v := 0) hx hb dX12_within_14 (by decide) ?_
  exact e_i C hr w (fun _ => 0) [] rfl rfl (by decide) dX12_within_15 (by decide) (by decide)
set_option maxRecDepth 100000 in
set_option maxHeartbeats 4000000 in
theorem k488_areLots {l : Launch} {s0 : State} {a0 : Array Value} {G : GT} (b0 : B0 l s0 a0 G) (x0 : Int32) (h0 : x0 < 1) (sz : Nat) : Ki l s0 G yX12_areLots cX12_areLots 1 (some .boolean) { frames := 1, cells := 0, slots := 0, locals := 22 } [.int x0] [] sz 0 (fun u => []) := by
  refine Ki.of b0 (own := RX12) (nm := "areLots") [(0, .int x0)] rfl rfl (by decide +kernel) (Nat.le_of_ble_eq_true rfl) rfl ?_
  intro p e s m below meth c A C hr H locs w ls hl
  have hx := C.hx
  have hb := C.hb
  refine lv_iload_n hx hb dX12_areLots_0 rfl (lv_at hl 0 rfl) ?_
  refine lv_iconst (v := 1) hx hb dX12_areLots_1 (by decide) ?_
  refine lv_sipush (v := 1000) hx hb dX12_areLots_2 (by decide) ?_
  refine fin_i C w (run_S C w ms_X12_289 (k487_within C.b0 x0 h0 H.size) [] rfl rfl (by decide) rfl hl.1 rfl (Nat.le_of_ble_eq_true rfl) dX12_areLots_5 (cells2 := 0) (slots2 := 0) (by decide)) [] [] rfl rfl (by decide) (cells2 := 0) (slots2 := 0) (by decide) (fun u1 H locs w => ?_)
  have w : Wd s G A [] H locs := w
  exact e_i C hr w (fun _ => 0) [] rfl rfl (by decide) dX12_areLots_8 (by decide) (by decide)
set_option maxRecDepth 100000 in
set_option maxHeartbeats 4000000 in
theorem k489_lots {l : Launch} {s0 : State} {a0 : Array Value} {G : GT} (b0 : B0 l s0 a0 G) (q0 q1 q2 q3 q4 q5 q6 q7 q8 q9 q10 q11 q12 q13 q14 q15 q16 q17 q18 q19 q20 q21 q22 q23 q24 q25 q26 q27 q28 q29 q30 q31 q32 q33 q34 q35 q36 q37 q38 q39 q40 q41 q42 : Nat) (x0 : Int32) (x1 : Int32) (h0 : x0 < 1) (sz : Nat) : Ki l s0 G yX12_lots cX12_lots 3 (some .int) { frames := 2, cells := 0, slots := 0, locals := 42 } [.ref q0, .int x0, .int x1] [(q0, .inr (12, [.int 0, .int 0, .int 0, .int 0, .int 0, .int 0, .int 0, .int (-1), .ref q1, .ref q2, .ref q3, .int 0, .ref q4, .ref q5, .ref q6, .ref q7, .ref q8, .ref q9, .ref q10, .int 0, .ref q11, .ref q12, .ref q13, .ref q14, .ref q15, .ref q16, .ref q17, .int 0, .int (-1), .int 0, .ref q18, .ref q19, .ref q20, .ref q21, .ref q22, .ref q23, .ref q24, .ref q25, .int 0, .ref q26, .ref q27, .ref q28, .ref q29, .ref q30, .int 0, .ref q31, .ref q32, .ref q33, .ref q34, .int 0, .ref q35, .ref q36, .ref q37, .ref q38, .int 0, .int 0, .ref q39, .ref q40, .ref q41, .ref q42]))] sz 0 (fun u => [(q0, .inr (12, [.int 1, .int 0, .int 0, .int 0, .int 0, .int 0, .int 0, .int (-1), .ref q1, .ref q2, .ref q3, .int 0, .ref q4, .ref q5, .ref q6, .ref q7, .ref q8, .ref q9, .ref q10, .int 0, .ref q11, .ref q12, .ref q13, .ref q14, .ref q15, .ref q16, .ref q17, .int 0, .int (-1), .int 0, .ref q18, .ref q19, .ref q20, .ref q21, .ref q22, .ref q23, .ref q24, .ref q25, .int 0, .ref q26, .ref q27, .ref q28, .ref q29, .ref q30, .int 0, .ref q31, .ref q32, .ref q33, .ref q34, .int 0, .ref q35, .ref q36, .ref q37, .ref q38, .int 0, .int 0, .ref q39, .ref q40, .ref q41, .ref q42]))]) := by
  refine Ki.of b0 (own := RX12) (nm := "lots") [(0, .ref q0), (1, .int x0), (2, .int x1)] rfl rfl (by decide +kernel) (Nat.le_of_ble_eq_true rfl) rfl ?_
  intro p e s m below meth c A C hr H locs w ls hl
  have hx := C.hx
  have hb := C.hb
  refine lv_aload_n hx hb dX12_lots_0 rfl (lv_at hl 0 rfl) ?_
  refine lv_iconst (v := 0) hx hb dX12_lots_1 (by decide) ?_
  refine r_put C w 0 rfl fl_X12_1 (Nat.le_of_ble_eq_true rfl) rfl rfl dX12_lots_2 (ws2 := [(q0, .inr (12, [.int 0, .int 0, .int 0, .int 0, .int 0, .int 0, .int 0, .int (-1), .ref q1, .ref q2, .ref q3, .int 0, .ref q4, .ref q5, .ref q6, .ref q7, .ref q8, .ref q9, .ref q10, .int 0, .ref q11, .ref q12, .ref q13, .ref q14, .ref q15, .ref q16, .ref q17, .int 0, .int (-1), .int 0, .ref q18, .ref q19, .ref q20, .ref q21, .ref q22, .ref q23, .ref q24, .ref q25, .int 0, .ref q26, .ref q27, .ref q28, .ref q29, .ref q30, .int 0, .ref q31, .ref q32, .ref q33, .ref q34, .int 0, .ref q35, .ref q36, .ref q37, .ref q38, .int 0, .int 0, .ref q39, .ref q40, .ref q41, .ref q42]))]) rfl (fun H locs w => ?_)
  refine lv_aload_n hx hb dX12_lots_5 rfl (lv_at hl 0 rfl) ?_
  refine lv_iload_n hx hb dX12_lots_6 rfl (lv_at hl 1 rfl) ?_
  refine fin_i C w (run_S C w ms_X12_454 (k488_areLots C.b0 x0 h0 H.size) [] rfl rfl (by decide) rfl hl.1 rfl (Nat.le_of_ble_eq_true rfl) dX12_lots_7 (cells2 := 0) (slots2 := 0) (by decide)) [] [0] rfl rfl (by decide) (cells2 := 0) (slots2 := 0) (by decide) (fun u1 H locs w => ?_)
  have w : Wd s G A [(q0, .inr (12, [.int 0, .int 0, .int 0, .int 0, .int 0, .int 0, .int 0, .int (-1), .ref q1, .ref q2, .ref q3, .int 0, .ref q4, .ref q5, .ref q6, .ref q7, .ref q8, .ref q9, .ref q10, .int 0, .ref q11, .ref q12, .ref q13, .ref q14, .ref q15, .ref q16, .ref q17, .int 0, .int (-1), .int 0, .ref q18, .ref q19, .ref q20, .ref q21, .ref q22, .ref q23, .ref q24, .ref q25, .int 0, .ref q26, .ref q27, .ref q28, .ref q29, .ref q30, .int 0, .ref q31, .ref q32, .ref q33, .ref q34, .int 0, .ref q35, .ref q36, .ref q37, .ref q38, .int 0, .int 0, .ref q39, .ref q40, .ref q41, .ref q42]))] H locs := w
  refine lv_iconst (v := 1) hx hb dX12_lots_10 (by decide) ?_
  refine fin_i C w (run_V C w mv_X12_267 (k18_may C.b0 q0 q1 q2 q3 q4 q5 q6 q7 q8 q9 q10 q11 q12 q13 q14 q15 q16 q17 q18 q19 q20 q21 q22 q23 q24 q25 q26 q27 q28 q29 q30 q31 q32 q33 q34 q35 q36 q37 q38 q39 q40 q41 q42 H.size) [0] rfl rfl 0 rfl rfl (by decide) rfl hl.1 rfl (Nat.le_of_ble_eq_true rfl) dX12_lots_11 (cells2 := 0) (slots2 := 0) (by decide)) [0] [] rfl rfl (by decide) (cells2 := 0) (slots2 := 0) (by decide) (fun u2 H locs w => ?_)
  have w : Wd s G A [(q0, .inr (12, [.int 1, .int 0, .int 0, .int 0, .int 0, .int 0, .int 0, .int (-1), .ref q1, .ref q2, .ref q3, .int 0, .ref q4, .ref q5, .ref q6, .ref q7, .ref q8, .ref q9, .ref q10, .int 0, .ref q11, .ref q12, .ref q13, .ref q14, .ref q15, .ref q16, .ref q17, .int 0, .int (-1), .int 0, .ref q18, .ref q19, .ref q20, .ref q21, .ref q22, .ref q23, .ref q24, .ref q25, .int 0, .ref q26, .ref q27, .ref q28, .ref q29, .ref q30, .int 0, .ref q31, .ref q32, .ref q33, .ref q34, .int 0, .ref q35, .ref q36, .ref q37, .ref q38, .int 0, .int 0, .ref q39, .ref q40, .ref q41, .ref q42]))] H locs := w
  refine lv_if_ne (tgt := 19) hx hb dX12_lots_14 (by decide) (fun h => absurd (by decide) h) (fun _ => ?_)
  refine lv_iconst (v := 0) hx hb dX12_lots_17 (by decide) ?_
  exact e_i C hr w (fun _ => 0) [0] rfl rfl rfl dX12_lots_18 (by decide) (by decide)
set_option maxRecDepth 100000 in
set_option maxHeartbeats 4000000 in
theorem k490_needWithin {l : Launch} {s0 : State} {a0 : Array Value} {G : GT} (b0 : B0 l s0 a0 G) (x0 : Int32) (h0 : 1000 < x0) (h1 : ¬ x0 < 1) (sz : Nat) : Kx l s0 G yX11_needWithin cX11_needWithin 3 none { frames := 6, cells := 1, slots := 6, locals := 90 } [.int x0, .int 1, .int 1000] [] sz "java/lang/IllegalArgumentException" := by
  refine Kx.of b0 (own := RX11) (nm := "needWithin") [(0, .int x0), (1, .int 1), (2, .int 1000)] rfl rfl (by decide +kernel) (Nat.le_of_ble_eq_true rfl) rfl ?_
  intro p e s m below meth c A C ht H locs w ls hl
  have hx := C.hx
  have hb := C.hb
  refine lv_iload_n hx hb dX11_needWithin_0 rfl (lv_at hl 0 rfl) ?_
  refine lv_iload_n hx hb dX11_needWithin_1 rfl (lv_at hl 1 rfl) ?_
  refine lv_icmp_lt (tgt := 10) hx hb dX11_needWithin_2 (by decide) (fun h => absurd h h1) (fun _ => ?_)
  refine lv_iload_n hx hb dX11_needWithin_5 rfl (lv_at hl 0 rfl) ?_
  refine lv_iload_n hx hb dX11_needWithin_6 rfl (lv_at hl 2 rfl) ?_
  refine lv_icmp_le (tgt := 20) hx hb dX11_needWithin_7 (by decide) (fun h => absurd h (Int32.not_le.mpr h0)) (fun _ => ?_)
  exact r_throwS C ht w hl.1 th_X11_247 C.b0.2.2.2.2.2.1 dX11_needWithin_10 dX11_needWithin_13 dX11_needWithin_14 dX11_needWithin_16 dX11_needWithin_19 (by decide) (Nat.le_of_ble_eq_true rfl) (by decide) (by decide) (by decide) (by decide) [] rfl rfl
set_option maxRecDepth 100000 in
set_option maxHeartbeats 4000000 in
theorem k491_lots {l : Launch} {s0 : State} {a0 : Array Value} {G : GT} (b0 : B0 l s0 a0 G) (q0 : Nat) (x0 : Int32) (x1 : Int32) (h0 : 1000 < x0) (h1 : ¬ x0 < 1) (sz : Nat) : Kx l s0 G yX11_lots cX11_lots 3 (some .int) { frames := 7, cells := 1, slots := 6, locals := 112 } [.ref q0, .int x0, .int x1] [] sz "java/lang/IllegalArgumentException" := by
  refine Kx.of b0 (own := RX11) (nm := "lots") [(0, .ref q0), (1, .int x0), (2, .int x1)] rfl rfl (by decide +kernel) (Nat.le_of_ble_eq_true rfl) rfl ?_
  intro p e s m below meth c A C ht H locs w ls hl
  have hx := C.hx
  have hb := C.hb
  refine lv_iload_n hx hb dX11_lots_0 rfl (lv_at hl 1 rfl) ?_
  refine lv_iconst (v := 1) hx hb dX11_lots_1 (by decide) ?_
  refine lv_sipush (v := 1000) hx hb dX11_lots_2 (by decide) ?_
  refine fin_x C w (run_Sx C w ms_X11_72 (k490_needWithin C.b0 x0 h0 h1 H.size) [] rfl rfl (by decide) rfl hl.1 rfl (Nat.le_of_ble_eq_true rfl) dX11_lots_5 (cells2 := 1) (slots2 := 6) (by decide)) [] [] rfl rfl (by decide) (cells2 := 1) (slots2 := 6) (by decide) (fun qx2 ce H locs w hce hcv hcl => ?_)
  have w : Wd s G A [] H locs := w
  exact r_out C ht w [] rfl rfl hce hcv hcl (by decide) (by decide)
set_option maxRecDepth 100000 in
set_option maxHeartbeats 4000000 in
theorem k492_lots {l : Launch} {s0 : State} {a0 : Array Value} {G : GT} (b0 : B0 l s0 a0 G) (q0 q1 q2 q3 q4 q5 q6 q7 q8 q9 q10 q11 : Nat) (x0 : Int32) (x1 : Int32) (h0 : 1000 < x0) (h1 : ¬ x0 < 1) (sz : Nat) : Kh l s0 G yL_lots cL_lots 5 (some .int) [(0, 10, 13, 13)] { frames := 8, cells := 1, slots := 6, locals := 134 } [.ref q0, .int x0, .int x1, .ref q1] [(q0, .inr (11, [.ref q2, .ref q3, .ref q4, .ref q5, .ref q6, .ref q7, .ref q8, .ref q9, .ref q10, .ref q11, .int 0, .int (-1), .int 0, .int 0, .null, .null, .null, .null, .null]))] sz 1 (fun u => [(q0, .inr (11, [.ref q2, .ref q3, .ref q4, .ref q5, .ref q6, .ref q7, .ref q8, .ref q9, .ref q10, .ref q11, .int 0, .int (-1), .int 0, .int 0, .null, .null, .null, .null, .null]))]) := by
  refine Kh.of b0 (own := RL) (nm := "lots") [(0, .ref q0), (1, .int x0), (2, .int x1), (3, .ref q1)] rfl rfl (by decide +kernel) (Nat.le_of_ble_eq_true rfl) rfl ?_
  intro p e s m below meth c A C hr ht H locs w ls hl
  have hx := C.hx
  have hb := C.hb
  refine lv_aload_n hx hb dL_lots_0 rfl (lv_at hl 3 rfl) ?_
  refine lv_iconst (v := 0) hx hb dL_lots_1 (by decide) ?_
  refine lv_aload_n hx hb dL_lots_2 rfl (lv_at hl 0 rfl) ?_
  refine lv_iload_n hx hb dL_lots_3 rfl (lv_at hl 1 rfl) ?_
  refine lv_iload_n hx hb dL_lots_4 rfl (lv_at hl 2 rfl) ?_
  refine fin_x C w (run_Vx C w mv_L_117 (k491_lots C.b0 q0 x0 x1 h0 h1 H.size) [] rfl rfl 0 rfl rfl (by decide) rfl hl.1 rfl (Nat.le_of_ble_eq_true rfl) dL_lots_5 (cells2 := 1) (slots2 := 6) (by decide)) [] [0] rfl rfl (by decide) (cells2 := 1) (slots2 := 6) (by decide) (fun qx2 ce H locs w hce hcv hcl => ?_)
  have w : Wd s G A [(q0, .inr (11, [.ref q2, .ref q3, .ref q4, .ref q5, .ref q6, .ref q7, .ref q8, .ref q9, .ref q10, .ref q11, .int 0, .int (-1), .int 0, .int 0, .null, .null, .null, .null, .null]))] H locs := w
  refine r_catch C ht (by decide) (by decide) tl_L_13 tk_java_lang_IllegalArgumentException hce hcv hcl ?_
  refine lv_astore (lv' := [(4, .ref qx2), (0, .ref q0), (1, .int x0), (2, .int x1), (3, .ref q1)]) hx hb dL_lots_13 hl (by decide) rfl (fun ls hl => ?_)
  refine lv_iconst (v := 1) hx hb dL_lots_15 (by decide) ?_
  exact e_i C hr w (fun _ => 0) [0] rfl rfl rfl dL_lots_16 (by decide) (by decide)
set_option maxRecDepth 100000 in
set_option maxHeartbeats 4000000 in
theorem k493_within {l : Launch} {s0 : State} {a0 : Array Value} {G : GT} (b0 : B0 l s0 a0 G) (x0 : Int32) (h0 : 1000 < x0) (h1 : ¬ x0 < 1) (sz : Nat) : Ki l s0 G yX12_within cX12_within 3 (some .boolean) { frames := 0, cells := 0, slots := 0, locals := 0 } [.int x0, .int 1, .int 1000] [] sz 0 (fun u => []) := by
  refine Ki.of b0 (own := RX12) (nm := "within") [(0, .int x0), (1, .int 1), (2, .int 1000)] rfl rfl (by decide +kernel) (Nat.le_of_ble_eq_true rfl) rfl ?_
  intro p e s m below meth c A C hr H locs w ls hl
  have hx := C.hx
  have hb := C.hb
  refine lv_iload_n hx hb dX12_within_0 rfl (lv_at hl 0 rfl) ?_
  refine lv_iload_n hx hb dX12_within_1 rfl (lv_at hl 1 rfl) ?_
  refine lv_icmp_lt (tgt := 14) hx hb dX12_within_2 (by decide) (fun h => absurd h h1) (fun _ => ?_)
  refine lv_iload_n hx hb dX12_within_5 rfl (lv_at hl 0 rfl) ?_
  refine lv_iload_n hx hb dX12_within_6 rfl (lv_at hl 2 rfl) ?_
  refine lv_icmp_gt (tgt := 14) hx hb dX12_within_7 (by decide) (fun _ => ?_) (fun h => absurd h0 h)
  refine lv_iconst (v := 0) hx hb dX12_within_14 (by decide) ?_
  exact e_i C hr w (fun _ => 0) [] rfl rfl (by decide) dX12_within_15 (by decide) (by decide)
set_option maxRecDepth 100000 in
set_option maxHeartbeats 4000000 in
theorem k494_areLots {l : Launch} {s0 : State} {a0 : Array Value} {G : GT} (b0 : B0 l s0 a0 G) (x0 : Int32) (h0 : 1000 < x0) (h1 : ¬ x0 < 1) (sz : Nat) : Ki l s0 G yX12_areLots cX12_areLots 1 (some .boolean) { frames := 1, cells := 0, slots := 0, locals := 22 } [.int x0] [] sz 0 (fun u => []) := by
  refine Ki.of b0 (own := RX12) (nm := "areLots") [(0, .int x0)] rfl rfl (by decide +kernel) (Nat.le_of_ble_eq_true rfl) rfl ?_
  intro p e s m below meth c A C hr H locs w ls hl
  have hx := C.hx
  have hb := C.hb
  refine lv_iload_n hx hb dX12_areLots_0 rfl (lv_at hl 0 rfl) ?_
  refine lv_iconst (v := 1) hx hb dX12_areLots_1 (by decide) ?_
  refine lv_sipush (v := 1000) hx hb dX12_areLots_2 (by decide) ?_
  refine fin_i C w (run_S C w ms_X12_289 (k493_within C.b0 x0 h0 h1 H.size) [] rfl rfl (by decide) rfl hl.1 rfl (Nat.le_of_ble_eq_true rfl) dX12_areLots_5 (cells2 := 0) (slots2 := 0) (by decide)) [] [] rfl rfl (by decide) (cells2 := 0) (slots2 := 0) (by decide) (fun u1 H locs w => ?_)
  have w : Wd s G A [] H locs := w
  exact e_i C hr w (fun _ => 0) [] rfl rfl (by decide) dX12_areLots_8 (by decide) (by decide)
set_option maxRecDepth 100000 in
set_option maxHeartbeats 4000000 in
theorem k495_lots {l : Launch} {s0 : State} {a0 : Array Value} {G : GT} (b0 : B0 l s0 a0 G) (q0 q1 q2 q3 q4 q5 q6 q7 q8 q9 q10 q11 q12 q13 q14 q15 q16 q17 q18 q19 q20 q21 q22 q23 q24 q25 q26 q27 q28 q29 q30 q31 q32 q33 q34 q35 q36 q37 q38 q39 q40 q41 q42 : Nat) (x0 : Int32) (x1 : Int32) (h0 : 1000 < x0) (h1 : ¬ x0 < 1) (sz : Nat) : Ki l s0 G yX12_lots cX12_lots 3 (some .int) { frames := 2, cells := 0, slots := 0, locals := 42 } [.ref q0, .int x0, .int x1] [(q0, .inr (12, [.int 0, .int 0, .int 0, .int 0, .int 0, .int 0, .int 0, .int (-1), .ref q1, .ref q2, .ref q3, .int 0, .ref q4, .ref q5, .ref q6, .ref q7, .ref q8, .ref q9, .ref q10, .int 0, .ref q11, .ref q12, .ref q13, .ref q14, .ref q15, .ref q16, .ref q17, .int 0, .int (-1), .int 0, .ref q18, .ref q19, .ref q20, .ref q21, .ref q22, .ref q23, .ref q24, .ref q25, .int 0, .ref q26, .ref q27, .ref q28, .ref q29, .ref q30, .int 0, .ref q31, .ref q32, .ref q33, .ref q34, .int 0, .ref q35, .ref q36, .ref q37, .ref q38, .int 0, .int 0, .ref q39, .ref q40, .ref q41, .ref q42]))] sz 0 (fun u => [(q0, .inr (12, [.int 1, .int 0, .int 0, .int 0, .int 0, .int 0, .int 0, .int (-1), .ref q1, .ref q2, .ref q3, .int 0, .ref q4, .ref q5, .ref q6, .ref q7, .ref q8, .ref q9, .ref q10, .int 0, .ref q11, .ref q12, .ref q13, .ref q14, .ref q15, .ref q16, .ref q17, .int 0, .int (-1), .int 0, .ref q18, .ref q19, .ref q20, .ref q21, .ref q22, .ref q23, .ref q24, .ref q25, .int 0, .ref q26, .ref q27, .ref q28, .ref q29, .ref q30, .int 0, .ref q31, .ref q32, .ref q33, .ref q34, .int 0, .ref q35, .ref q36, .ref q37, .ref q38, .int 0, .int 0, .ref q39, .ref q40, .ref q41, .ref q42]))]) := by
  refine Ki.of b0 (own := RX12) (nm := "lots") [(0, .ref q0), (1, .int x0), (2, .int x1)] rfl rfl (by decide +kernel) (Nat.le_of_ble_eq_true rfl) rfl ?_
  intro p e s m below meth c A C hr H locs w ls hl
  have hx := C.hx
  have hb := C.hb
  refine lv_aload_n hx hb dX12_lots_0 rfl (lv_at hl 0 rfl) ?_
  refine lv_iconst (v := 0) hx hb dX12_lots_1 (by decide) ?_
  refine r_put C w 0 rfl fl_X12_1 (Nat.le_of_ble_eq_true rfl) rfl rfl dX12_lots_2 (ws2 := [(q0, .inr (12, [.int 0, .int 0, .int 0, .int 0, .int 0, .int 0, .int 0, .int (-1), .ref q1, .ref q2, .ref q3, .int 0, .ref q4, .ref q5, .ref q6, .ref q7, .ref q8, .ref q9, .ref q10, .int 0, .ref q11, .ref q12, .ref q13, .ref q14, .ref q15, .ref q16, .ref q17, .int 0, .int (-1), .int 0, .ref q18, .ref q19, .ref q20, .ref q21, .ref q22, .ref q23, .ref q24, .ref q25, .int 0, .ref q26, .ref q27, .ref q28, .ref q29, .ref q30, .int 0, .ref q31, .ref q32, .ref q33, .ref q34, .int 0, .ref q35, .ref q36, .ref q37, .ref q38, .int 0, .int 0, .ref q39, .ref q40, .ref q41, .ref q42]))]) rfl (fun H locs w => ?_)
  refine lv_aload_n hx hb dX12_lots_5 rfl (lv_at hl 0 rfl) ?_
  refine lv_iload_n hx hb dX12_lots_6 rfl (lv_at hl 1 rfl) ?_
  refine fin_i C w (run_S C w ms_X12_454 (k494_areLots C.b0 x0 h0 h1 H.size) [] rfl rfl (by decide) rfl hl.1 rfl (Nat.le_of_ble_eq_true rfl) dX12_lots_7 (cells2 := 0) (slots2 := 0) (by decide)) [] [0] rfl rfl (by decide) (cells2 := 0) (slots2 := 0) (by decide) (fun u1 H locs w => ?_)
  have w : Wd s G A [(q0, .inr (12, [.int 0, .int 0, .int 0, .int 0, .int 0, .int 0, .int 0, .int (-1), .ref q1, .ref q2, .ref q3, .int 0, .ref q4, .ref q5, .ref q6, .ref q7, .ref q8, .ref q9, .ref q10, .int 0, .ref q11, .ref q12, .ref q13, .ref q14, .ref q15, .ref q16, .ref q17, .int 0, .int (-1), .int 0, .ref q18, .ref q19, .ref q20, .ref q21, .ref q22, .ref q23, .ref q24, .ref q25, .int 0, .ref q26, .ref q27, .ref q28, .ref q29, .ref q30, .int 0, .ref q31, .ref q32, .ref q33, .ref q34, .int 0, .ref q35, .ref q36, .ref q37, .ref q38, .int 0, .int 0, .ref q39, .ref q40, .ref q41, .ref q42]))] H locs := w
  refine lv_iconst (v := 1) hx hb dX12_lots_10 (by decide) ?_
  refine fin_i C w (run_V C w mv_X12_267 (k18_may C.b0 q0 q1 q2 q3 q4 q5 q6 q7 q8 q9 q10 q11 q12 q13 q14 q15 q16 q17 q18 q19 q20 q21 q22 q23 q24 q25 q26 q27 q28 q29 q30 q31 q32 q33 q34 q35 q36 q37 q38 q39 q40 q41 q42 H.size) [0] rfl rfl 0 rfl rfl (by decide) rfl hl.1 rfl (Nat.le_of_ble_eq_true rfl) dX12_lots_11 (cells2 := 0) (slots2 := 0) (by decide)) [0] [] rfl rfl (by decide) (cells2 := 0) (slots2 := 0) (by decide) (fun u2 H locs w => ?_)
  have w : Wd s G A [(q0, .inr (12, [.int 1, .int 0, .int 0, .int 0, .int 0, .int 0, .int 0, .int (-1), .ref q1, .ref q2, .ref q3, .int 0, .ref q4, .ref q5, .ref q6, .ref q7, .ref q8, .ref q9, .ref q10, .int 0, .ref q11, .ref q12, .ref q13, .ref q14, .ref q15, .ref q16, .ref q17, .int 0, .int (-1), .int 0, .ref q18, .ref q19, .ref q20, .ref q21, .ref q22, .ref q23, .ref q24, .ref q25, .int 0, .ref q26, .ref q27, .ref q28, .ref q29, .ref q30, .int 0, .ref q31, .ref q32, .ref q33, .ref q34, .int 0, .ref q35, .ref q36, .ref q37, .ref q38, .int 0, .int 0, .ref q39, .ref q40, .ref q41, .ref q42]))] H locs := w
  refine lv_if_ne (tgt := 19) hx hb dX12_lots_14 (by decide) (fun h => absurd (by decide) h) (fun _ => ?_)
  refine lv_iconst (v := 0) hx hb dX12_lots_17 (by decide) ?_
  exact e_i C hr w (fun _ => 0) [0] rfl rfl rfl dX12_lots_18 (by decide) (by decide)
set_option maxRecDepth 100000 in
set_option maxHeartbeats 4000000 in
theorem k496_needWithin {l : Launch} {s0 : State} {a0 : Array Value} {G : GT} (b0 : B0 l s0 a0 G) (x0 : Int32) (h0 : ¬ 1000 < x0) (h1 : ¬ x0 < 1) (sz : Nat) : Kv l s0 G yX11_needWithin cX11_needWithin 3 none { frames := 0, cells := 0, slots := 0, locals := 0 } [.int x0, .int 1, .int 1000] [] sz (fun u => []) := by
  refine Kv.of b0 (own := RX11) (nm := "needWithin") [(0, .int x0), (1, .int 1), (2, .int 1000)] rfl rfl (by decide +kernel) (Nat.le_of_ble_eq_true rfl) rfl ?_
  intro p e s m below meth c A C hr H locs w ls hl
  have hx := C.hx
  have hb := C.hb
  refine lv_iload_n hx hb dX11_needWithin_0 rfl (lv_at hl 0 rfl) ?_
  refine lv_iload_n hx hb dX11_needWithin_1 rfl (lv_at hl 1 rfl) ?_
  refine lv_icmp_lt (tgt := 10) hx hb dX11_needWithin_2 (by decide) (fun h => absurd h h1) (fun _ => ?_)
  refine lv_iload_n hx hb dX11_needWithin_5 rfl (lv_at hl 0 rfl) ?_
  refine lv_iload_n hx hb dX11_needWithin_6 rfl (lv_at hl 2 rfl) ?_
  refine lv_icmp_le (tgt := 20) hx hb dX11_needWithin_7 (by decide) (fun _ => ?_) (fun h => absurd (Int32.not_lt.mp h0) h)
  exact e_v C hr w (fun _ => 0) [] rfl rfl dX11_needWithin_20 (by decide) (by decide)
set_option maxRecDepth 100000 in
set_option maxHeartbeats 4000000 in
theorem k497_init {l : Launch} {s0 : State} {a0 : Array Value} {G : GT} (b0 : B0 l s0 a0 G) (q0 : Nat) (sz : Nat) : Kv l s0 G yX7_init cX7_init 4 none { frames := 1, cells := 2, slots := 32192, locals := 12 } [.ref q0, .int 8, .int 3000, .int 8192] [(q0, .inr (7, [.null, .int 0, .int 0, .int 0, .null]))] sz (fun u => [(q0, .inr (7, [.ref (u 0), .int 0, .int 0, .int 3000, .ref (u 1)])), ((u 0), .inl (G.2.1, 24000, .inl (fun _ => 0))), ((u 1), .inl (G.2.1, 8192, .inl (fun _ => 0)))]) := by
  refine Kv.of b0 (own := RX7) (nm := "<init>") [(0, .ref q0), (1, .int 8), (2, .int 3000), (3, .int 8192)] rfl rfl (by decide +kernel) (Nat.le_of_ble_eq_true rfl) rfl ?_
  intro p e s m below meth c A C hr H locs w ls hl
  have hx := C.hx
  have hb := C.hb
  refine lv_aload_n hx hb dX7_init_0 rfl (lv_at hl 0 rfl) ?_
  refine r_obj C to_X7_3 hl.1 (by decide) (Nat.le_of_ble_eq_true rfl) dX7_init_1 ?_
  refine lv_aload_n hx hb dX7_init_4 rfl (lv_at hl 0 rfl) ?_
  refine lv_iload_n hx hb dX7_init_5 rfl (lv_at hl 1 rfl) ?_
  refine lv_iload_n hx hb dX7_init_6 rfl (lv_at hl 2 rfl) ?_
  refine lv_imul hx hb dX7_init_7 ?_
  refine z_i (v := 24000) (by decide +kernel) ?_
  refine r_newI C w (N := 24000) (cells2 := 1) (slots2 := 24000) (by decide +kernel) ⟨by decide, by decide, by decide, by decide⟩ dX7_init_8 (fun q1 H w => ?_)
  have w : Wd s G A [(q0, .inr (7, [.null, .int 0, .int 0, .int 0, .null])), (q1, .inl (G.2.1, 24000, .inl (fun _ => 0)))] H locs := w
  refine r_putF C w 0 rfl fl_X7_9 (Nat.le_of_ble_eq_true rfl) rfl rfl dX7_init_10 (ws2 := [(q0, .inr (7, [.ref q1, .int 0, .int 0, .int 0, .null])), (q1, .inl (G.2.1, 24000, .inl (fun _ => 0)))]) rfl (fun H locs w => ?_)
  refine lv_aload_n hx hb dX7_init_13 rfl (lv_at hl 0 rfl) ?_
  refine lv_iload_n hx hb dX7_init_14 rfl (lv_at hl 2 rfl) ?_
  refine r_putF C w 0 rfl fl_X7_15 (Nat.le_of_ble_eq_true rfl) rfl rfl dX7_init_15 (ws2 := [(q0, .inr (7, [.ref q1, .int 0, .int 0, .int 3000, .null])), (q1, .inl (G.2.1, 24000, .inl (fun _ => 0)))]) rfl (fun H locs w => ?_)
  refine lv_aload_n hx hb dX7_init_18 rfl (lv_at hl 0 rfl) ?_
  refine lv_iload_n hx hb dX7_init_19 rfl (lv_at hl 3 rfl) ?_
  refine r_newI C w (N := 8192) (cells2 := 2) (slots2 := 32192) (by decide +kernel) ⟨by decide, by decide, by decide, by decide⟩ dX7_init_20 (fun q2 H w => ?_)
  have w : Wd s G A [(q0, .inr (7, [.ref q1, .int 0, .int 0, .int 3000, .null])), (q1, .inl (G.2.1, 24000, .inl (fun _ => 0))), (q2, .inl (G.2.1, 8192, .inl (fun _ => 0)))] H locs := w
  refine r_putF C w 0 rfl fl_X7_19 (Nat.le_of_ble_eq_true rfl) rfl rfl dX7_init_22 (ws2 := [(q0, .inr (7, [.ref q1, .int 0, .int 0, .int 3000, .ref q2])), (q1, .inl (G.2.1, 24000, .inl (fun _ => 0))), (q2, .inl (G.2.1, 8192, .inl (fun _ => 0)))]) rfl (fun H locs w => ?_)
  exact e_v C hr w (fun k => [q1, q2].getD k 0) [0, 1, 2] rfl rfl dX7_init_25 (by decide) (by decide)
set_option maxRecDepth 100000 in
set_option maxHeartbeats 4000000 in
theorem k498_init {l : Launch} {s0 : State} {a0 : Array Value} {G : GT} (b0 : B0 l s0 a0 G) (q0 : Nat) (sz : Nat) : Kv l s0 G yX9_init cX9_init 1 none { frames := 2, cells := 4, slots := 32205, locals := 35 } [.ref q0] [(q0, .inr (9, [.int 0, .int 0, .int 0, .int 0, .int 0, .null, .null]))] sz (fun u => [(q0, .inr (9, [.int (-1), .int 0, .int 0, .int 0, .int 0, .ref (u 0), .ref (u 1)])), ((u 0), .inl (G.2.1, 8, .inl (fun _ => 0))), ((u 1), .inr (7, [.ref (u 2), .int 0, .int 0, .int 3000, .ref (u 3)])), ((u 2), .inl (G.2.1, 24000, .inl (fun _ => 0))), ((u 3), .inl (G.2.1, 8192, .inl (fun _ => 0)))]) := by
  refine Kv.of b0 (own := RX9) (nm := "<init>") [(0, .ref q0)] rfl rfl (by decide +kernel) (Nat.le_of_ble_eq_true rfl) rfl ?_
  intro p e s m below meth c A C hr H locs w ls hl
  have hx := C.hx
  have hb := C.hb
  refine lv_aload_n hx hb dX9_init_0 rfl (lv_at hl 0 rfl) ?_
  refine r_obj C to_X9_3 hl.1 (by decide) (Nat.le_of_ble_eq_true rfl) dX9_init_1 ?_
  refine lv_aload_n hx hb dX9_init_4 rfl (lv_at hl 0 rfl) ?_
  refine lv_iconst (v := (-1)) hx hb dX9_init_5 (by decide) ?_
  refine r_put C w 0 rfl fl_X9_9 (Nat.le_of_ble_eq_true rfl) rfl rfl dX9_init_6 (ws2 := [(q0, .inr (9, [.int (-1), .int 0, .int 0, .int 0, .int 0, .null, .null]))]) rfl (fun H locs w => ?_)
  refine lv_aload_n hx hb dX9_init_9 rfl (lv_at hl 0 rfl) ?_
  refine lv_bipush (v := 8) hx hb dX9_init_10 (by decide) ?_
  refine r_newI C w (N := 8) (cells2 := 1) (slots2 := 8) (by decide +kernel) ⟨by decide, by decide, by decide, by decide⟩ dX9_init_12 (fun q1 H w => ?_)
  have w : Wd s G A [(q0, .inr (9, [.int (-1), .int 0, .int 0, .int 0, .int 0, .null, .null])), (q1, .inl (G.2.1, 8, .inl (fun _ => 0)))] H locs := w
  refine r_putF C w 0 rfl fl_X9_15 (Nat.le_of_ble_eq_true rfl) rfl rfl dX9_init_14 (ws2 := [(q0, .inr (9, [.int (-1), .int 0, .int 0, .int 0, .int 0, .ref q1, .null])), (q1, .inl (G.2.1, 8, .inl (fun _ => 0)))]) rfl (fun H locs w => ?_)
  refine lv_aload_n hx hb dX9_init_17 rfl (lv_at hl 0 rfl) ?_
  refine r_new C w (cells2 := 2) (slots2 := 13) no_X9_19 ⟨by decide, by decide, by decide, by decide⟩ dX9_init_18 (fun q2 H w => ?_)
  have w : Wd s G A [(q0, .inr (9, [.int (-1), .int 0, .int 0, .int 0, .int 0, .ref q1, .null])), (q1, .inl (G.2.1, 8, .inl (fun _ => 0))), (q2, .inr (7, [.null, .int 0, .int 0, .int 0, .null]))] H locs := w
  refine lv_dup hx hb dX9_init_21 rfl ?_
  refine lv_bipush (v := 8) hx hb dX9_init_22 (by decide) ?_
  refine lv_sipush (v := 3000) hx hb dX9_init_24 (by decide) ?_
  refine lv_sipush (v := 8192) hx hb dX9_init_27 (by decide) ?_
  refine fin_v C w (run_I C w mi_X9_21 (k497_init C.b0 q2 H.size) [2] rfl rfl (by decide) rfl hl.1 rfl (Nat.le_of_ble_eq_true rfl) dX9_init_30 (cells2 := 4) (slots2 := 32205) (by decide)) [2] [0, 1] rfl rfl (by decide) (cells2 := 4) (slots2 := 32205) (by decide) (fun u3 H locs w => ?_)
  have w : Wd s G A [(q0, .inr (9, [.int (-1), .int 0, .int 0, .int 0, .int 0, .ref q1, .null])), (q1, .inl (G.2.1, 8, .inl (fun _ => 0))), (q2, .inr (7, [.ref (u3 0), .int 0, .int 0, .int 3000, .ref (u3 1)])), ((u3 0), .inl (G.2.1, 24000, .inl (fun _ => 0))), ((u3 1), .inl (G.2.1, 8192, .inl (fun _ => 0)))] H locs := w
  refine r_putF C w 0 rfl fl_X9_24 (Nat.le_of_ble_eq_true rfl) rfl rfl dX9_init_33 (ws2 := [(q0, .inr (9, [.int (-1), .int 0, .int 0, .int 0, .int 0, .ref q1, .ref q2])), (q1, .inl (G.2.1, 8, .inl (fun _ => 0))), (q2, .inr (7, [.ref (u3 0), .int 0, .int 0, .int 3000, .ref (u3 1)])), ((u3 0), .inl (G.2.1, 24000, .inl (fun _ => 0))), ((u3 1), .inl (G.2.1, 8192, .inl (fun _ => 0)))]) rfl (fun H locs w => ?_)
  exact e_v C hr w (fun k => [q1, q2, (u3 0), (u3 1)].getD k 0) [0, 1, 2, 3, 4] rfl rfl dX9_init_36 (by decide) (by decide)
set_option maxRecDepth 100000 in
set_option maxHeartbeats 4000000 in
theorem k499_walker {l : Launch} {s0 : State} {a0 : Array Value} {G : GT} (b0 : B0 l s0 a0 G) (q0 q1 q2 q3 q4 q5 q6 q7 q8 q9 q10 : Nat) (sz : Nat) : Kr l s0 G yX11_walker cX11_walker 1 (some (.object "TokenHall$Walk")) { frames := 3, cells := 5, slots := 32212, locals := 55 } [.ref q0] [(q0, .inr (11, [.ref q1, .ref q2, .ref q3, .ref q4, .ref q5, .ref q6, .ref q7, .ref q8, .ref q9, .ref q10, .int 0, .int (-1), .int 0, .int 0, .null, .null, .null, .null, .null]))] sz (fun u => (u 0)) (fun u => [(q0, .inr (11, [.ref q1, .ref q2, .ref q3, .ref q4, .ref q5, .ref q6, .ref q7, .ref q8, .ref q9, .ref q10, .int 0, .int (-1), .int 0, .int 0, .null, .null, .null, .null, .ref (u 0)])), ((u 0), .inr (9, [.int (-1), .int 0, .int 0, .int 0, .int 0, .ref (u 1), .ref (u 2)])), ((u 1), .inl (G.2.1, 8, .inl (fun _ => 0))), ((u 2), .inr (7, [.ref (u 3), .int 0, .int 0, .int 3000, .ref (u 4)])), ((u 3), .inl (G.2.1, 24000, .inl (fun _ => 0))), ((u 4), .inl (G.2.1, 8192, .inl (fun _ => 0)))]) := by
  refine Kr.of b0 (own := RX11) (nm := "walker") [(0, .ref q0)] rfl rfl (by decide +kernel) (Nat.le_of_ble_eq_true rfl) rfl ?_
  intro p e s m below meth c A C hr H locs w ls hl
  have hx := C.hx
  have hb := C.hb
  refine lv_aload_n hx hb dX11_walker_0 rfl (lv_at hl 0 rfl) ?_
  refine r_get C w 0 rfl fr_X11_410 rfl dX11_walker_1 ?_
  refine lv_ifnonnullN hx hb dX11_walker_4 ?_
  refine lv_aload_n hx hb dX11_walker_7 rfl (lv_at hl 0 rfl) ?_
  refine r_new C w (cells2 := 1) (slots2 := 7) no_X11_319 ⟨by decide, by decide, by decide, by decide⟩ dX11_walker_8 (fun q1 H w => ?_)
  have w : Wd s G A [(q0, .inr (11, [.ref q1, .ref q2, .ref q3, .ref q4, .ref q5, .ref q6, .ref q7, .ref q8, .ref q9, .ref q10, .int 0, .int (-1), .int 0, .int 0, .null, .null, .null, .null, .null])), (q1, .inr (9, [.int 0, .int 0, .int 0, .int 0, .int 0, .null, .null]))] H locs := w
  refine lv_dup hx hb dX11_walker_11 rfl ?_
  refine fin_v C w (run_N C w mn_X11_414 (k498_init C.b0 q1 H.size) [1] rfl rfl (by decide) rfl hl.1 rfl (Nat.le_of_ble_eq_true rfl) dX11_walker_12 (cells2 := 5) (slots2 := 32212) (by decide)) [1] [0] rfl rfl (by decide) (cells2 := 5) (slots2 := 32212) (by decide) (fun u2 H locs w => ?_)
  have w : Wd s G A [(q0, .inr (11, [.ref q1, .ref q2, .ref q3, .ref q4, .ref q5, .ref q6, .ref q7, .ref q8, .ref q9, .ref q10, .int 0, .int (-1), .int 0, .int 0, .null, .null, .null, .null, .null])), (q1, .inr (9, [.int (-1), .int 0, .int 0, .int 0, .int 0, .ref (u2 0), .ref (u2 1)])), ((u2 0), .inl (G.2.1, 8, .inl (fun _ => 0))), ((u2 1), .inr (7, [.ref (u2 2), .int 0, .int 0, .int 3000, .ref (u2 3)])), ((u2 2), .inl (G.2.1, 24000, .inl (fun _ => 0))), ((u2 3), .inl (G.2.1, 8192, .inl (fun _ => 0)))] H locs := w
  refine r_put C w 0 rfl fl_X11_410 (Nat.le_of_ble_eq_true rfl) rfl rfl dX11_walker_15 (ws2 := [(q0, .inr (11, [.ref q1, .ref q2, .ref q3, .ref q4, .ref q5, .ref q6, .ref q7, .ref q8, .ref q9, .ref q10, .int 0, .int (-1), .int 0, .int 0, .null, .null, .null, .null, .ref q1])), (q1, .inr (9, [.int (-1), .int 0, .int 0, .int 0, .int 0, .ref (u2 0), .ref (u2 1)])), ((u2 0), .inl (G.2.1, 8, .inl (fun _ => 0))), ((u2 1), .inr (7, [.ref (u2 2), .int 0, .int 0, .int 3000, .ref (u2 3)])), ((u2 2), .inl (G.2.1, 24000, .inl (fun _ => 0))), ((u2 3), .inl (G.2.1, 8192, .inl (fun _ => 0)))]) rfl (fun H locs w => ?_)
  refine lv_aload_n hx hb dX11_walker_18 rfl (lv_at hl 0 rfl) ?_
  refine r_get C w 0 rfl fr_X11_410 rfl dX11_walker_19 ?_
  exact e_r C hr w (fun k => [q1, (u2 0), (u2 1), (u2 2), (u2 3)].getD k 0) [0, 1, 2, 3, 4, 5] rfl rfl rfl dX11_walker_22 (by decide) (by decide)
set_option maxRecDepth 100000 in
set_option maxHeartbeats 4000000 in
theorem k500_bitCount {l : Launch} {s0 : State} {a0 : Array Value} {G : GT} (b0 : B0 l s0 a0 G) (sz : Nat) : Ki l s0 G yJ6_bitCount_0f7a4 cJ6_bitCount_0f7a4 1 (some .int) { frames := 0, cells := 0, slots := 0, locals := 0 } [.int 0] [] sz 0 (fun u => []) := by
  refine Ki.of b0 (own := RJ6) (nm := "bitCount") [(0, .int 0)] rfl rfl (by decide +kernel) (Nat.le_of_ble_eq_true rfl) rfl ?_
  intro p e s m below meth c A C hr H locs w ls hl
  have hx := C.hx
  have hb := C.hb
  refine lv_iload_n hx hb dJ6_bitCount_0f7a4_0 rfl (lv_at hl 0 rfl) ?_
  refine lv_iload_n hx hb dJ6_bitCount_0f7a4_1 rfl (lv_at hl 0 rfl) ?_
  refine lv_iconst (v := 1) hx hb dJ6_bitCount_0f7a4_2 (by decide) ?_
  refine lv_iushr (v := 0) hx hb dJ6_bitCount_0f7a4_3 (by decide +kernel) ?_
  refine lv_ldcw hx hb C.hown (C.word tc_J6_265 rfl) dJ6_bitCount_0f7a4_4 ?_
  refine lv_iand hx hb dJ6_bitCount_0f7a4_7 ?_
  refine z_i (v := 0) (by decide +kernel) ?_
  refine lv_isub hx hb dJ6_bitCount_0f7a4_8 ?_
  refine z_i (v := 0) (by decide +kernel) ?_
  refine lv_istore_n (lv' := [(0, .int 0)]) hx hb dJ6_bitCount_0f7a4_9 rfl hl (by decide) rfl (fun ls hl => ?_)
  refine lv_iload_n hx hb dJ6_bitCount_0f7a4_10 rfl (lv_at hl 0 rfl) ?_
  refine lv_ldcw hx hb C.hown (C.word tc_J6_266 rfl) dJ6_bitCount_0f7a4_11 ?_
  refine lv_iand hx hb dJ6_bitCount_0f7a4_14 ?_
  refine z_i (v := 0) (by decide +kernel) ?_
  refine lv_iload_n hx hb dJ6_bitCount_0f7a4_15 rfl (lv_at hl 0 rfl) ?_
  refine lv_iconst (v := 2) hx hb dJ6_bitCount_0f7a4_16 (by decide) ?_
  refine lv_iushr (v := 0) hx hb dJ6_bitCount_0f7a4_17 (by decide +kernel) ?_
  refine lv_ldcw hx hb C.hown (C.word tc_J6_266 rfl) dJ6_bitCount_0f7a4_18 ?_
  refine lv_iand hx hb dJ6_bitCount_0f7a4_21 ?_
  refine z_i (v := 0) (by decide +kernel) ?_
  refine lv_iadd hx hb dJ6_bitCount_0f7a4_22 ?_
  refine z_i (v := 0) (by decide +kernel) ?_
  refine lv_istore_n (lv' := [(0, .int 0)]) hx hb dJ6_bitCount_0f7a4_23 rfl hl (by decide) rfl (fun ls hl => ?_)
  refine lv_iload_n hx hb dJ6_bitCount_0f7a4_24 rfl (lv_at hl 0 rfl) ?_
  refine lv_iload_n hx hb dJ6_bitCount_0f7a4_25 rfl (lv_at hl 0 rfl) ?_
  refine lv_iconst (v := 4) hx hb dJ6_bitCount_0f7a4_26 (by decide) ?_
  refine lv_iushr (v := 0) hx hb dJ6_bitCount_0f7a4_27 (by decide +kernel) ?_
  refine lv_iadd hx hb dJ6_bitCount_0f7a4_28 ?_
  refine z_i (v := 0) (by decide +kernel) ?_
  refine lv_ldcw hx hb C.hown (C.word tc_J6_267 rfl) dJ6_bitCount_0f7a4_29 ?_
  refine lv_iand hx hb dJ6_bitCount_0f7a4_32 ?_
  refine z_i (v := 0) (by decide +kernel) ?_
  refine lv_istore_n (lv' := [(0, .int 0)]) hx hb dJ6_bitCount_0f7a4_33 rfl hl (by decide) rfl (fun ls hl => ?_)
  refine lv_iload_n hx hb dJ6_bitCount_0f7a4_34 rfl (lv_at hl 0 rfl) ?_
  refine lv_iload_n hx hb dJ6_bitCount_0f7a4_35 rfl (lv_at hl 0 rfl) ?_
  refine lv_bipush (v := 8) hx hb dJ6_bitCount_0f7a4_36 (by decide) ?_
  refine lv_iushr (v := 0) hx hb dJ6_bitCount_0f7a4_38 (by decide +kernel) ?_
  refine lv_iadd hx hb dJ6_bitCount_0f7a4_39 ?_
  refine z_i (v := 0) (by decide +kernel) ?_
  refine lv_istore_n (lv' := [(0, .int 0)]) hx hb dJ6_bitCount_0f7a4_40 rfl hl (by decide) rfl (fun ls hl => ?_)
  refine lv_iload_n hx hb dJ6_bitCount_0f7a4_41 rfl (lv_at hl 0 rfl) ?_
  refine lv_iload_n hx hb dJ6_bitCount_0f7a4_42 rfl (lv_at hl 0 rfl) ?_
  refine lv_bipush (v := 16) hx hb dJ6_bitCount_0f7a4_43 (by decide) ?_
  refine lv_iushr (v := 0) hx hb dJ6_bitCount_0f7a4_45 (by decide +kernel) ?_
  refine lv_iadd hx hb dJ6_bitCount_0f7a4_46 ?_
  refine z_i (v := 0) (by decide +kernel) ?_
  refine lv_istore_n (lv' := [(0, .int 0)]) hx hb dJ6_bitCount_0f7a4_47 rfl hl (by decide) rfl (fun ls hl => ?_)
  refine lv_iload_n hx hb dJ6_bitCount_0f7a4_48 rfl (lv_at hl 0 rfl) ?_
  refine lv_bipush (v := 63) hx hb dJ6_bitCount_0f7a4_49 (by decide) ?_
  refine lv_iand hx hb dJ6_bitCount_0f7a4_51 ?_
  refine z_i (v := 0) (by decide +kernel) ?_
  exact e_i C hr w (fun _ => 0) [] rfl rfl rfl dJ6_bitCount_0f7a4_52 (by decide) (by decide)
set_option maxRecDepth 100000 in
set_option maxHeartbeats 4000000 in
theorem k501_byLots {l : Launch} {s0 : State} {a0 : Array Value} {G : GT} (b0 : B0 l s0 a0 G) (q0 q1 q2 q3 q4 q5 q6 q7 q8 q9 q10 q11 q12 q13 q14 q15 q16 q17 q18 : Nat) (x0 : Int32) (x1 : Int32) (h0 : ¬ x0 < 1) (sz : Nat) : Ki l s0 G yX9_byLots cX9_byLots 9 (some .int) { frames := 1, cells := 0, slots := 0, locals := 100 } [.ref q0, .ref q3, .ref q1, .int x0, .int x1] [(q0, .inr (9, [.int (-1), .int 0, .int 0, .int 0, .int 0, .ref q2, .ref q4])), (q1, .inl (G.2.1, 8, .inl (fun _ => 0))), (q2, .inl (G.2.1, 8, .inl (fun _ => 0))), (q3, .inr (2, [.int 0, .int 0, .ref q5, .ref q6, .ref q7, .ref q8, .ref q9, .ref q10, .ref q11, .ref q12, .ref q13, .ref q14, .ref q15, .ref q16, .ref q17, .ref q18, .int 0]))] sz 0 (fun u => [(q0, .inr (9, [.int (-1), .int 0, .int 0, .int 0, .int 0, .ref q2, .ref q4])), (q1, .inl (G.2.1, 8, .inl (fun _ => 0))), (q2, .inl (G.2.1, 8, .inl (fun _ => 0))), (q3, .inr (2, [.int 0, .int 0, .ref q5, .ref q6, .ref q7, .ref q8, .ref q9, .ref q10, .ref q11, .ref q12, .ref q13, .ref q14, .ref q15, .ref q16, .ref q17, .ref q18, .int 0]))]) := by
  refine Ki.of b0 (own := RX9) (nm := "byLots") [(0, .ref q0), (1, .ref q3), (2, .ref q1), (3, .int x0), (4, .int x1)] rfl rfl (by decide +kernel) (Nat.le_of_ble_eq_true rfl) rfl ?_
  intro p e s m below meth c A C hr H locs w ls hl
  have hx := C.hx
  have hb := C.hb
  refine lv_aload_n hx hb dX9_byLots_0 rfl (lv_at hl 2 rfl) ?_
  refine lv_iconst (v := 0) hx hb dX9_byLots_1 (by decide) ?_
  refine lv_aload_n hx hb dX9_byLots_2 rfl (lv_at hl 0 rfl) ?_
  refine r_get C w 0 rfl fr_X9_15 rfl dX9_byLots_3 ?_
  refine lv_iconst (v := 0) hx hb dX9_byLots_6 (by decide) ?_
  refine lv_bipush (v := 8) hx hb dX9_byLots_7 (by decide) ?_
  refine r_copyI C w 1 2 rfl rfl (sp' := 0) (dp' := 0) (n' := 8) (by decide +kernel) cp_X9_28 hl.1 (cpy_c _ _ _ _) (by decide) (Nat.le_of_ble_eq_true rfl) dX9_byLots_9 (ws2 := [(q0, .inr (9, [.int (-1), .int 0, .int 0, .int 0, .int 0, .ref q2, .ref q4])), (q1, .inl (G.2.1, 8, .inl (fun _ => 0))), (q2, .inl (G.2.1, 8, .inl (fun _ => 0))), (q3, .inr (2, [.int 0, .int 0, .ref q5, .ref q6, .ref q7, .ref q8, .ref q9, .ref q10, .ref q11, .ref q12, .ref q13, .ref q14, .ref q15, .ref q16, .ref q17, .ref q18, .int 0]))]) rfl (fun H locs w => ?_)
  refine lv_iload hx hb dX9_byLots_12 (lv_at hl 4 rfl) ?_
  refine lv_istore (lv' := [(5, .int x1), (0, .ref q0), (1, .ref q3), (2, .ref q1), (3, .int x0), (4, .int x1)]) hx hb dX9_byLots_14 hl (by decide) rfl (fun ls hl => ?_)
  refine lv_iconst (v := 0) hx hb dX9_byLots_16 (by decide) ?_
  refine lv_istore (lv' := [(6, .int 0), (5, .int x1), (0, .ref q0), (1, .ref q3), (2, .ref q1), (3, .int x0), (4, .int x1)]) hx hb dX9_byLots_17 hl (by decide) rfl (fun ls hl => ?_)
  refine lv_iload hx hb dX9_byLots_19 (lv_at hl 0 rfl) ?_
  refine lv_iload_n hx hb dX9_byLots_21 rfl (lv_at hl 5 rfl) ?_
  refine lv_icmp_ge (tgt := 92) hx hb dX9_byLots_22 (by decide) (fun h => absurd h (Int32.not_le.mpr (kl2 (L := 1) (a := 0) h0 (by decide)))) (fun _ => ?_)
  refine lv_aload_n hx hb dX9_byLots_25 rfl (lv_at hl 3 rfl) ?_
  refine lv_aload_n hx hb dX9_byLots_26 rfl (lv_at hl 2 rfl) ?_
  refine r_get C w 0 rfl fr_X9_15 rfl dX9_byLots_27 ?_
  refine fin_i C w (run_V C w mv_X9_34 (k439_ableActs C.b0 q3 q2 q5 q6 q7 q8 q9 q10 q11 q12 q13 q14 q15 q16 q17 q18 H.size) [3] rfl rfl 3 rfl rfl (by decide) rfl hl.1 rfl (Nat.le_of_ble_eq_true rfl) dX9_byLots_30 (cells2 := 0) (slots2 := 0) (by decide)) [3] [0, 1, 2] rfl rfl (by decide) (cells2 := 0) (slots2 := 0) (by decide) (fun u1 H locs w => ?_)
  have w : Wd s G A [(q0, .inr (9, [.int (-1), .int 0, .int 0, .int 0, .int 0, .ref q2, .ref q4])), (q1, .inl (G.2.1, 8, .inl (fun _ => 0))), (q2, .inl (G.2.1, 8, .inl (fun _ => 0))), (q3, .inr (2, [.int 0, .int 0, .ref q5, .ref q6, .ref q7, .ref q8, .ref q9, .ref q10, .ref q11, .ref q12, .ref q13, .ref q14, .ref q15, .ref q16, .ref q17, .ref q18, .int 0]))] H locs := w
  refine lv_istore (lv' := [(7, .int 0), (6, .int 0), (5, .int x1), (0, .ref q0), (1, .ref q3), (2, .ref q1), (3, .int x0), (4, .int x1)]) hx hb dX9_byLots_33 hl (by decide) rfl (fun ls hl => ?_)
  refine lv_iload hx hb dX9_byLots_35 (lv_at hl 0 rfl) ?_
  refine fin_i C w (run_S C w ms_X9_40 (k500_bitCount C.b0 H.size) [] rfl rfl (by decide) rfl hl.1 rfl (Nat.le_of_ble_eq_true rfl) dX9_byLots_37 (cells2 := 0) (slots2 := 0) (by decide)) [] [0, 1, 2, 3] rfl rfl (by decide) (cells2 := 0) (slots2 := 0) (by decide) (fun u2 H locs w => ?_)
  have w : Wd s G A [(q0, .inr (9, [.int (-1), .int 0, .int 0, .int 0, .int 0, .ref q2, .ref q4])), (q1, .inl (G.2.1, 8, .inl (fun _ => 0))), (q2, .inl (G.2.1, 8, .inl (fun _ => 0))), (q3, .inr (2, [.int 0, .int 0, .ref q5, .ref q6, .ref q7, .ref q8, .ref q9, .ref q10, .ref q11, .ref q12, .ref q13, .ref q14, .ref q15, .ref q16, .ref q17, .ref q18, .int 0]))] H locs := w
  refine lv_istore (lv' := [(8, .int 0), (7, .int 0), (6, .int 0), (5, .int x1), (0, .ref q0), (1, .ref q3), (2, .ref q1), (3, .int x0), (4, .int x1)]) hx hb dX9_byLots_40 hl (by decide) rfl (fun ls hl => ?_)
  refine lv_iload hx hb dX9_byLots_42 (lv_at hl 0 rfl) ?_
  refine lv_if_ne (tgt := 50) hx hb dX9_byLots_44 (by decide) (fun h => absurd (by decide) h) (fun _ => ?_)
  refine lv_iload hx hb dX9_byLots_47 (lv_at hl 2 rfl) ?_
  exact e_i C hr w (fun _ => 0) [0, 1, 2, 3] rfl rfl rfl dX9_byLots_49 (by decide) (by decide)
set_option maxRecDepth 100000 in
set_option maxHeartbeats 4000000 in
theorem k502_lots {l : Launch} {s0 : State} {a0 : Array Value} {G : GT} (b0 : B0 l s0 a0 G) (q0 q1 q2 q3 q4 q5 q6 q7 q8 q9 q10 q11 q12 q13 q14 q15 q16 q17 q18 q19 q20 q21 q22 q23 q24 q25 q26 q27 : Nat) (x0 : Int32) (x1 : Int32) (h0 : ¬ 1000 < x0) (h1 : ¬ x0 < 1) (sz : Nat) : Ki l s0 G yX11_lots cX11_lots 3 (some .int) { frames := 4, cells := 5, slots := 32212, locals := 128 } [.ref q0, .int x0, .int x1] [(q0, .inr (11, [.ref q4, .ref q5, .ref q1, .ref q6, .ref q7, .ref q8, .ref q9, .ref q10, .ref q3, .ref q11, .int 0, .int (-1), .int 0, .int 0, .null, .null, .null, .null, .null])), (q1, .inr (5, [.ref q2, .ref q12, .ref q13, .int 0])), (q2, .inl (G.2.1, 8, .inl (fun _ => 0))), (q3, .inr (2, [.int 0, .int 0, .ref q14, .ref q15, .ref q16, .ref q17, .ref q18, .ref q19, .ref q20, .ref q21, .ref q22, .ref q23, .ref q24, .ref q25, .ref q26, .ref q27, .int 0]))] sz 0 (fun u => [(q0, .inr (11, [.ref q4, .ref q5, .ref q1, .ref q6, .ref q7, .ref q8, .ref q9, .ref q10, .ref q3, .ref q11, .int 0, .int (-1), .int 0, .int 0, .null, .null, .null, .null, .ref (u 0)])), (q1, .inr (5, [.ref q2, .ref q12, .ref q13, .int 0])), (q2, .inl (G.2.1, 8, .inl (fun _ => 0))), (q3, .inr (2, [.int 0, .int 0, .ref q14, .ref q15, .ref q16, .ref q17, .ref q18, .ref q19, .ref q20, .ref q21, .ref q22, .ref q23, .ref q24, .ref q25, .ref q26, .ref q27, .int 0])), ((u 0), .inr (9, [.int (-1), .int 0, .int 0, .int 0, .int 0, .ref (u 1), .ref (u 2)])), ((u 1), .inl (G.2.1, 8, .inl (fun _ => 0))), ((u 2), .inr (7, [.ref (u 3), .int 0, .int 0, .int 3000, .ref (u 4)])), ((u 3), .inl (G.2.1, 24000, .inl (fun _ => 0))), ((u 4), .inl (G.2.1, 8192, .inl (fun _ => 0)))]) := by
  refine Ki.of b0 (own := RX11) (nm := "lots") [(0, .ref q0), (1, .int x0), (2, .int x1)] rfl rfl (by decide +kernel) (Nat.le_of_ble_eq_true rfl) rfl ?_
  intro p e s m below meth c A C hr H locs w ls hl
  have hx := C.hx
  have hb := C.hb
  refine lv_iload_n hx hb dX11_lots_0 rfl (lv_at hl 1 rfl) ?_
  refine lv_iconst (v := 1) hx hb dX11_lots_1 (by decide) ?_
  refine lv_sipush (v := 1000) hx hb dX11_lots_2 (by decide) ?_
  refine fin_v C w (run_S C w ms_X11_72 (k496_needWithin C.b0 x0 h0 h1 H.size) [] rfl rfl (by decide) rfl hl.1 rfl (Nat.le_of_ble_eq_true rfl) dX11_lots_5 (cells2 := 0) (slots2 := 0) (by decide)) [] [0, 1, 2, 3] rfl rfl (by decide) (cells2 := 0) (slots2 := 0) (by decide) (fun u1 H locs w => ?_)
  have w : Wd s G A [(q0, .inr (11, [.ref q4, .ref q5, .ref q1, .ref q6, .ref q7, .ref q8, .ref q9, .ref q10, .ref q3, .ref q11, .int 0, .int (-1), .int 0, .int 0, .null, .null, .null, .null, .null])), (q1, .inr (5, [.ref q2, .ref q12, .ref q13, .int 0])), (q2, .inl (G.2.1, 8, .inl (fun _ => 0))), (q3, .inr (2, [.int 0, .int 0, .ref q14, .ref q15, .ref q16, .ref q17, .ref q18, .ref q19, .ref q20, .ref q21, .ref q22, .ref q23, .ref q24, .ref q25, .ref q26, .ref q27, .int 0]))] H locs := w
  refine lv_aload_n hx hb dX11_lots_8 rfl (lv_at hl 0 rfl) ?_
  refine fin_r C w (run_V C w mv_X11_314 (k499_walker C.b0 q0 q4 q5 q1 q6 q7 q8 q9 q10 q3 q11 H.size) [0] rfl rfl 0 rfl rfl (by decide) rfl hl.1 rfl (Nat.le_of_ble_eq_true rfl) dX11_lots_9 (cells2 := 5) (slots2 := 32212) (by decide)) [0] [1, 2, 3] rfl rfl (by decide) (cells2 := 5) (slots2 := 32212) (by decide) (fun u2 H locs w => ?_)
  have w : Wd s G A [(q1, .inr (5, [.ref q2, .ref q12, .ref q13, .int 0])), (q2, .inl (G.2.1, 8, .inl (fun _ => 0))), (q3, .inr (2, [.int 0, .int 0, .ref q14, .ref q15, .ref q16, .ref q17, .ref q18, .ref q19, .ref q20, .ref q21, .ref q22, .ref q23, .ref q24, .ref q25, .ref q26, .ref q27, .int 0])), (q0, .inr (11, [.ref q4, .ref q5, .ref q1, .ref q6, .ref q7, .ref q8, .ref q9, .ref q10, .ref q3, .ref q11, .int 0, .int (-1), .int 0, .int 0, .null, .null, .null, .null, .ref (u2 0)])), ((u2 0), .inr (9, [.int (-1), .int 0, .int 0, .int 0, .int 0, .ref (u2 1), .ref (u2 2)])), ((u2 1), .inl (G.2.1, 8, .inl (fun _ => 0))), ((u2 2), .inr (7, [.ref (u2 3), .int 0, .int 0, .int 3000, .ref (u2 4)])), ((u2 3), .inl (G.2.1, 24000, .inl (fun _ => 0))), ((u2 4), .inl (G.2.1, 8192, .inl (fun _ => 0)))] H locs := w
  refine lv_aload_n hx hb dX11_lots_12 rfl (lv_at hl 0 rfl) ?_
  refine r_get C w 3 rfl fr_X11_54 rfl dX11_lots_13 ?_
  refine lv_aload_n hx hb dX11_lots_16 rfl (lv_at hl 0 rfl) ?_
  refine r_get C w 3 rfl fr_X11_23 rfl dX11_lots_17 ?_
  refine r_get C w 0 rfl fr_X11_129 rfl dX11_lots_20 ?_
  refine lv_iload_n hx hb dX11_lots_23 rfl (lv_at hl 1 rfl) ?_
  refine lv_iload_n hx hb dX11_lots_24 rfl (lv_at hl 2 rfl) ?_
  refine fin_i C w (run_V C w mv_X11_318 (k501_byLots C.b0 (u2 0) q2 (u2 1) q3 (u2 2) q14 q15 q16 q17 q18 q19 q20 q21 q22 q23 q24 q25 q26 q27 x0 x1 h1 H.size) [4, 1, 5, 2] rfl rfl 4 rfl rfl (by decide) rfl hl.1 rfl (Nat.le_of_ble_eq_true rfl) dX11_lots_25 (cells2 := 5) (slots2 := 32212) (by decide)) [4, 1, 5, 2] [0, 3, 6, 7, 8] rfl rfl (by decide) (cells2 := 5) (slots2 := 32212) (by decide) (fun u3 H locs w => ?_)
  have w : Wd s G A [(q1, .inr (5, [.ref q2, .ref q12, .ref q13, .int 0])), (q0, .inr (11, [.ref q4, .ref q5, .ref q1, .ref q6, .ref q7, .ref q8, .ref q9, .ref q10, .ref q3, .ref q11, .int 0, .int (-1), .int 0, .int 0, .null, .null, .null, .null, .ref (u2 0)])), ((u2 2), .inr (7, [.ref (u2 3), .int 0, .int 0, .int 3000, .ref (u2 4)])), ((u2 3), .inl (G.2.1, 24000, .inl (fun _ => 0))), ((u2 4), .inl (G.2.1, 8192, .inl (fun _ => 0))), ((u2 0), .inr (9, [.int (-1), .int 0, .int 0, .int 0, .int 0, .ref (u2 1), .ref (u2 2)])), (q2, .inl (G.2.1, 8, .inl (fun _ => 0))), ((u2 1), .inl (G.2.1, 8, .inl (fun _ => 0))), (q3, .inr (2, [.int 0, .int 0, .ref q14, .ref q15, .ref q16, .ref q17, .ref q18, .ref q19, .ref q20, .ref q21, .ref q22, .ref q23, .ref q24, .ref q25, .ref q26, .ref q27, .int 0]))] H locs := w
  exact e_i C hr w (fun k => [(u2 0), (u2 1), (u2 2), (u2 3), (u2 4)].getD k 0) [1, 0, 6, 8, 5, 7, 2, 3, 4] rfl rfl rfl dX11_lots_28 (by decide) (by decide)
set_option maxRecDepth 100000 in
set_option maxHeartbeats 4000000 in
theorem k503_lots {l : Launch} {s0 : State} {a0 : Array Value} {G : GT} (b0 : B0 l s0 a0 G) (q0 q1 q2 q3 q4 q5 q6 q7 q8 q9 q10 q11 q12 q13 q14 q15 q16 q17 q18 q19 q20 q21 q22 q23 q24 q25 q26 q27 q28 : Nat) (x0 : Int32) (x1 : Int32) (h0 : ¬ 1000 < x0) (h1 : ¬ x0 < 1) (sz : Nat) : Kh l s0 G yL_lots cL_lots 5 (some .int) [(0, 10, 13, 13)] { frames := 5, cells := 5, slots := 32212, locals := 150 } [.ref q0, .int x0, .int x1, .ref q4] [(q0, .inr (11, [.ref q5, .ref q6, .ref q1, .ref q7, .ref q8, .ref q9, .ref q10, .ref q11, .ref q3, .ref q12, .int 0, .int (-1), .int 0, .int 0, .null, .null, .null, .null, .null])), (q1, .inr (5, [.ref q2, .ref q13, .ref q14, .int 0])), (q2, .inl (G.2.1, 8, .inl (fun _ => 0))), (q3, .inr (2, [.int 0, .int 0, .ref q15, .ref q16, .ref q17, .ref q18, .ref q19, .ref q20, .ref q21, .ref q22, .ref q23, .ref q24, .ref q25, .ref q26, .ref q27, .ref q28, .int 0])), (q4, .inl (G.2.2.1, 1, .inr (.inl (fun _ => 0))))] sz 0 (fun u => [(q0, .inr (11, [.ref q5, .ref q6, .ref q1, .ref q7, .ref q8, .ref q9, .ref q10, .ref q11, .ref q3, .ref q12, .int 0, .int (-1), .int 0, .int 0, .null, .null, .null, .null, .ref (u 0)])), (q1, .inr (5, [.ref q2, .ref q13, .ref q14, .int 0])), (q2, .inl (G.2.1, 8, .inl (fun _ => 0))), (q3, .inr (2, [.int 0, .int 0, .ref q15, .ref q16, .ref q17, .ref q18, .ref q19, .ref q20, .ref q21, .ref q22, .ref q23, .ref q24, .ref q25, .ref q26, .ref q27, .ref q28, .int 0])), (q4, .inl (G.2.2.1, 1, .inr (.inl (fun _ => 0)))), ((u 0), .inr (9, [.int (-1), .int 0, .int 0, .int 0, .int 0, .ref (u 1), .ref (u 2)])), ((u 1), .inl (G.2.1, 8, .inl (fun _ => 0))), ((u 2), .inr (7, [.ref (u 3), .int 0, .int 0, .int 3000, .ref (u 4)])), ((u 3), .inl (G.2.1, 24000, .inl (fun _ => 0))), ((u 4), .inl (G.2.1, 8192, .inl (fun _ => 0)))]) := by
  refine Kh.of b0 (own := RL) (nm := "lots") [(0, .ref q0), (1, .int x0), (2, .int x1), (3, .ref q4)] rfl rfl (by decide +kernel) (Nat.le_of_ble_eq_true rfl) rfl ?_
  intro p e s m below meth c A C hr ht H locs w ls hl
  have hx := C.hx
  have hb := C.hb
  refine lv_aload_n hx hb dL_lots_0 rfl (lv_at hl 3 rfl) ?_
  refine lv_iconst (v := 0) hx hb dL_lots_1 (by decide) ?_
  refine lv_aload_n hx hb dL_lots_2 rfl (lv_at hl 0 rfl) ?_
  refine lv_iload_n hx hb dL_lots_3 rfl (lv_at hl 1 rfl) ?_
  refine lv_iload_n hx hb dL_lots_4 rfl (lv_at hl 2 rfl) ?_
  refine fin_i C w (run_V C w mv_L_117 (k502_lots C.b0 q0 q1 q2 q3 q5 q6 q7 q8 q9 q10 q11 q12 q13 q14 q15 q16 q17 q18 q19 q20 q21 q22 q23 q24 q25 q26 q27 q28 x0 x1 h0 h1 H.size) [0, 1, 2, 3] rfl rfl 0 rfl rfl (by decide) rfl hl.1 rfl (Nat.le_of_ble_eq_true rfl) dL_lots_5 (cells2 := 5) (slots2 := 32212) (by decide)) [0, 1, 2, 3] [4] rfl rfl (by decide) (cells2 := 5) (slots2 := 32212) (by decide) (fun u1 H locs w => ?_)
  have w : Wd s G A [(q4, .inl (G.2.2.1, 1, .inr (.inl (fun _ => 0)))), (q0, .inr (11, [.ref q5, .ref q6, .ref q1, .ref q7, .ref q8, .ref q9, .ref q10, .ref q11, .ref q3, .ref q12, .int 0, .int (-1), .int 0, .int 0, .null, .null, .null, .null, .ref (u1 0)])), (q1, .inr (5, [.ref q2, .ref q13, .ref q14, .int 0])), (q2, .inl (G.2.1, 8, .inl (fun _ => 0))), (q3, .inr (2, [.int 0, .int 0, .ref q15, .ref q16, .ref q17, .ref q18, .ref q19, .ref q20, .ref q21, .ref q22, .ref q23, .ref q24, .ref q25, .ref q26, .ref q27, .ref q28, .int 0])), ((u1 0), .inr (9, [.int (-1), .int 0, .int 0, .int 0, .int 0, .ref (u1 1), .ref (u1 2)])), ((u1 1), .inl (G.2.1, 8, .inl (fun _ => 0))), ((u1 2), .inr (7, [.ref (u1 3), .int 0, .int 0, .int 3000, .ref (u1 4)])), ((u1 3), .inl (G.2.1, 24000, .inl (fun _ => 0))), ((u1 4), .inl (G.2.1, 8192, .inl (fun _ => 0)))] H locs := w
  refine lv_i2l (v := 0) hx hb dL_lots_8 (by decide +kernel) ?_
  refine r_last C w 0 rfl (IX.of (k := 0) (by decide +kernel)) (g := (fun _ => 0)) (updL_c _ _) dL_lots_9 (ws2 := [(q4, .inl (G.2.2.1, 1, .inr (.inl (fun _ => 0)))), (q0, .inr (11, [.ref q5, .ref q6, .ref q1, .ref q7, .ref q8, .ref q9, .ref q10, .ref q11, .ref q3, .ref q12, .int 0, .int (-1), .int 0, .int 0, .null, .null, .null, .null, .ref (u1 0)])), (q1, .inr (5, [.ref q2, .ref q13, .ref q14, .int 0])), (q2, .inl (G.2.1, 8, .inl (fun _ => 0))), (q3, .inr (2, [.int 0, .int 0, .ref q15, .ref q16, .ref q17, .ref q18, .ref q19, .ref q20, .ref q21, .ref q22, .ref q23, .ref q24, .ref q25, .ref q26, .ref q27, .ref q28, .int 0])), ((u1 0), .inr (9, [.int (-1), .int 0, .int 0, .int 0, .int 0, .ref (u1 1), .ref (u1 2)])), ((u1 1), .inl (G.2.1, 8, .inl (fun _ => 0))), ((u1 2), .inr (7, [.ref (u1 3), .int 0, .int 0, .int 3000, .ref (u1 4)])), ((u1 3), .inl (G.2.1, 24000, .inl (fun _ => 0))), ((u1 4), .inl (G.2.1, 8192, .inl (fun _ => 0)))]) rfl (fun H locs w => ?_)
  refine lv_goto (tgt := 17) hx hb dL_lots_10 (by decide) ?_
  refine lv_iconst (v := 0) hx hb dL_lots_17 (by decide) ?_
  exact e_i C hr w (fun k => [(u1 0), (u1 1), (u1 2), (u1 3), (u1 4)].getD k 0) [1, 2, 3, 4, 0, 5, 6, 7, 8, 9] rfl rfl rfl dL_lots_18 (by decide) (by decide)
set_option maxRecDepth 100000 in
set_option maxHeartbeats 4000000 in
theorem k504_within {l : Launch} {s0 : State} {a0 : Array Value} {G : GT} (b0 : B0 l s0 a0 G) (x0 : Int32) (h0 : ¬ 1000 < x0) (h1 : ¬ x0 < 1) (sz : Nat) : Ki l s0 G yX12_within cX12_within 3 (some .boolean) { frames := 0, cells := 0, slots := 0, locals := 0 } [.int x0, .int 1, .int 1000] [] sz 1 (fun u => []) := by
  refine Ki.of b0 (own := RX12) (nm := "within") [(0, .int x0), (1, .int 1), (2, .int 1000)] rfl rfl (by decide +kernel) (Nat.le_of_ble_eq_true rfl) rfl ?_
  intro p e s m below meth c A C hr H locs w ls hl
  have hx := C.hx
  have hb := C.hb
  refine lv_iload_n hx hb dX12_within_0 rfl (lv_at hl 0 rfl) ?_
  refine lv_iload_n hx hb dX12_within_1 rfl (lv_at hl 1 rfl) ?_
  refine lv_icmp_lt (tgt := 14) hx hb dX12_within_2 (by decide) (fun h => absurd h h1) (fun _ => ?_)
  refine lv_iload_n hx hb dX12_within_5 rfl (lv_at hl 0 rfl) ?_
  refine lv_iload_n hx hb dX12_within_6 rfl (lv_at hl 2 rfl) ?_
  refine lv_icmp_gt (tgt := 14) hx hb dX12_within_7 (by decide) (fun h => absurd h h0) (fun _ => ?_)
  refine lv_iconst (v := 1) hx hb dX12_within_10 (by decide) ?_
  refine lv_goto (tgt := 15) hx hb dX12_within_11 (by decide) ?_
  exact e_i C hr w (fun _ => 0) [] rfl rfl (by decide) dX12_within_15 (by decide) (by decide)
set_option maxRecDepth 100000 in
set_option maxHeartbeats 4000000 in
theorem k505_areLots {l : Launch} {s0 : State} {a0 : Array Value} {G : GT} (b0 : B0 l s0 a0 G) (x0 : Int32) (h0 : ¬ 1000 < x0) (h1 : ¬ x0 < 1) (sz : Nat) : Ki l s0 G yX12_areLots cX12_areLots 1 (some .boolean) { frames := 1, cells := 0, slots := 0, locals := 22 } [.int x0] [] sz 1 (fun u => []) := by
  refine Ki.of b0 (own := RX12) (nm := "areLots") [(0, .int x0)] rfl rfl (by decide +kernel) (Nat.le_of_ble_eq_true rfl) rfl ?_
  intro p e s m below meth c A C hr H locs w ls hl
  have hx := C.hx
  have hb := C.hb
  refine lv_iload_n hx hb dX12_areLots_0 rfl (lv_at hl 0 rfl) ?_
  refine lv_iconst (v := 1) hx hb dX12_areLots_1 (by decide) ?_
  refine lv_sipush (v := 1000) hx hb dX12_areLots_2 (by decide) ?_
  refine fin_i C w (run_S C w ms_X12_289 (k504_within C.b0 x0 h0 h1 H.size) [] rfl rfl (by decide) rfl hl.1 rfl (Nat.le_of_ble_eq_true rfl) dX12_areLots_5 (cells2 := 0) (slots2 := 0) (by decide)) [] [] rfl rfl (by decide) (cells2 := 0) (slots2 := 0) (by decide) (fun u1 H locs w => ?_)
  have w : Wd s G A [] H locs := w
  exact e_i C hr w (fun _ => 0) [] rfl rfl (by decide) dX12_areLots_8 (by decide) (by decide)
set_option maxRecDepth 100000 in
set_option maxHeartbeats 4000000 in
theorem k506_drawn {l : Launch} {s0 : State} {a0 : Array Value} {G : GT} (b0 : B0 l s0 a0 G) (q0 q1 q2 q3 q4 q5 q6 q7 q8 q9 q10 q11 q12 q13 q14 q15 q16 q17 q18 q19 q20 q21 q22 q23 q24 q25 q26 q27 q28 q29 q30 q31 q32 q33 q34 q35 q36 q37 q38 q39 q40 q41 q42 : Nat) (x0 : Int32) (x1 : Int32) (h0 : ¬ x0 < 1) (sz : Nat) : Ki l s0 G yX12_drawn cX12_drawn 8 (some .int) { frames := 1, cells := 0, slots := 0, locals := 21 } [.ref q0, .int x0, .int x1] [(q0, .inr (12, [.int 0, .int 0, .int 0, .int 0, .int 0, .int 0, .int 0, .int (-1), .ref q4, .ref q3, .ref q5, .int 0, .ref q6, .ref q7, .ref q8, .ref q9, .ref q10, .ref q1, .ref q11, .int 0, .ref q2, .ref q12, .ref q13, .ref q14, .ref q15, .ref q16, .ref q17, .int 0, .int (-1), .int 0, .ref q18, .ref q19, .ref q20, .ref q21, .ref q22, .ref q23, .ref q24, .ref q25, .int 0, .ref q26, .ref q27, .ref q28, .ref q29, .ref q30, .int 0, .ref q31, .ref q32, .ref q33, .ref q34, .int 0, .ref q35, .ref q36, .ref q37, .ref q38, .int 0, .int 0, .ref q39, .ref q40, .ref q41, .ref q42])), (q1, .inl (G.2.1, 57, .inl (fun _ => 0))), (q2, .inl (G.2.1, 8, .inl (fun _ => 0))), (q3, .inl (G.2.1, 242, .inl (fun _ => 0)))] sz 0 (fun u => [(q0, .inr (12, [.int 0, .int 0, .int 0, .int 0, .int 0, .int 0, .int 0, .int (-1), .ref q4, .ref q3, .ref q5, .int 0, .ref q6, .ref q7, .ref q8, .ref q9, .ref q10, .ref q1, .ref q11, .int 0, .ref q2, .ref q12, .ref q13, .ref q14, .ref q15, .ref q16, .ref q17, .int 0, .int (-1), .int 0, .ref q18, .ref q19, .ref q20, .ref q21, .ref q22, .ref q23, .ref q24, .ref q25, .int 0, .ref q26, .ref q27, .ref q28, .ref q29, .ref q30, .int 0, .ref q31, .ref q32, .ref q33, .ref q34, .int 0, .ref q35, .ref q36, .ref q37, .ref q38, .int 0, .int 0, .ref q39, .ref q40, .ref q41, .ref q42])), (q1, .inl (G.2.1, 57, .inl (fun _ => 0))), (q2, .inl (G.2.1, 8, .inl (fun _ => 0))), (q3, .inl (G.2.1, 242, .inl (fun _ => 0)))]) := by
  refine Ki.of b0 (own := RX12) (nm := "drawn") [(0, .ref q0), (1, .int x0), (2, .int x1)] rfl rfl (by decide +kernel) (Nat.le_of_ble_eq_true rfl) rfl ?_
  intro p e s m below meth c A C hr H locs w ls hl
  have hx := C.hx
  have hb := C.hb
  refine lv_iload_n hx hb dX12_drawn_0 rfl (lv_at hl 2 rfl) ?_
  refine lv_istore_n (lv' := [(3, .int x1), (0, .ref q0), (1, .int x0), (2, .int x1)]) hx hb dX12_drawn_1 rfl hl (by decide) rfl (fun ls hl => ?_)
  refine lv_aload_n hx hb dX12_drawn_2 rfl (lv_at hl 1 rfl) ?_
  refine fin_v C w (run_V C w mv_X12_315 (k89_asNow C.b0 q0 q1 q2 q4 q3 q5 q6 q7 q8 q9 q10 q11 q12 q13 q14 q15 q16 q17 q18 q19 q20 q21 q22 q23 q24 q25 q26 q27 q28 q29 q30 q31 q32 q33 q34 q35 q36 q37 q38 q39 q40 q41 q42 H.size) [0, 1, 2] rfl rfl 0 rfl rfl (by decide) rfl hl.1 rfl (Nat.le_of_ble_eq_true rfl) dX12_drawn_3 (cells2 := 0) (slots2 := 0) (by decide)) [0, 1, 2] [3] rfl rfl (by decide) (cells2 := 0) (slots2 := 0) (by decide) (fun u1 H locs w => ?_)
  have w : Wd s G A [(q3, .inl (G.2.1, 242, .inl (fun _ => 0))), (q0, .inr (12, [.int 0, .int 0, .int 0, .int 0, .int 0, .int 0, .int 0, .int (-1), .ref q4, .ref q3, .ref q5, .int 0, .ref q6, .ref q7, .ref q8, .ref q9, .ref q10, .ref q1, .ref q11, .int 0, .ref q2, .ref q12, .ref q13, .ref q14, .ref q15, .ref q16, .ref q17, .int 0, .int (-1), .int 0, .ref q18, .ref q19, .ref q20, .ref q21, .ref q22, .ref q23, .ref q24, .ref q25, .int 0, .ref q26, .ref q27, .ref q28, .ref q29, .ref q30, .int 0, .ref q31, .ref q32, .ref q33, .ref q34, .int 0, .ref q35, .ref q36, .ref q37, .ref q38, .int 0, .int 0, .ref q39, .ref q40, .ref q41, .ref q42])), (q1, .inl (G.2.1, 57, .inl (fun _ => 0))), (q2, .inl (G.2.1, 8, .inl (fun _ => 0)))] H locs := w
  refine lv_iconst (v := 0) hx hb dX12_drawn_6 (by decide) ?_
  refine lv_istore (lv' := [(4, .int 0), (3, .int x1), (0, .ref q0), (1, .int x0), (2, .int x1)]) hx hb dX12_drawn_7 hl (by decide) rfl (fun ls hl => ?_)
  refine lv_iload hx hb dX12_drawn_9 (lv_at hl 0 rfl) ?_
  refine lv_iload_n hx hb dX12_drawn_11 rfl (lv_at hl 3 rfl) ?_
  refine lv_icmp_ge (tgt := 153) hx hb dX12_drawn_12 (by decide) (fun h => absurd h (Int32.not_le.mpr (kl2 (L := 1) (a := 0) h0 (by decide)))) (fun _ => ?_)
  refine lv_iconst (v := 0) hx hb dX12_drawn_15 (by decide) ?_
  refine lv_istore (lv' := [(5, .int 0), (4, .int 0), (3, .int x1), (0, .ref q0), (1, .int x0), (2, .int x1)]) hx hb dX12_drawn_16 hl (by decide) rfl (fun ls hl => ?_)
  refine lv_iconst (v := 0) hx hb dX12_drawn_18 (by decide) ?_
  refine lv_istore (lv' := [(6, .int 0), (5, .int 0), (4, .int 0), (3, .int x1), (0, .ref q0), (1, .int x0), (2, .int x1)]) hx hb dX12_drawn_19 hl (by decide) rfl (fun ls hl => ?_)
  refine lv_iload hx hb dX12_drawn_21 (lv_at hl 0 rfl) ?_
  refine lv_aload_n hx hb dX12_drawn_23 rfl (lv_at hl 4 rfl) ?_
  refine fin_i C w (run_V C w mv_X12_286 (k56_acts C.b0 q0 q3 q4 q5 q6 q7 q8 q9 q10 q1 q11 q2 q12 q13 q14 q15 q16 q17 q18 q19 q20 q21 q22 q23 q24 q25 q26 q27 q28 q29 q30 q31 q32 q33 q34 q35 q36 q37 q38 q39 q40 q41 q42 H.size) [1, 0] rfl rfl 1 rfl rfl (by decide) rfl hl.1 rfl (Nat.le_of_ble_eq_true rfl) dX12_drawn_24 (cells2 := 0) (slots2 := 0) (by decide)) [1, 0] [2, 3] rfl rfl (by decide) (cells2 := 0) (slots2 := 0) (by decide) (fun u2 H locs w => ?_)
  have w : Wd s G A [(q1, .inl (G.2.1, 57, .inl (fun _ => 0))), (q2, .inl (G.2.1, 8, .inl (fun _ => 0))), (q0, .inr (12, [.int 0, .int 0, .int 0, .int 0, .int 0, .int 0, .int 0, .int (-1), .ref q4, .ref q3, .ref q5, .int 0, .ref q6, .ref q7, .ref q8, .ref q9, .ref q10, .ref q1, .ref q11, .int 0, .ref q2, .ref q12, .ref q13, .ref q14, .ref q15, .ref q16, .ref q17, .int 0, .int (-1), .int 0, .ref q18, .ref q19, .ref q20, .ref q21, .ref q22, .ref q23, .ref q24, .ref q25, .int 0, .ref q26, .ref q27, .ref q28, .ref q29, .ref q30, .int 0, .ref q31, .ref q32, .ref q33, .ref q34, .int 0, .ref q35, .ref q36, .ref q37, .ref q38, .int 0, .int 0, .ref q39, .ref q40, .ref q41, .ref q42])), (q3, .inl (G.2.1, 242, .inl (fun _ => 0)))] H locs := w
  refine lv_icmp_ge (tgt := 60) hx hb dX12_drawn_27 (by decide) (fun _ => ?_) (fun h => absurd (by decide) h)
  refine lv_iload hx hb dX12_drawn_60 (lv_at hl 1 rfl) ?_
  refine lv_if_ne (tgt := 68) hx hb dX12_drawn_62 (by decide) (fun h => absurd (by decide) h) (fun _ => ?_)
  refine lv_iload hx hb dX12_drawn_65 (lv_at hl 2 rfl) ?_
  exact e_i C hr w (fun _ => 0) [2, 0, 1, 3] rfl rfl rfl dX12_drawn_67 (by decide) (by decide)
set_option maxRecDepth 100000 in
set_option maxHeartbeats 4000000 in
theorem k507_lots {l : Launch} {s0 : State} {a0 : Array Value} {G : GT} (b0 : B0 l s0 a0 G) (q0 q1 q2 q3 q4 q5 q6 q7 q8 q9 q10 q11 q12 q13 q14 q15 q16 q17 q18 q19 q20 q21 q22 q23 q24 q25 q26 q27 q28 q29 q30 q31 q32 q33 q34 q35 q36 q37 q38 q39 q40 q41 q42 : Nat) (x0 : Int32) (x1 : Int32) (h0 : ¬ 1000 < x0) (h1 : ¬ x0 < 1) (sz : Nat) : Ki l s0 G yX12_lots cX12_lots 3 (some .int) { frames := 2, cells := 0, slots := 0, locals := 48 } [.ref q0, .int x0, .int x1] [(q0, .inr (12, [.int 0, .int 0, .int 0, .int 0, .int 0, .int 0, .int 0, .int (-1), .ref q4, .ref q3, .ref q5, .int 0, .ref q6, .ref q7, .ref q8, .ref q9, .ref q10, .ref q1, .ref q11, .int 0, .ref q2, .ref q12, .ref q13, .ref q14, .ref q15, .ref q16, .ref q17, .int 0, .int (-1), .int 0, .ref q18, .ref q19, .ref q20, .ref q21, .ref q22, .ref q23, .ref q24, .ref q25, .int 0, .ref q26, .ref q27, .ref q28, .ref q29, .ref q30, .int 0, .ref q31, .ref q32, .ref q33, .ref q34, .int 0, .ref q35, .ref q36, .ref q37, .ref q38, .int 0, .int 0, .ref q39, .ref q40, .ref q41, .ref q42])), (q1, .inl (G.2.1, 57, .inl (fun _ => 0))), (q2, .inl (G.2.1, 8, .inl (fun _ => 0))), (q3, .inl (G.2.1, 242, .inl (fun _ => 0)))] sz 0 (fun u => [(q0, .inr (12, [.int 0, .int 0, .int 0, .int 0, .int 0, .int 0, .int 0, .int (-1), .ref q4, .ref q3, .ref q5, .int 0, .ref q6, .ref q7, .ref q8, .ref q9, .ref q10, .ref q1, .ref q11, .int 0, .ref q2, .ref q12, .ref q13, .ref q14, .ref q15, .ref q16, .ref q17, .int 0, .int (-1), .int 0, .ref q18, .ref q19, .ref q20, .ref q21, .ref q22, .ref q23, .ref q24, .ref q25, .int 0, .ref q26, .ref q27, .ref q28, .ref q29, .ref q30, .int 0, .ref q31, .ref q32, .ref q33, .ref q34, .int 0, .ref q35, .ref q36, .ref q37, .ref q38, .int 0, .int 0, .ref q39, .ref q40, .ref q41, .ref q42])), (q1, .inl (G.2.1, 57, .inl (fun _ => 0))), (q2, .inl (G.2.1, 8, .inl (fun _ => 0))), (q3, .inl (G.2.1, 242, .inl (fun _ => 0)))]) := by
  refine Ki.of b0 (own := RX12) (nm := "lots") [(0, .ref q0), (1, .int x0), (2, .int x1)] rfl rfl (by decide +kernel) (Nat.le_of_ble_eq_true rfl) rfl ?_
  intro p e s m below meth c A C hr H locs w ls hl
  have hx := C.hx
  have hb := C.hb
  refine lv_aload_n hx hb dX12_lots_0 rfl (lv_at hl 0 rfl) ?_
  refine lv_iconst (v := 0) hx hb dX12_lots_1 (by decide) ?_
  refine r_put C w 0 rfl fl_X12_1 (Nat.le_of_ble_eq_true rfl) rfl rfl dX12_lots_2 (ws2 := [(q0, .inr (12, [.int 0, .int 0, .int 0, .int 0, .int 0, .int 0, .int 0, .int (-1), .ref q4, .ref q3, .ref q5, .int 0, .ref q6, .ref q7, .ref q8, .ref q9, .ref q10, .ref q1, .ref q11, .int 0, .ref q2, .ref q12, .ref q13, .ref q14, .ref q15, .ref q16, .ref q17, .int 0, .int (-1), .int 0, .ref q18, .ref q19, .ref q20, .ref q21, .ref q22, .ref q23, .ref q24, .ref q25, .int 0, .ref q26, .ref q27, .ref q28, .ref q29, .ref q30, .int 0, .ref q31, .ref q32, .ref q33, .ref q34, .int 0, .ref q35, .ref q36, .ref q37, .ref q38, .int 0, .int 0, .ref q39, .ref q40, .ref q41, .ref q42])), (q1, .inl (G.2.1, 57, .inl (fun _ => 0))), (q2, .inl (G.2.1, 8, .inl (fun _ => 0))), (q3, .inl (G.2.1, 242, .inl (fun _ => 0)))]) rfl (fun H locs w => ?_)
  refine lv_aload_n hx hb dX12_lots_5 rfl (lv_at hl 0 rfl) ?_
  refine lv_iload_n hx hb dX12_lots_6 rfl (lv_at hl 1 rfl) ?_
  refine fin_i C w (run_S C w ms_X12_454 (k505_areLots C.b0 x0 h0 h1 H.size) [] rfl rfl (by decide) rfl hl.1 rfl (Nat.le_of_ble_eq_true rfl) dX12_lots_7 (cells2 := 0) (slots2 := 0) (by decide)) [] [0, 1, 2, 3] rfl rfl (by decide) (cells2 := 0) (slots2 := 0) (by decide) (fun u1 H locs w => ?_)
  have w : Wd s G A [(q0, .inr (12, [.int 0, .int 0, .int 0, .int 0, .int 0, .int 0, .int 0, .int (-1), .ref q4, .ref q3, .ref q5, .int 0, .ref q6, .ref q7, .ref q8, .ref q9, .ref q10, .ref q1, .ref q11, .int 0, .ref q2, .ref q12, .ref q13, .ref q14, .ref q15, .ref q16, .ref q17, .int 0, .int (-1), .int 0, .ref q18, .ref q19, .ref q20, .ref q21, .ref q22, .ref q23, .ref q24, .ref q25, .int 0, .ref q26, .ref q27, .ref q28, .ref q29, .ref q30, .int 0, .ref q31, .ref q32, .ref q33, .ref q34, .int 0, .ref q35, .ref q36, .ref q37, .ref q38, .int 0, .int 0, .ref q39, .ref q40, .ref q41, .ref q42])), (q1, .inl (G.2.1, 57, .inl (fun _ => 0))), (q2, .inl (G.2.1, 8, .inl (fun _ => 0))), (q3, .inl (G.2.1, 242, .inl (fun _ => 0)))] H locs := w
  refine lv_iconst (v := 1) hx hb dX12_lots_10 (by decide) ?_
  refine fin_i C w (run_V C w mv_X12_267 (k32_may C.b0 q0 q4 q3 q5 q6 q7 q8 q9 q10 q1 q11 q2 q12 q13 q14 q15 q16 q17 q18 q19 q20 q21 q22 q23 q24 q25 q26 q27 q28 q29 q30 q31 q32 q33 q34 q35 q36 q37 q38 q39 q40 q41 q42 H.size) [0] rfl rfl 0 rfl rfl (by decide) rfl hl.1 rfl (Nat.le_of_ble_eq_true rfl) dX12_lots_11 (cells2 := 0) (slots2 := 0) (by decide)) [0] [1, 2, 3] rfl rfl (by decide) (cells2 := 0) (slots2 := 0) (by decide) (fun u2 H locs w => ?_)
  have w : Wd s G A [(q1, .inl (G.2.1, 57, .inl (fun _ => 0))), (q2, .inl (G.2.1, 8, .inl (fun _ => 0))), (q3, .inl (G.2.1, 242, .inl (fun _ => 0))), (q0, .inr (12, [.int 0, .int 0, .int 0, .int 0, .int 0, .int 0, .int 0, .int (-1), .ref q4, .ref q3, .ref q5, .int 0, .ref q6, .ref q7, .ref q8, .ref q9, .ref q10, .ref q1, .ref q11, .int 0, .ref q2, .ref q12, .ref q13, .ref q14, .ref q15, .ref q16, .ref q17, .int 0, .int (-1), .int 0, .ref q18, .ref q19, .ref q20, .ref q21, .ref q22, .ref q23, .ref q24, .ref q25, .int 0, .ref q26, .ref q27, .ref q28, .ref q29, .ref q30, .int 0, .ref q31, .ref q32, .ref q33, .ref q34, .int 0, .ref q35, .ref q36, .ref q37, .ref q38, .int 0, .int 0, .ref q39, .ref q40, .ref q41, .ref q42]))] H locs := w
  refine lv_if_ne (tgt := 19) hx hb dX12_lots_14 (by decide) (fun _ => ?_) (fun h => h.elim (by decide))
  refine lv_aload_n hx hb dX12_lots_19 rfl (lv_at hl 0 rfl) ?_
  refine lv_iload_n hx hb dX12_lots_20 rfl (lv_at hl 1 rfl) ?_
  refine lv_iload_n hx hb dX12_lots_21 rfl (lv_at hl 2 rfl) ?_
  refine fin_i C w (run_V C w mv_X12_457 (k506_drawn C.b0 q0 q1 q2 q3 q4 q5 q6 q7 q8 q9 q10 q11 q12 q13 q14 q15 q16 q17 q18 q19 q20 q21 q22 q23 q24 q25 q26 q27 q28 q29 q30 q31 q32 q33 q34 q35 q36 q37 q38 q39 q40 q41 q42 x0 x1 h1 H.size) [3, 0, 1, 2] rfl rfl 3 rfl rfl (by decide) rfl hl.1 rfl (Nat.le_of_ble_eq_true rfl) dX12_lots_22 (cells2 := 0) (slots2 := 0) (by decide)) [3, 0, 1, 2] [] rfl rfl (by decide) (cells2 := 0) (slots2 := 0) (by decide) (fun u3 H locs w => ?_)
  have w : Wd s G A [(q0, .inr (12, [.int 0, .int 0, .int 0, .int 0, .int 0, .int 0, .int 0, .int (-1), .ref q4, .ref q3, .ref q5, .int 0, .ref q6, .ref q7, .ref q8, .ref q9, .ref q10, .ref q1, .ref q11, .int 0, .ref q2, .ref q12, .ref q13, .ref q14, .ref q15, .ref q16, .ref q17, .int 0, .int (-1), .int 0, .ref q18, .ref q19, .ref q20, .ref q21, .ref q22, .ref q23, .ref q24, .ref q25, .int 0, .ref q26, .ref q27, .ref q28, .ref q29, .ref q30, .int 0, .ref q31, .ref q32, .ref q33, .ref q34, .int 0, .ref q35, .ref q36, .ref q37, .ref q38, .int 0, .int 0, .ref q39, .ref q40, .ref q41, .ref q42])), (q1, .inl (G.2.1, 57, .inl (fun _ => 0))), (q2, .inl (G.2.1, 8, .inl (fun _ => 0))), (q3, .inl (G.2.1, 242, .inl (fun _ => 0)))] H locs := w
  exact e_i C hr w (fun _ => 0) [0, 1, 2, 3] rfl rfl rfl dX12_lots_25 (by decide) (by decide)
set_option maxRecDepth 100000 in
set_option maxHeartbeats 4000000 in
theorem k508_lot {l : Launch} {s0 : State} {a0 : Array Value} {G : GT} (b0 : B0 l s0 a0 G) (q0 q1 q2 q3 q4 q5 q6 q7 q8 q9 q10 q11 q12 q13 q14 q15 q16 q17 q18 q19 q20 q21 q22 q23 q24 : Nat) (x0 : Int32) (x1 : Int32) (x2 : Int32) (sz : Nat) : Kx l s0 G yX11_lot cX11_lot 5 (some .int) { frames := 7, cells := 1, slots := 6, locals := 111 } [.ref q0, .int x0, .int x1, .int x2] [(q0, .inr (11, [.ref q2, .ref q3, .ref q4, .ref q5, .ref q6, .ref q7, .ref q8, .ref q9, .ref q1, .ref q10, .int 0, .int (-1), .int 0, .int 0, .null, .null, .null, .null, .null])), (q1, .inr (2, [.int 0, .int 0, .ref q11, .ref q12, .ref q13, .ref q14, .ref q15, .ref q16, .ref q17, .ref q18, .ref q19, .ref q20, .ref q21, .ref q22, .ref q23, .ref q24, .int 0]))] sz "java/lang/IndexOutOfBoundsException" := by
  refine Kx.of b0 (own := RX11) (nm := "lot") [(0, .ref q0), (1, .int x0), (2, .int x1), (3, .int x2)] rfl rfl (by decide +kernel) (Nat.le_of_ble_eq_true rfl) rfl ?_
  intro p e s m below meth c A C ht H locs w ls hl
  have hx := C.hx
  have hb := C.hb
  refine lv_aload_n hx hb dX11_lot_0 rfl (lv_at hl 0 rfl) ?_
  refine lv_iload_n hx hb dX11_lot_1 rfl (lv_at hl 3 rfl) ?_
  refine fin_x C w (run_Vx C w mv_X11_107 (k69_needPlace C.b0 q0 q1 q2 q3 q4 q5 q6 q7 q8 q9 q10 q11 q12 q13 q14 q15 q16 q17 q18 q19 q20 q21 q22 q23 q24 x2 H.size) [0, 1] rfl rfl 0 rfl rfl (by decide) rfl hl.1 rfl (Nat.le_of_ble_eq_true rfl) dX11_lot_2 (cells2 := 1) (slots2 := 6) (by decide)) [0, 1] [] rfl rfl (by decide) (cells2 := 1) (slots2 := 6) (by decide) (fun qx2 ce H locs w hce hcv hcl => ?_)
  have w : Wd s G A [(q0, .inr (11, [.ref q2, .ref q3, .ref q4, .ref q5, .ref q6, .ref q7, .ref q8, .ref q9, .ref q1, .ref q10, .int 0, .int (-1), .int 0, .int 0, .null, .null, .null, .null, .null])), (q1, .inr (2, [.int 0, .int 0, .ref q11, .ref q12, .ref q13, .ref q14, .ref q15, .ref q16, .ref q17, .ref q18, .ref q19, .ref q20, .ref q21, .ref q22, .ref q23, .ref q24, .int 0]))] H locs := w
  exact r_out C ht w [0, 1] rfl rfl hce hcv hcl (by decide) (by decide)
set_option maxRecDepth 100000 in
set_option maxHeartbeats 4000000 in
theorem k509_lot {l : Launch} {s0 : State} {a0 : Array Value} {G : GT} (b0 : B0 l s0 a0 G) (q0 q1 q2 q3 q4 q5 q6 q7 q8 q9 q10 q11 q12 q13 q14 q15 q16 q17 q18 q19 q20 q21 q22 q23 q24 q25 : Nat) (x0 : Int32) (x1 : Int32) (x2 : Int32) (sz : Nat) : Kh l s0 G yL_lot cL_lot 6 (some .int) [(0, 12, 15, 24), (0, 12, 19, 13)] { frames := 8, cells := 1, slots := 6, locals := 135 } [.ref q0, .int x0, .int x1, .int x2, .ref q2] [(q0, .inr (11, [.ref q3, .ref q4, .ref q5, .ref q6, .ref q7, .ref q8, .ref q9, .ref q10, .ref q1, .ref q11, .int 0, .int (-1), .int 0, .int 0, .null, .null, .null, .null, .null])), (q1, .inr (2, [.int 0, .int 0, .ref q12, .ref q13, .ref q14, .ref q15, .ref q16, .ref q17, .ref q18, .ref q19, .ref q20, .ref q21, .ref q22, .ref q23, .ref q24, .ref q25, .int 0]))] sz 1 (fun u => [(q0, .inr (11, [.ref q3, .ref q4, .ref q5, .ref q6, .ref q7, .ref q8, .ref q9, .ref q10, .ref q1, .ref q11, .int 0, .int (-1), .int 0, .int 0, .null, .null, .null, .null, .null])), (q1, .inr (2, [.int 0, .int 0, .ref q12, .ref q13, .ref q14, .ref q15, .ref q16, .ref q17, .ref q18, .ref q19, .ref q20, .ref q21, .ref q22, .ref q23, .ref q24, .ref q25, .int 0]))]) := by
  refine Kh.of b0 (own := RL) (nm := "lot") [(0, .ref q0), (1, .int x0), (2, .int x1), (3, .int x2), (4, .ref q2)] rfl rfl (by decide +kernel) (Nat.le_of_ble_eq_true rfl) rfl ?_
  intro p e s m below meth c A C hr ht H locs w ls hl
  have hx := C.hx
  have hb := C.hb
  refine lv_aload hx hb dL_lot_0 (lv_at hl 4 rfl) ?_
  refine lv_iconst (v := 0) hx hb dL_lot_2 (by decide) ?_
  refine lv_aload_n hx hb dL_lot_3 rfl (lv_at hl 0 rfl) ?_
  refine lv_iload_n hx hb dL_lot_4 rfl (lv_at hl 1 rfl) ?_
  refine lv_iload_n hx hb dL_lot_5 rfl (lv_at hl 2 rfl) ?_
  refine lv_iload_n hx hb dL_lot_6 rfl (lv_at hl 3 rfl) ?_
  refine fin_x C w (run_Vx C w mv_L_120 (k508_lot C.b0 q0 q1 q3 q4 q5 q6 q7 q8 q9 q10 q11 q12 q13 q14 q15 q16 q17 q18 q19 q20 q21 q22 q23 q24 q25 x0 x1 x2 H.size) [0, 1] rfl rfl 0 rfl rfl (by decide) rfl hl.1 rfl (Nat.le_of_ble_eq_true rfl) dL_lot_7 (cells2 := 1) (slots2 := 6) (by decide)) [0, 1] [] rfl rfl (by decide) (cells2 := 1) (slots2 := 6) (by decide) (fun qx2 ce H locs w hce hcv hcl => ?_)
  have w : Wd s G A [(q0, .inr (11, [.ref q3, .ref q4, .ref q5, .ref q6, .ref q7, .ref q8, .ref q9, .ref q10, .ref q1, .ref q11, .int 0, .int (-1), .int 0, .int 0, .null, .null, .null, .null, .null])), (q1, .inr (2, [.int 0, .int 0, .ref q12, .ref q13, .ref q14, .ref q15, .ref q16, .ref q17, .ref q18, .ref q19, .ref q20, .ref q21, .ref q22, .ref q23, .ref q24, .ref q25, .int 0]))] H locs := w
  refine r_catch C ht (by decide) (by decide) tl_L_24 tk_java_lang_IndexOutOfBoundsException hce hcv hcl ?_
  refine lv_astore (lv' := [(5, .ref qx2), (0, .ref q0), (1, .int x0), (2, .int x1), (3, .int x2), (4, .ref q2)]) hx hb dL_lot_15 hl (by decide) rfl (fun ls hl => ?_)
  refine lv_iconst (v := 1) hx hb dL_lot_17 (by decide) ?_
  exact e_i C hr w (fun _ => 0) [0, 1] rfl rfl rfl dL_lot_18 (by decide) (by decide)
set_option maxRecDepth 100000 in
set_option maxHeartbeats 4000000 in
theorem k510_lot {l : Launch} {s0 : State} {a0 : Array Value} {G : GT} (b0 : B0 l s0 a0 G) (q0 q1 q2 q3 q4 q5 q6 q7 q8 q9 q10 q11 q12 q13 q14 q15 q16 q17 q18 q19 q20 q21 q22 q23 q24 q25 q26 q27 q28 q29 q30 q31 q32 q33 q34 q35 q36 q37 q38 q39 q40 q41 q42 : Nat) (x0 : Int32) (x1 : Int32) (x2 : Int32) (sz : Nat) : Ki l s0 G yX12_lot cX12_lot 4 (some .int) { frames := 2, cells := 0, slots := 0, locals := 44 } [.ref q0, .int x0, .int x1, .int x2] [(q0, .inr (12, [.int 0, .int 0, .int 0, .int 0, .int 0, .int 0, .int 0, .int (-1), .ref q2, .ref q1, .ref q3, .int 0, .ref q4, .ref q5, .ref q6, .ref q7, .ref q8, .ref q9, .ref q10, .int 0, .ref q11, .ref q12, .ref q13, .ref q14, .ref q15, .ref q16, .ref q17, .int 0, .int (-1), .int 0, .ref q18, .ref q19, .ref q20, .ref q21, .ref q22, .ref q23, .ref q24, .ref q25, .int 0, .ref q26, .ref q27, .ref q28, .ref q29, .ref q30, .int 0, .ref q31, .ref q32, .ref q33, .ref q34, .int 0, .ref q35, .ref q36, .ref q37, .ref q38, .int 0, .int 0, .ref q39, .ref q40, .ref q41, .ref q42])), (q1, .inl (G.2.1, 242, .inl (fun _ => 0)))] sz 0 (fun u => [(q0, .inr (12, [.int 1, .int 0, .int 0, .int 0, .int 0, .int 0, .int 0, .int (-1), .ref q2, .ref q1, .ref q3, .int 0, .ref q4, .ref q5, .ref q6, .ref q7, .ref q8, .ref q9, .ref q10, .int 0, .ref q11, .ref q12, .ref q13, .ref q14, .ref q15, .ref q16, .ref q17, .int 0, .int (-1), .int 0, .ref q18, .ref q19, .ref q20, .ref q21, .ref q22, .ref q23, .ref q24, .ref q25, .int 0, .ref q26, .ref q27, .ref q28, .ref q29, .ref q30, .int 0, .ref q31, .ref q32, .ref q33, .ref q34, .int 0, .ref q35, .ref q36, .ref q37, .ref q38, .int 0, .int 0, .ref q39, .ref q40, .ref q41, .ref q42])), (q1, .inl (G.2.1, 242, .inl (fun _ => 0)))]) := by
  refine Ki.of b0 (own := RX12) (nm := "lot") [(0, .ref q0), (1, .int x0), (2, .int x1), (3, .int x2)] rfl rfl (by decide +kernel) (Nat.le_of_ble_eq_true rfl) rfl ?_
  intro p e s m below meth c A C hr H locs w ls hl
  have hx := C.hx
  have hb := C.hb
  refine lv_aload_n hx hb dX12_lot_0 rfl (lv_at hl 0 rfl) ?_
  refine lv_iconst (v := 0) hx hb dX12_lot_1 (by decide) ?_
  refine r_put C w 0 rfl fl_X12_1 (Nat.le_of_ble_eq_true rfl) rfl rfl dX12_lot_2 (ws2 := [(q0, .inr (12, [.int 0, .int 0, .int 0, .int 0, .int 0, .int 0, .int 0, .int (-1), .ref q2, .ref q1, .ref q3, .int 0, .ref q4, .ref q5, .ref q6, .ref q7, .ref q8, .ref q9, .ref q10, .int 0, .ref q11, .ref q12, .ref q13, .ref q14, .ref q15, .ref q16, .ref q17, .int 0, .int (-1), .int 0, .ref q18, .ref q19, .ref q20, .ref q21, .ref q22, .ref q23, .ref q24, .ref q25, .int 0, .ref q26, .ref q27, .ref q28, .ref q29, .ref q30, .int 0, .ref q31, .ref q32, .ref q33, .ref q34, .int 0, .ref q35, .ref q36, .ref q37, .ref q38, .int 0, .int 0, .ref q39, .ref q40, .ref q41, .ref q42])), (q1, .inl (G.2.1, 242, .inl (fun _ => 0)))]) rfl (fun H locs w => ?_)
  refine lv_aload_n hx hb dX12_lot_5 rfl (lv_at hl 0 rfl) ?_
  refine lv_iload_n hx hb dX12_lot_6 rfl (lv_at hl 3 rfl) ?_
  refine lv_iconst (v := 1) hx hb dX12_lot_7 (by decide) ?_
  refine fin_i C w (run_V C w mv_X12_297 (k72_isPlace C.b0 q0 q1 q2 q3 q4 q5 q6 q7 q8 q9 q10 q11 q12 q13 q14 q15 q16 q17 q18 q19 q20 q21 q22 q23 q24 q25 q26 q27 q28 q29 q30 q31 q32 q33 q34 q35 q36 q37 q38 q39 q40 q41 q42 x2 H.size) [0, 1] rfl rfl 0 rfl rfl (by decide) rfl hl.1 rfl (Nat.le_of_ble_eq_true rfl) dX12_lot_8 (cells2 := 0) (slots2 := 0) (by decide)) [0, 1] [] rfl rfl (by decide) (cells2 := 0) (slots2 := 0) (by decide) (fun u1 H locs w => ?_)
  have w : Wd s G A [(q0, .inr (12, [.int 1, .int 0, .int 0, .int 0, .int 0, .int 0, .int 0, .int (-1), .ref q2, .ref q1, .ref q3, .int 0, .ref q4, .ref q5, .ref q6, .ref q7, .ref q8, .ref q9, .ref q10, .int 0, .ref q11, .ref q12, .ref q13, .ref q14, .ref q15, .ref q16, .ref q17, .int 0, .int (-1), .int 0, .ref q18, .ref q19, .ref q20, .ref q21, .ref q22, .ref q23, .ref q24, .ref q25, .int 0, .ref q26, .ref q27, .ref q28, .ref q29, .ref q30, .int 0, .ref q31, .ref q32, .ref q33, .ref q34, .int 0, .ref q35, .ref q36, .ref q37, .ref q38, .int 0, .int 0, .ref q39, .ref q40, .ref q41, .ref q42])), (q1, .inl (G.2.1, 242, .inl (fun _ => 0)))] H locs := w
  refine lv_if_eq (tgt := 26) hx hb dX12_lot_11 (by decide) (fun _ => ?_) (fun h => absurd (by decide) h)
  refine lv_iconst (v := 0) hx hb dX12_lot_26 (by decide) ?_
  exact e_i C hr w (fun _ => 0) [0, 1] rfl rfl rfl dX12_lot_27 (by decide) (by decide)
set_option maxRecDepth 100000 in
set_option maxHeartbeats 4000000 in
theorem k511_often {l : Launch} {s0 : State} {a0 : Array Value} {G : GT} (b0 : B0 l s0 a0 G) (q0 q1 q2 q3 q4 q5 q6 q7 q8 q9 q10 q11 q12 q13 q14 q15 q16 q17 q18 q19 q20 q21 q22 q23 q24 : Nat) (x0 : Int32) (x1 : Int32) (sz : Nat) : Kx l s0 G yX11_often cX11_often 4 (some .int) { frames := 7, cells := 1, slots := 6, locals := 111 } [.ref q0, .int x0, .int x1] [(q0, .inr (11, [.ref q2, .ref q3, .ref q4, .ref q5, .ref q6, .ref q7, .ref q8, .ref q9, .ref q1, .ref q10, .int 0, .int (-1), .int 0, .int 0, .null, .null, .null, .null, .null])), (q1, .inr (2, [.int 0, .int 0, .ref q11, .ref q12, .ref q13, .ref q14, .ref q15, .ref q16, .ref q17, .ref q18, .ref q19, .ref q20, .ref q21, .ref q22, .ref q23, .ref q24, .int 0]))] sz "java/util/NoSuchElementException" := by
  refine Kx.of b0 (own := RX11) (nm := "often") [(0, .ref q0), (1, .int x0), (2, .int x1)] rfl rfl (by decide +kernel) (Nat.le_of_ble_eq_true rfl) rfl ?_
  intro p e s m below meth c A C ht H locs w ls hl
  have hx := C.hx
  have hb := C.hb
  refine lv_aload_n hx hb dX11_often_0 rfl (lv_at hl 0 rfl) ?_
  refine lv_iload_n hx hb dX11_often_1 rfl (lv_at hl 2 rfl) ?_
  refine fin_x C w (run_Vx C w mv_X11_104 (k60_needAct C.b0 q0 q1 q2 q3 q4 q5 q6 q7 q8 q9 q10 q11 q12 q13 q14 q15 q16 q17 q18 q19 q20 q21 q22 q23 q24 x1 H.size) [0, 1] rfl rfl 0 rfl rfl (by decide) rfl hl.1 rfl (Nat.le_of_ble_eq_true rfl) dX11_often_2 (cells2 := 1) (slots2 := 6) (by decide)) [0, 1] [] rfl rfl (by decide) (cells2 := 1) (slots2 := 6) (by decide) (fun qx2 ce H locs w hce hcv hcl => ?_)
  have w : Wd s G A [(q0, .inr (11, [.ref q2, .ref q3, .ref q4, .ref q5, .ref q6, .ref q7, .ref q8, .ref q9, .ref q1, .ref q10, .int 0, .int (-1), .int 0, .int 0, .null, .null, .null, .null, .null])), (q1, .inr (2, [.int 0, .int 0, .ref q11, .ref q12, .ref q13, .ref q14, .ref q15, .ref q16, .ref q17, .ref q18, .ref q19, .ref q20, .ref q21, .ref q22, .ref q23, .ref q24, .int 0]))] H locs := w
  exact r_out C ht w [0, 1] rfl rfl hce hcv hcl (by decide) (by decide)
set_option maxRecDepth 100000 in
set_option maxHeartbeats 4000000 in
theorem k512_often {l : Launch} {s0 : State} {a0 : Array Value} {G : GT} (b0 : B0 l s0 a0 G) (q0 q1 q2 q3 q4 q5 q6 q7 q8 q9 q10 q11 q12 q13 q14 q15 q16 q17 q18 q19 q20 q21 q22 q23 q24 q25 : Nat) (x0 : Int32) (x1 : Int32) (sz : Nat) : Kh l s0 G yL_often cL_often 5 (some .int) [(0, 10, 13, 22), (0, 10, 17, 13)] { frames := 8, cells := 1, slots := 6, locals := 134 } [.ref q0, .int x0, .int x1, .ref q2] [(q0, .inr (11, [.ref q3, .ref q4, .ref q5, .ref q6, .ref q7, .ref q8, .ref q9, .ref q10, .ref q1, .ref q11, .int 0, .int (-1), .int 0, .int 0, .null, .null, .null, .null, .null])), (q1, .inr (2, [.int 0, .int 0, .ref q12, .ref q13, .ref q14, .ref q15, .ref q16, .ref q17, .ref q18, .ref q19, .ref q20, .ref q21, .ref q22, .ref q23, .ref q24, .ref q25, .int 0]))] sz 1 (fun u => [(q0, .inr (11, [.ref q3, .ref q4, .ref q5, .ref q6, .ref q7, .ref q8, .ref q9, .ref q10, .ref q1, .ref q11, .int 0, .int (-1), .int 0, .int 0, .null, .null, .null, .null, .null])), (q1, .inr (2, [.int 0, .int 0, .ref q12, .ref q13, .ref q14, .ref q15, .ref q16, .ref q17, .ref q18, .ref q19, .ref q20, .ref q21, .ref q22, .ref q23, .ref q24, .ref q25, .int 0]))]) := by
  refine Kh.of b0 (own := RL) (nm := "often") [(0, .ref q0), (1, .int x0), (2, .int x1), (3, .ref q2)] rfl rfl (by decide +kernel) (Nat.le_of_ble_eq_true rfl) rfl ?_
  intro p e s m below meth c A C hr ht H locs w ls hl
  have hx := C.hx
  have hb := C.hb
  refine lv_aload_n hx hb dL_often_0 rfl (lv_at hl 3 rfl) ?_
  refine lv_iconst (v := 0) hx hb dL_often_1 (by decide) ?_
  refine lv_aload_n hx hb dL_often_2 rfl (lv_at hl 0 rfl) ?_
  refine lv_iload_n hx hb dL_often_3 rfl (lv_at hl 1 rfl) ?_
  refine lv_iload_n hx hb dL_often_4 rfl (lv_at hl 2 rfl) ?_
  refine fin_x C w (run_Vx C w mv_L_123 (k511_often C.b0 q0 q1 q3 q4 q5 q6 q7 q8 q9 q10 q11 q12 q13 q14 q15 q16 q17 q18 q19 q20 q21 q22 q23 q24 q25 x0 x1 H.size) [0, 1] rfl rfl 0 rfl rfl (by decide) rfl hl.1 rfl (Nat.le_of_ble_eq_true rfl) dL_often_5 (cells2 := 1) (slots2 := 6) (by decide)) [0, 1] [] rfl rfl (by decide) (cells2 := 1) (slots2 := 6) (by decide) (fun qx2 ce H locs w hce hcv hcl => ?_)
  have w : Wd s G A [(q0, .inr (11, [.ref q3, .ref q4, .ref q5, .ref q6, .ref q7, .ref q8, .ref q9, .ref q10, .ref q1, .ref q11, .int 0, .int (-1), .int 0, .int 0, .null, .null, .null, .null, .null])), (q1, .inr (2, [.int 0, .int 0, .ref q12, .ref q13, .ref q14, .ref q15, .ref q16, .ref q17, .ref q18, .ref q19, .ref q20, .ref q21, .ref q22, .ref q23, .ref q24, .ref q25, .int 0]))] H locs := w
  refine r_catch C ht (by decide) (by decide) tl_L_22 tk_java_util_NoSuchElementException hce hcv hcl ?_
  refine lv_astore (lv' := [(4, .ref qx2), (0, .ref q0), (1, .int x0), (2, .int x1), (3, .ref q2)]) hx hb dL_often_13 hl (by decide) rfl (fun ls hl => ?_)
  refine lv_iconst (v := 1) hx hb dL_often_15 (by decide) ?_
  exact e_i C hr w (fun _ => 0) [0, 1] rfl rfl rfl dL_often_16 (by decide) (by decide)
set_option maxRecDepth 100000 in
set_option maxHeartbeats 4000000 in
theorem k513_often {l : Launch} {s0 : State} {a0 : Array Value} {G : GT} (b0 : B0 l s0 a0 G) (q0 q1 q2 q3 q4 q5 q6 q7 q8 q9 q10 q11 q12 q13 q14 q15 q16 q17 q18 q19 q20 q21 q22 q23 q24 q25 q26 q27 q28 q29 q30 q31 q32 q33 q34 q35 q36 q37 q38 q39 q40 q41 q42 : Nat) (x0 : Int32) (x1 : Int32) (sz : Nat) : Ki l s0 G yX12_often cX12_often 9 (some .int) { frames := 2, cells := 0, slots := 0, locals := 44 } [.ref q0, .int x0, .int x1] [(q0, .inr (12, [.int 0, .int 0, .int 0, .int 0, .int 0, .int 0, .int 0, .int (-1), .ref q2, .ref q1, .ref q3, .int 0, .ref q4, .ref q5, .ref q6, .ref q7, .ref q8, .ref q9, .ref q10, .int 0, .ref q11, .ref q12, .ref q13, .ref q14, .ref q15, .ref q16, .ref q17, .int 0, .int (-1), .int 0, .ref q18, .ref q19, .ref q20, .ref q21, .ref q22, .ref q23, .ref q24, .ref q25, .int 0, .ref q26, .ref q27, .ref q28, .ref q29, .ref q30, .int 0, .ref q31, .ref q32, .ref q33, .ref q34, .int 0, .ref q35, .ref q36, .ref q37, .ref q38, .int 0, .int 0, .ref q39, .ref q40, .ref q41, .ref q42])), (q1, .inl (G.2.1, 242, .inl (fun _ => 0)))] sz 0 (fun u => [(q0, .inr (12, [.int 1, .int 0, .int 0, .int 0, .int 0, .int 0, .int 0, .int (-1), .ref q2, .ref q1, .ref q3, .int 0, .ref q4, .ref q5, .ref q6, .ref q7, .ref q8, .ref q9, .ref q10, .int 0, .ref q11, .ref q12, .ref q13, .ref q14, .ref q15, .ref q16, .ref q17, .int 0, .int (-1), .int 0, .ref q18, .ref q19, .ref q20, .ref q21, .ref q22, .ref q23, .ref q24, .ref q25, .int 0, .ref q26, .ref q27, .ref q28, .ref q29, .ref q30, .int 0, .ref q31, .ref q32, .ref q33, .ref q34, .int 0, .ref q35, .ref q36, .ref q37, .ref q38, .int 0, .int 0, .ref q39, .ref q40, .ref q41, .ref q42])), (q1, .inl (G.2.1, 242, .inl (fun _ => 0)))]) := by
  refine Ki.of b0 (own := RX12) (nm := "often") [(0, .ref q0), (1, .int x0), (2, .int x1)] rfl rfl (by decide +kernel) (Nat.le_of_ble_eq_true rfl) rfl ?_
  intro p e s m below meth c A C hr H locs w ls hl
  have hx := C.hx
  have hb := C.hb
  refine lv_aload_n hx hb dX12_often_0 rfl (lv_at hl 0 rfl) ?_
  refine lv_iconst (v := 0) hx hb dX12_often_1 (by decide) ?_
  refine r_put C w 0 rfl fl_X12_1 (Nat.le_of_ble_eq_true rfl) rfl rfl dX12_often_2 (ws2 := [(q0, .inr (12, [.int 0, .int 0, .int 0, .int 0, .int 0, .int 0, .int 0, .int (-1), .ref q2, .ref q1, .ref q3, .int 0, .ref q4, .ref q5, .ref q6, .ref q7, .ref q8, .ref q9, .ref q10, .int 0, .ref q11, .ref q12, .ref q13, .ref q14, .ref q15, .ref q16, .ref q17, .int 0, .int (-1), .int 0, .ref q18, .ref q19, .ref q20, .ref q21, .ref q22, .ref q23, .ref q24, .ref q25, .int 0, .ref q26, .ref q27, .ref q28, .ref q29, .ref q30, .int 0, .ref q31, .ref q32, .ref q33, .ref q34, .int 0, .ref q35, .ref q36, .ref q37, .ref q38, .int 0, .int 0, .ref q39, .ref q40, .ref q41, .ref q42])), (q1, .inl (G.2.1, 242, .inl (fun _ => 0)))]) rfl (fun H locs w => ?_)
  refine lv_aload_n hx hb dX12_often_5 rfl (lv_at hl 0 rfl) ?_
  refine lv_iload_n hx hb dX12_often_6 rfl (lv_at hl 2 rfl) ?_
  refine lv_iconst (v := 1) hx hb dX12_often_7 (by decide) ?_
  refine fin_i C w (run_V C w mv_X12_293 (k64_isAct C.b0 q0 q1 q2 q3 q4 q5 q6 q7 q8 q9 q10 q11 q12 q13 q14 q15 q16 q17 q18 q19 q20 q21 q22 q23 q24 q25 q26 q27 q28 q29 q30 q31 q32 q33 q34 q35 q36 q37 q38 q39 q40 q41 q42 x1 H.size) [0, 1] rfl rfl 0 rfl rfl (by decide) rfl hl.1 rfl (Nat.le_of_ble_eq_true rfl) dX12_often_8 (cells2 := 0) (slots2 := 0) (by decide)) [0, 1] [] rfl rfl (by decide) (cells2 := 0) (slots2 := 0) (by decide) (fun u1 H locs w => ?_)
  have w : Wd s G A [(q0, .inr (12, [.int 1, .int 0, .int 0, .int 0, .int 0, .int 0, .int 0, .int (-1), .ref q2, .ref q1, .ref q3, .int 0, .ref q4, .ref q5, .ref q6, .ref q7, .ref q8, .ref q9, .ref q10, .int 0, .ref q11, .ref q12, .ref q13, .ref q14, .ref q15, .ref q16, .ref q17, .int 0, .int (-1), .int 0, .ref q18, .ref q19, .ref q20, .ref q21, .ref q22, .ref q23, .ref q24, .ref q25, .int 0, .ref q26, .ref q27, .ref q28, .ref q29, .ref q30, .int 0, .ref q31, .ref q32, .ref q33, .ref q34, .int 0, .ref q35, .ref q36, .ref q37, .ref q38, .int 0, .int 0, .ref q39, .ref q40, .ref q41, .ref q42])), (q1, .inl (G.2.1, 242, .inl (fun _ => 0)))] H locs := w
  refine lv_if_eq (tgt := 23) hx hb dX12_often_11 (by decide) (fun _ => ?_) (fun h => absurd (by decide) h)
  refine lv_iconst (v := 0) hx hb dX12_often_23 (by decide) ?_
  exact e_i C hr w (fun _ => 0) [0, 1] rfl rfl rfl dX12_often_24 (by decide) (by decide)
set_option maxRecDepth 100000 in
set_option maxHeartbeats 4000000 in
theorem k514_needed {l : Launch} {s0 : State} {a0 : Array Value} {G : GT} (b0 : B0 l s0 a0 G) (q0 q1 q2 q3 q4 q5 q6 q7 q8 q9 q10 q11 q12 q13 q14 q15 q16 q17 q18 q19 q20 q21 q22 q23 q24 : Nat) (x0 : Int32) (x1 : Int32) (sz : Nat) : Kx l s0 G yX11_needed cX11_needed 5 (some .int) { frames := 7, cells := 1, slots := 6, locals := 111 } [.ref q0, .int x0, .int 0, .int x1] [(q0, .inr (11, [.ref q2, .ref q3, .ref q4, .ref q5, .ref q6, .ref q7, .ref q8, .ref q9, .ref q1, .ref q10, .int 0, .int (-1), .int 0, .int 0, .null, .null, .null, .null, .null])), (q1, .inr (2, [.int 0, .int 0, .ref q11, .ref q12, .ref q13, .ref q14, .ref q15, .ref q16, .ref q17, .ref q18, .ref q19, .ref q20, .ref q21, .ref q22, .ref q23, .ref q24, .int 0]))] sz "java/util/NoSuchElementException" := by
  refine Kx.of b0 (own := RX11) (nm := "needed") [(0, .ref q0), (1, .int x0), (2, .int 0), (3, .int x1)] rfl rfl (by decide +kernel) (Nat.le_of_ble_eq_true rfl) rfl ?_
  intro p e s m below meth c A C ht H locs w ls hl
  have hx := C.hx
  have hb := C.hb
  refine lv_aload_n hx hb dX11_needed_0 rfl (lv_at hl 0 rfl) ?_
  refine lv_iload_n hx hb dX11_needed_1 rfl (lv_at hl 3 rfl) ?_
  refine fin_x C w (run_Vx C w mv_X11_104 (k60_needAct C.b0 q0 q1 q2 q3 q4 q5 q6 q7 q8 q9 q10 q11 q12 q13 q14 q15 q16 q17 q18 q19 q20 q21 q22 q23 q24 x1 H.size) [0, 1] rfl rfl 0 rfl rfl (by decide) rfl hl.1 rfl (Nat.le_of_ble_eq_true rfl) dX11_needed_2 (cells2 := 1) (slots2 := 6) (by decide)) [0, 1] [] rfl rfl (by decide) (cells2 := 1) (slots2 := 6) (by decide) (fun qx2 ce H locs w hce hcv hcl => ?_)
  have w : Wd s G A [(q0, .inr (11, [.ref q2, .ref q3, .ref q4, .ref q5, .ref q6, .ref q7, .ref q8, .ref q9, .ref q1, .ref q10, .int 0, .int (-1), .int 0, .int 0, .null, .null, .null, .null, .null])), (q1, .inr (2, [.int 0, .int 0, .ref q11, .ref q12, .ref q13, .ref q14, .ref q15, .ref q16, .ref q17, .ref q18, .ref q19, .ref q20, .ref q21, .ref q22, .ref q23, .ref q24, .int 0]))] H locs := w
  exact r_out C ht w [0, 1] rfl rfl hce hcv hcl (by decide) (by decide)
set_option maxRecDepth 100000 in
set_option maxHeartbeats 4000000 in
theorem k515_needed {l : Launch} {s0 : State} {a0 : Array Value} {G : GT} (b0 : B0 l s0 a0 G) (q0 q1 q2 q3 q4 q5 q6 q7 q8 q9 q10 q11 q12 q13 q14 q15 q16 q17 q18 q19 q20 q21 q22 q23 q24 q25 : Nat) (x0 : Int32) (x1 : Int32) (sz : Nat) : Kh l s0 G yL_needed cL_needed 6 (some .int) [(0, 12, 15, 22), (0, 12, 19, 13)] { frames := 8, cells := 1, slots := 6, locals := 135 } [.ref q0, .int x0, .int 0, .int x1, .ref q2] [(q0, .inr (11, [.ref q3, .ref q4, .ref q5, .ref q6, .ref q7, .ref q8, .ref q9, .ref q10, .ref q1, .ref q11, .int 0, .int (-1), .int 0, .int 0, .null, .null, .null, .null, .null])), (q1, .inr (2, [.int 0, .int 0, .ref q12, .ref q13, .ref q14, .ref q15, .ref q16, .ref q17, .ref q18, .ref q19, .ref q20, .ref q21, .ref q22, .ref q23, .ref q24, .ref q25, .int 0]))] sz 1 (fun u => [(q0, .inr (11, [.ref q3, .ref q4, .ref q5, .ref q6, .ref q7, .ref q8, .ref q9, .ref q10, .ref q1, .ref q11, .int 0, .int (-1), .int 0, .int 0, .null, .null, .null, .null, .null])), (q1, .inr (2, [.int 0, .int 0, .ref q12, .ref q13, .ref q14, .ref q15, .ref q16, .ref q17, .ref q18, .ref q19, .ref q20, .ref q21, .ref q22, .ref q23, .ref q24, .ref q25, .int 0]))]) := by
  refine Kh.of b0 (own := RL) (nm := "needed") [(0, .ref q0), (1, .int x0), (2, .int 0), (3, .int x1), (4, .ref q2)] rfl rfl (by decide +kernel) (Nat.le_of_ble_eq_true rfl) rfl ?_
  intro p e s m below meth c A C hr ht H locs w ls hl
  have hx := C.hx
  have hb := C.hb
  refine lv_aload hx hb dL_needed_0 (lv_at hl 4 rfl) ?_
  refine lv_iconst (v := 0) hx hb dL_needed_2 (by decide) ?_
  refine lv_aload_n hx hb dL_needed_3 rfl (lv_at hl 0 rfl) ?_
  refine lv_iload_n hx hb dL_needed_4 rfl (lv_at hl 1 rfl) ?_
  refine lv_iload_n hx hb dL_needed_5 rfl (lv_at hl 2 rfl) ?_
  refine lv_iload_n hx hb dL_needed_6 rfl (lv_at hl 3 rfl) ?_
  refine fin_x C w (run_Vx C w mv_L_126 (k514_needed C.b0 q0 q1 q3 q4 q5 q6 q7 q8 q9 q10 q11 q12 q13 q14 q15 q16 q17 q18 q19 q20 q21 q22 q23 q24 q25 x0 x1 H.size) [0, 1] rfl rfl 0 rfl rfl (by decide) rfl hl.1 rfl (Nat.le_of_ble_eq_true rfl) dL_needed_7 (cells2 := 1) (slots2 := 6) (by decide)) [0, 1] [] rfl rfl (by decide) (cells2 := 1) (slots2 := 6) (by decide) (fun qx2 ce H locs w hce hcv hcl => ?_)
  have w : Wd s G A [(q0, .inr (11, [.ref q3, .ref q4, .ref q5, .ref q6, .ref q7, .ref q8, .ref q9, .ref q10, .ref q1, .ref q11, .int 0, .int (-1), .int 0, .int 0, .null, .null, .null, .null, .null])), (q1, .inr (2, [.int 0, .int 0, .ref q12, .ref q13, .ref q14, .ref q15, .ref q16, .ref q17, .ref q18, .ref q19, .ref q20, .ref q21, .ref q22, .ref q23, .ref q24, .ref q25, .int 0]))] H locs := w
  refine r_catch C ht (by decide) (by decide) tl_L_22 tk_java_util_NoSuchElementException hce hcv hcl ?_
  refine lv_astore (lv' := [(5, .ref qx2), (0, .ref q0), (1, .int x0), (2, .int 0), (3, .int x1), (4, .ref q2)]) hx hb dL_needed_15 hl (by decide) rfl (fun ls hl => ?_)
  refine lv_iconst (v := 1) hx hb dL_needed_17 (by decide) ?_
  exact e_i C hr w (fun _ => 0) [0, 1] rfl rfl rfl dL_needed_18 (by decide) (by decide)
set_option maxRecDepth 100000 in
set_option maxHeartbeats 4000000 in
theorem k516_needed {l : Launch} {s0 : State} {a0 : Array Value} {G : GT} (b0 : B0 l s0 a0 G) (q0 q1 q2 q3 q4 q5 q6 q7 q8 q9 q10 q11 q12 q13 q14 q15 q16 q17 q18 q19 q20 q21 q22 q23 q24 q25 q26 q27 q28 q29 q30 q31 q32 q33 q34 q35 q36 q37 q38 q39 q40 q41 q42 : Nat) (x0 : Int32) (x1 : Int32) (sz : Nat) : Ki l s0 G yX12_needed cX12_needed 4 (some .int) { frames := 2, cells := 0, slots := 0, locals := 44 } [.ref q0, .int x0, .int 0, .int x1] [(q0, .inr (12, [.int 0, .int 0, .int 0, .int 0, .int 0, .int 0, .int 0, .int (-1), .ref q2, .ref q1, .ref q3, .int 0, .ref q4, .ref q5, .ref q6, .ref q7, .ref q8, .ref q9, .ref q10, .int 0, .ref q11, .ref q12, .ref q13, .ref q14, .ref q15, .ref q16, .ref q17, .int 0, .int (-1), .int 0, .ref q18, .ref q19, .ref q20, .ref q21, .ref q22, .ref q23, .ref q24, .ref q25, .int 0, .ref q26, .ref q27, .ref q28, .ref q29, .ref q30, .int 0, .ref q31, .ref q32, .ref q33, .ref q34, .int 0, .ref q35, .ref q36, .ref q37, .ref q38, .int 0, .int 0, .ref q39, .ref q40, .ref q41, .ref q42])), (q1, .inl (G.2.1, 242, .inl (fun _ => 0)))] sz 0 (fun u => [(q0, .inr (12, [.int 1, .int 0, .int 0, .int 0, .int 0, .int 0, .int 0, .int (-1), .ref q2, .ref q1, .ref q3, .int 0, .ref q4, .ref q5, .ref q6, .ref q7, .ref q8, .ref q9, .ref q10, .int 0, .ref q11, .ref q12, .ref q13, .ref q14, .ref q15, .ref q16, .ref q17, .int 0, .int (-1), .int 0, .ref q18, .ref q19, .ref q20, .ref q21, .ref q22, .ref q23, .ref q24, .ref q25, .int 0, .ref q26, .ref q27, .ref q28, .ref q29, .ref q30, .int 0, .ref q31, .ref q32, .ref q33, .ref q34, .int 0, .ref q35, .ref q36, .ref q37, .ref q38, .int 0, .int 0, .ref q39, .ref q40, .ref q41, .ref q42])), (q1, .inl (G.2.1, 242, .inl (fun _ => 0)))]) := by
  refine Ki.of b0 (own := RX12) (nm := "needed") [(0, .ref q0), (1, .int x0), (2, .int 0), (3, .int x1)] rfl rfl (by decide +kernel) (Nat.le_of_ble_eq_true rfl) rfl ?_
  intro p e s m below meth c A C hr H locs w ls hl
  have hx := C.hx
  have hb := C.hb
  refine lv_aload_n hx hb dX12_needed_0 rfl (lv_at hl 0 rfl) ?_
  refine lv_iconst (v := 0) hx hb dX12_needed_1 (by decide) ?_
  refine r_put C w 0 rfl fl_X12_1 (Nat.le_of_ble_eq_true rfl) rfl rfl dX12_needed_2 (ws2 := [(q0, .inr (12, [.int 0, .int 0, .int 0, .int 0, .int 0, .int 0, .int 0, .int (-1), .ref q2, .ref q1, .ref q3, .int 0, .ref q4, .ref q5, .ref q6, .ref q7, .ref q8, .ref q9, .ref q10, .int 0, .ref q11, .ref q12, .ref q13, .ref q14, .ref q15, .ref q16, .ref q17, .int 0, .int (-1), .int 0, .ref q18, .ref q19, .ref q20, .ref q21, .ref q22, .ref q23, .ref q24, .ref q25, .int 0, .ref q26, .ref q27, .ref q28, .ref q29, .ref q30, .int 0, .ref q31, .ref q32, .ref q33, .ref q34, .int 0, .ref q35, .ref q36, .ref q37, .ref q38, .int 0, .int 0, .ref q39, .ref q40, .ref q41, .ref q42])), (q1, .inl (G.2.1, 242, .inl (fun _ => 0)))]) rfl (fun H locs w => ?_)
  refine lv_aload_n hx hb dX12_needed_5 rfl (lv_at hl 0 rfl) ?_
  refine lv_iload_n hx hb dX12_needed_6 rfl (lv_at hl 3 rfl) ?_
  refine lv_iconst (v := 1) hx hb dX12_needed_7 (by decide) ?_
  refine fin_i C w (run_V C w mv_X12_293 (k64_isAct C.b0 q0 q1 q2 q3 q4 q5 q6 q7 q8 q9 q10 q11 q12 q13 q14 q15 q16 q17 q18 q19 q20 q21 q22 q23 q24 q25 q26 q27 q28 q29 q30 q31 q32 q33 q34 q35 q36 q37 q38 q39 q40 q41 q42 x1 H.size) [0, 1] rfl rfl 0 rfl rfl (by decide) rfl hl.1 rfl (Nat.le_of_ble_eq_true rfl) dX12_needed_8 (cells2 := 0) (slots2 := 0) (by decide)) [0, 1] [] rfl rfl (by decide) (cells2 := 0) (slots2 := 0) (by decide) (fun u1 H locs w => ?_)
  have w : Wd s G A [(q0, .inr (12, [.int 1, .int 0, .int 0, .int 0, .int 0, .int 0, .int 0, .int (-1), .ref q2, .ref q1, .ref q3, .int 0, .ref q4, .ref q5, .ref q6, .ref q7, .ref q8, .ref q9, .ref q10, .int 0, .ref q11, .ref q12, .ref q13, .ref q14, .ref q15, .ref q16, .ref q17, .int 0, .int (-1), .int 0, .ref q18, .ref q19, .ref q20, .ref q21, .ref q22, .ref q23, .ref q24, .ref q25, .int 0, .ref q26, .ref q27, .ref q28, .ref q29, .ref q30, .int 0, .ref q31, .ref q32, .ref q33, .ref q34, .int 0, .ref q35, .ref q36, .ref q37, .ref q38, .int 0, .int 0, .ref q39, .ref q40, .ref q41, .ref q42])), (q1, .inl (G.2.1, 242, .inl (fun _ => 0)))] H locs := w
  refine lv_if_eq (tgt := 23) hx hb dX12_needed_11 (by decide) (fun _ => ?_) (fun h => absurd (by decide) h)
  refine lv_iconst (v := 0) hx hb dX12_needed_23 (by decide) ?_
  exact e_i C hr w (fun _ => 0) [0, 1] rfl rfl rfl dX12_needed_24 (by decide) (by decide)
set_option maxRecDepth 100000 in
set_option maxHeartbeats 4000000 in
theorem k517_needed {l : Launch} {s0 : State} {a0 : Array Value} {G : GT} (b0 : B0 l s0 a0 G) (q0 q1 q2 q3 q4 q5 q6 q7 q8 q9 q10 q11 q12 q13 q14 q15 q16 q17 q18 q19 q20 q21 q22 q23 q24 : Nat) (x0 : Int32) (x1 : Int32) (sz : Nat) : Kx l s0 G yX11_needed cX11_needed 5 (some .int) { frames := 7, cells := 1, slots := 6, locals := 111 } [.ref q0, .int x0, .int 1, .int x1] [(q0, .inr (11, [.ref q2, .ref q3, .ref q4, .ref q5, .ref q6, .ref q7, .ref q8, .ref q9, .ref q1, .ref q10, .int 0, .int (-1), .int 0, .int 0, .null, .null, .null, .null, .null])), (q1, .inr (2, [.int 0, .int 0, .ref q11, .ref q12, .ref q13, .ref q14, .ref q15, .ref q16, .ref q17, .ref q18, .ref q19, .ref q20, .ref q21, .ref q22, .ref q23, .ref q24, .int 0]))] sz "java/util/NoSuchElementException" := by
  refine Kx.of b0 (own := RX11) (nm := "needed") [(0, .ref q0), (1, .int x0), (2, .int 1), (3, .int x1)] rfl rfl (by decide +kernel) (Nat.le_of_ble_eq_true rfl) rfl ?_
  intro p e s m below meth c A C ht H locs w ls hl
  have hx := C.hx
  have hb := C.hb
  refine lv_aload_n hx hb dX11_needed_0 rfl (lv_at hl 0 rfl) ?_
  refine lv_iload_n hx hb dX11_needed_1 rfl (lv_at hl 3 rfl) ?_
  refine fin_x C w (run_Vx C w mv_X11_104 (k60_needAct C.b0 q0 q1 q2 q3 q4 q5 q6 q7 q8 q9 q10 q11 q12 q13 q14 q15 q16 q17 q18 q19 q20 q21 q22 q23 q24 x1 H.size) [0, 1] rfl rfl 0 rfl rfl (by decide) rfl hl.1 rfl (Nat.le_of_ble_eq_true rfl) dX11_needed_2 (cells2 := 1) (slots2 := 6) (by decide)) [0, 1] [] rfl rfl (by decide) (cells2 := 1) (slots2 := 6) (by decide) (fun qx2 ce H locs w hce hcv hcl => ?_)
  have w : Wd s G A [(q0, .inr (11, [.ref q2, .ref q3, .ref q4, .ref q5, .ref q6, .ref q7, .ref q8, .ref q9, .ref q1, .ref q10, .int 0, .int (-1), .int 0, .int 0, .null, .null, .null, .null, .null])), (q1, .inr (2, [.int 0, .int 0, .ref q11, .ref q12, .ref q13, .ref q14, .ref q15, .ref q16, .ref q17, .ref q18, .ref q19, .ref q20, .ref q21, .ref q22, .ref q23, .ref q24, .int 0]))] H locs := w
  exact r_out C ht w [0, 1] rfl rfl hce hcv hcl (by decide) (by decide)
set_option maxRecDepth 100000 in
set_option maxHeartbeats 4000000 in
theorem k518_needed {l : Launch} {s0 : State} {a0 : Array Value} {G : GT} (b0 : B0 l s0 a0 G) (q0 q1 q2 q3 q4 q5 q6 q7 q8 q9 q10 q11 q12 q13 q14 q15 q16 q17 q18 q19 q20 q21 q22 q23 q24 q25 : Nat) (x0 : Int32) (x1 : Int32) (sz : Nat) : Kh l s0 G yL_needed cL_needed 6 (some .int) [(0, 12, 15, 22), (0, 12, 19, 13)] { frames := 8, cells := 1, slots := 6, locals := 135 } [.ref q0, .int x0, .int 1, .int x1, .ref q2] [(q0, .inr (11, [.ref q3, .ref q4, .ref q5, .ref q6, .ref q7, .ref q8, .ref q9, .ref q10, .ref q1, .ref q11, .int 0, .int (-1), .int 0, .int 0, .null, .null, .null, .null, .null])), (q1, .inr (2, [.int 0, .int 0, .ref q12, .ref q13, .ref q14, .ref q15, .ref q16, .ref q17, .ref q18, .ref q19, .ref q20, .ref q21, .ref q22, .ref q23, .ref q24, .ref q25, .int 0]))] sz 1 (fun u => [(q0, .inr (11, [.ref q3, .ref q4, .ref q5, .ref q6, .ref q7, .ref q8, .ref q9, .ref q10, .ref q1, .ref q11, .int 0, .int (-1), .int 0, .int 0, .null, .null, .null, .null, .null])), (q1, .inr (2, [.int 0, .int 0, .ref q12, .ref q13, .ref q14, .ref q15, .ref q16, .ref q17, .ref q18, .ref q19, .ref q20, .ref q21, .ref q22, .ref q23, .ref q24, .ref q25, .int 0]))]) := by
  refine Kh.of b0 (own := RL) (nm := "needed") [(0, .ref q0), (1, .int x0), (2, .int 1), (3, .int x1), (4, .ref q2)] rfl rfl (by decide +kernel) (Nat.le_of_ble_eq_true rfl) rfl ?_
  intro p e s m below meth c A C hr ht H locs w ls hl
  have hx := C.hx
  have hb := C.hb
  refine lv_aload hx hb dL_needed_0 (lv_at hl 4 rfl) ?_
  refine lv_iconst (v := 0) hx hb dL_needed_2 (by decide) ?_
  refine lv_aload_n hx hb dL_needed_3 rfl (lv_at hl 0 rfl) ?_
  refine lv_iload_n hx hb dL_needed_4 rfl (lv_at hl 1 rfl) ?_
  refine lv_iload_n hx hb dL_needed_5 rfl (lv_at hl 2 rfl) ?_
  refine lv_iload_n hx hb dL_needed_6 rfl (lv_at hl 3 rfl) ?_
  refine fin_x C w (run_Vx C w mv_L_126 (k517_needed C.b0 q0 q1 q3 q4 q5 q6 q7 q8 q9 q10 q11 q12 q13 q14 q15 q16 q17 q18 q19 q20 q21 q22 q23 q24 q25 x0 x1 H.size) [0, 1] rfl rfl 0 rfl rfl (by decide) rfl hl.1 rfl (Nat.le_of_ble_eq_true rfl) dL_needed_7 (cells2 := 1) (slots2 := 6) (by decide)) [0, 1] [] rfl rfl (by decide) (cells2 := 1) (slots2 := 6) (by decide) (fun qx2 ce H locs w hce hcv hcl => ?_)
  have w : Wd s G A [(q0, .inr (11, [.ref q3, .ref q4, .ref q5, .ref q6, .ref q7, .ref q8, .ref q9, .ref q10, .ref q1, .ref q11, .int 0, .int (-1), .int 0, .int 0, .null, .null, .null, .null, .null])), (q1, .inr (2, [.int 0, .int 0, .ref q12, .ref q13, .ref q14, .ref q15, .ref q16, .ref q17, .ref q18, .ref q19, .ref q20, .ref q21, .ref q22, .ref q23, .ref q24, .ref q25, .int 0]))] H locs := w
  refine r_catch C ht (by decide) (by decide) tl_L_22 tk_java_util_NoSuchElementException hce hcv hcl ?_
  refine lv_astore (lv' := [(5, .ref qx2), (0, .ref q0), (1, .int x0), (2, .int 1), (3, .int x1), (4, .ref q2)]) hx hb dL_needed_15 hl (by decide) rfl (fun ls hl => ?_)
  refine lv_iconst (v := 1) hx hb dL_needed_17 (by decide) ?_
  exact e_i C hr w (fun _ => 0) [0, 1] rfl rfl rfl dL_needed_18 (by decide) (by decide)
set_option maxRecDepth 100000 in
set_option maxHeartbeats 4000000 in
theorem k519_needed {l : Launch} {s0 : State} {a0 : Array Value} {G : GT} (b0 : B0 l s0 a0 G) (q0 q1 q2 q3 q4 q5 q6 q7 q8 q9 q10 q11 q12 q13 q14 q15 q16 q17 q18 q19 q20 q21 q22 q23 q24 q25 q26 q27 q28 q29 q30 q31 q32 q33 q34 q35 q36 q37 q38 q39 q40 q41 q42 : Nat) (x0 : Int32) (x1 : Int32) (sz : Nat) : Ki l s0 G yX12_needed cX12_needed 4 (some .int) { frames := 2, cells := 0, slots := 0, locals := 44 } [.ref q0, .int x0, .int 1, .int x1] [(q0, .inr (12, [.int 0, .int 0, .int 0, .int 0, .int 0, .int 0, .int 0, .int (-1), .ref q2, .ref q1, .ref q3, .int 0, .ref q4, .ref q5, .ref q6, .ref q7, .ref q8, .ref q9, .ref q10, .int 0, .ref q11, .ref q12, .ref q13, .ref q14, .ref q15, .ref q16, .ref q17, .int 0, .int (-1), .int 0, .ref q18, .ref q19, .ref q20, .ref q21, .ref q22, .ref q23, .ref q24, .ref q25, .int 0, .ref q26, .ref q27, .ref q28, .ref q29, .ref q30, .int 0, .ref q31, .ref q32, .ref q33, .ref q34, .int 0, .ref q35, .ref q36, .ref q37, .ref q38, .int 0, .int 0, .ref q39, .ref q40, .ref q41, .ref q42])), (q1, .inl (G.2.1, 242, .inl (fun _ => 0)))] sz 0 (fun u => [(q0, .inr (12, [.int 1, .int 0, .int 0, .int 0, .int 0, .int 0, .int 0, .int (-1), .ref q2, .ref q1, .ref q3, .int 0, .ref q4, .ref q5, .ref q6, .ref q7, .ref q8, .ref q9, .ref q10, .int 0, .ref q11, .ref q12, .ref q13, .ref q14, .ref q15, .ref q16, .ref q17, .int 0, .int (-1), .int 0, .ref q18, .ref q19, .ref q20, .ref q21, .ref q22, .ref q23, .ref q24, .ref q25, .int 0, .ref q26, .ref q27, .ref q28, .ref q29, .ref q30, .int 0, .ref q31, .ref q32, .ref q33, .ref q34, .int 0, .ref q35, .ref q36, .ref q37, .ref q38, .int 0, .int 0, .ref q39, .ref q40, .ref q41, .ref q42])), (q1, .inl (G.2.1, 242, .inl (fun _ => 0)))]) := by
  refine Ki.of b0 (own := RX12) (nm := "needed") [(0, .ref q0), (1, .int x0), (2, .int 1), (3, .int x1)] rfl rfl (by decide +kernel) (Nat.le_of_ble_eq_true rfl) rfl ?_
  intro p e s m below meth c A C hr H locs w ls hl
  have hx := C.hx
  have hb := C.hb
  refine lv_aload_n hx hb dX12_needed_0 rfl (lv_at hl 0 rfl) ?_
  refine lv_iconst (v := 0) hx hb dX12_needed_1 (by decide) ?_
  refine r_put C w 0 rfl fl_X12_1 (Nat.le_of_ble_eq_true rfl) rfl rfl dX12_needed_2 (ws2 := [(q0, .inr (12, [.int 0, .int 0, .int 0, .int 0, .int 0, .int 0, .int 0, .int (-1), .ref q2, .ref q1, .ref q3, .int 0, .ref q4, .ref q5, .ref q6, .ref q7, .ref q8, .ref q9, .ref q10, .int 0, .ref q11, .ref q12, .ref q13, .ref q14, .ref q15, .ref q16, .ref q17, .int 0, .int (-1), .int 0, .ref q18, .ref q19, .ref q20, .ref q21, .ref q22, .ref q23, .ref q24, .ref q25, .int 0, .ref q26, .ref q27, .ref q28, .ref q29, .ref q30, .int 0, .ref q31, .ref q32, .ref q33, .ref q34, .int 0, .ref q35, .ref q36, .ref q37, .ref q38, .int 0, .int 0, .ref q39, .ref q40, .ref q41, .ref q42])), (q1, .inl (G.2.1, 242, .inl (fun _ => 0)))]) rfl (fun H locs w => ?_)
  refine lv_aload_n hx hb dX12_needed_5 rfl (lv_at hl 0 rfl) ?_
  refine lv_iload_n hx hb dX12_needed_6 rfl (lv_at hl 3 rfl) ?_
  refine lv_iconst (v := 1) hx hb dX12_needed_7 (by decide) ?_
  refine fin_i C w (run_V C w mv_X12_293 (k64_isAct C.b0 q0 q1 q2 q3 q4 q5 q6 q7 q8 q9 q10 q11 q12 q13 q14 q15 q16 q17 q18 q19 q20 q21 q22 q23 q24 q25 q26 q27 q28 q29 q30 q31 q32 q33 q34 q35 q36 q37 q38 q39 q40 q41 q42 x1 H.size) [0, 1] rfl rfl 0 rfl rfl (by decide) rfl hl.1 rfl (Nat.le_of_ble_eq_true rfl) dX12_needed_8 (cells2 := 0) (slots2 := 0) (by decide)) [0, 1] [] rfl rfl (by decide) (cells2 := 0) (slots2 := 0) (by decide) (fun u1 H locs w => ?_)
  have w : Wd s G A [(q0, .inr (12, [.int 1, .int 0, .int 0, .int 0, .int 0, .int 0, .int 0, .int (-1), .ref q2, .ref q1, .ref q3, .int 0, .ref q4, .ref q5, .ref q6, .ref q7, .ref q8, .ref q9, .ref q10, .int 0, .ref q11, .ref q12, .ref q13, .ref q14, .ref q15, .ref q16, .ref q17, .int 0, .int (-1), .int 0, .ref q18, .ref q19, .ref q20, .ref q21, .ref q22, .ref q23, .ref q24, .ref q25, .int 0, .ref q26, .ref q27, .ref q28, .ref q29, .ref q30, .int 0, .ref q31, .ref q32, .ref q33, .ref q34, .int 0, .ref q35, .ref q36, .ref q37, .ref q38, .int 0, .int 0, .ref q39, .ref q40, .ref q41, .ref q42])), (q1, .inl (G.2.1, 242, .inl (fun _ => 0)))] H locs := w
  refine lv_if_eq (tgt := 23) hx hb dX12_needed_11 (by decide) (fun _ => ?_) (fun h => absurd (by decide) h)
  refine lv_iconst (v := 0) hx hb dX12_needed_23 (by decide) ?_
  exact e_i C hr w (fun _ => 0) [0, 1] rfl rfl rfl dX12_needed_24 (by decide) (by decide)
set_option maxRecDepth 100000 in
set_option maxHeartbeats 4000000 in
theorem k520_deepest {l : Launch} {s0 : State} {a0 : Array Value} {G : GT} (b0 : B0 l s0 a0 G) (q0 : Nat) (x0 : Int32) (x1 : Int32) (h0 : x0 < 1) (sz : Nat) : Kx l s0 G yX11_deepest cX11_deepest 5 (some .int) { frames := 8, cells := 1, slots := 6, locals := 132 } [.ref q0, .int x0, .int x1] [] sz "java/lang/IllegalArgumentException" := by
  refine Kx.of b0 (own := RX11) (nm := "deepest") [(0, .ref q0), (1, .int x0), (2, .int x1)] rfl rfl (by decide +kernel) (Nat.le_of_ble_eq_true rfl) rfl ?_
  intro p e s m below meth c A C ht H locs w ls hl
  have hx := C.hx
  have hb := C.hb
  refine lv_iload_n hx hb dX11_deepest_0 rfl (lv_at hl 1 rfl) ?_
  refine fin_x C w (run_Sx C w ms_X11_161 (k92_needMost C.b0 x0 h0 H.size) [] rfl rfl (by decide) rfl hl.1 rfl (Nat.le_of_ble_eq_true rfl) dX11_deepest_1 (cells2 := 1) (slots2 := 6) (by decide)) [] [] rfl rfl (by decide) (cells2 := 1) (slots2 := 6) (by decide) (fun qx2 ce H locs w hce hcv hcl => ?_)
  have w : Wd s G A [] H locs := w
  exact r_out C ht w [] rfl rfl hce hcv hcl (by decide) (by decide)
set_option maxRecDepth 100000 in
set_option maxHeartbeats 4000000 in
theorem k521_deepest {l : Launch} {s0 : State} {a0 : Array Value} {G : GT} (b0 : B0 l s0 a0 G) (q0 q1 q2 q3 q4 q5 q6 q7 q8 q9 q10 q11 : Nat) (x0 : Int32) (x1 : Int32) (h0 : x0 < 1) (sz : Nat) : Kh l s0 G yL_deepest cL_deepest 5 (some .int) [(0, 10, 13, 13)] { frames := 9, cells := 1, slots := 6, locals := 156 } [.ref q0, .int x0, .int x1, .ref q1] [(q0, .inr (11, [.ref q2, .ref q3, .ref q4, .ref q5, .ref q6, .ref q7, .ref q8, .ref q9, .ref q10, .ref q11, .int 0, .int (-1), .int 0, .int 0, .null, .null, .null, .null, .null]))] sz 1 (fun u => [(q0, .inr (11, [.ref q2, .ref q3, .ref q4, .ref q5, .ref q6, .ref q7, .ref q8, .ref q9, .ref q10, .ref q11, .int 0, .int (-1), .int 0, .int 0, .null, .null, .null, .null, .null]))]) := by
  refine Kh.of b0 (own := RL) (nm := "deepest") [(0, .ref q0), (1, .int x0), (2, .int x1), (3, .ref q1)] rfl rfl (by decide +kernel) (Nat.le_of_ble_eq_true rfl) rfl ?_
  intro p e s m below meth c A C hr ht H locs w ls hl
  have hx := C.hx
  have hb := C.hb
  refine lv_aload_n hx hb dL_deepest_0 rfl (lv_at hl 3 rfl) ?_
  refine lv_iconst (v := 0) hx hb dL_deepest_1 (by decide) ?_
  refine lv_aload_n hx hb dL_deepest_2 rfl (lv_at hl 0 rfl) ?_
  refine lv_iload_n hx hb dL_deepest_3 rfl (lv_at hl 1 rfl) ?_
  refine lv_iload_n hx hb dL_deepest_4 rfl (lv_at hl 2 rfl) ?_
  refine fin_x C w (run_Vx C w mv_L_129 (k520_deepest C.b0 q0 x0 x1 h0 H.size) [] rfl rfl 0 rfl rfl (by decide) rfl hl.1 rfl (Nat.le_of_ble_eq_true rfl) dL_deepest_5 (cells2 := 1) (slots2 := 6) (by decide)) [] [0] rfl rfl (by decide) (cells2 := 1) (slots2 := 6) (by decide) (fun qx2 ce H locs w hce hcv hcl => ?_)
  have w : Wd s G A [(q0, .inr (11, [.ref q2, .ref q3, .ref q4, .ref q5, .ref q6, .ref q7, .ref q8, .ref q9, .ref q10, .ref q11, .int 0, .int (-1), .int 0, .int 0, .null, .null, .null, .null, .null]))] H locs := w
  refine r_catch C ht (by decide) (by decide) tl_L_13 tk_java_lang_IllegalArgumentException hce hcv hcl ?_
  refine lv_astore (lv' := [(4, .ref qx2), (0, .ref q0), (1, .int x0), (2, .int x1), (3, .ref q1)]) hx hb dL_deepest_13 hl (by decide) rfl (fun ls hl => ?_)
  refine lv_iconst (v := 1) hx hb dL_deepest_15 (by decide) ?_
  exact e_i C hr w (fun _ => 0) [0] rfl rfl rfl dL_deepest_16 (by decide) (by decide)
set_option maxRecDepth 100000 in
set_option maxHeartbeats 4000000 in
theorem k522_deepest {l : Launch} {s0 : State} {a0 : Array Value} {G : GT} (b0 : B0 l s0 a0 G) (q0 q1 q2 q3 q4 q5 q6 q7 q8 q9 q10 q11 q12 q13 q14 q15 q16 q17 q18 q19 q20 q21 q22 q23 q24 q25 q26 q27 q28 q29 q30 q31 q32 q33 q34 q35 q36 q37 q38 q39 q40 q41 q42 : Nat) (x0 : Int32) (x1 : Int32) (h0 : x0 < 1) (sz : Nat) : Ki l s0 G yX12_deepest cX12_deepest 5 (some .int) { frames := 2, cells := 0, slots := 0, locals := 44 } [.ref q0, .int x0, .int x1] [(q0, .inr (12, [.int 0, .int 0, .int 0, .int 0, .int 0, .int 0, .int 0, .int (-1), .ref q1, .ref q2, .ref q3, .int 0, .ref q4, .ref q5, .ref q6, .ref q7, .ref q8, .ref q9, .ref q10, .int 0, .ref q11, .ref q12, .ref q13, .ref q14, .ref q15, .ref q16, .ref q17, .int 0, .int (-1), .int 0, .ref q18, .ref q19, .ref q20, .ref q21, .ref q22, .ref q23, .ref q24, .ref q25, .int 0, .ref q26, .ref q27, .ref q28, .ref q29, .ref q30, .int 0, .ref q31, .ref q32, .ref q33, .ref q34, .int 0, .ref q35, .ref q36, .ref q37, .ref q38, .int 0, .int 0, .ref q39, .ref q40, .ref q41, .ref q42]))] sz 0 (fun u => [(q0, .inr (12, [.int 1, .int 0, .int 0, .int 0, .int 0, .int 0, .int 0, .int (-1), .ref q1, .ref q2, .ref q3, .int 0, .ref q4, .ref q5, .ref q6, .ref q7, .ref q8, .ref q9, .ref q10, .int 0, .ref q11, .ref q12, .ref q13, .ref q14, .ref q15, .ref q16, .ref q17, .int 0, .int (-1), .int 0, .ref q18, .ref q19, .ref q20, .ref q21, .ref q22, .ref q23, .ref q24, .ref q25, .int 0, .ref q26, .ref q27, .ref q28, .ref q29, .ref q30, .int 0, .ref q31, .ref q32, .ref q33, .ref q34, .int 0, .ref q35, .ref q36, .ref q37, .ref q38, .int 0, .int 0, .ref q39, .ref q40, .ref q41, .ref q42]))]) := by
  refine Ki.of b0 (own := RX12) (nm := "deepest") [(0, .ref q0), (1, .int x0), (2, .int x1)] rfl rfl (by decide +kernel) (Nat.le_of_ble_eq_true rfl) rfl ?_
  intro p e s m below meth c A C hr H locs w ls hl
  have hx := C.hx
  have hb := C.hb
  refine lv_aload_n hx hb dX12_deepest_0 rfl (lv_at hl 0 rfl) ?_
  refine lv_iconst (v := 0) hx hb dX12_deepest_1 (by decide) ?_
  refine r_put C w 0 rfl fl_X12_1 (Nat.le_of_ble_eq_true rfl) rfl rfl dX12_deepest_2 (ws2 := [(q0, .inr (12, [.int 0, .int 0, .int 0, .int 0, .int 0, .int 0, .int 0, .int (-1), .ref q1, .ref q2, .ref q3, .int 0, .ref q4, .ref q5, .ref q6, .ref q7, .ref q8, .ref q9, .ref q10, .int 0, .ref q11, .ref q12, .ref q13, .ref q14, .ref q15, .ref q16, .ref q17, .int 0, .int (-1), .int 0, .ref q18, .ref q19, .ref q20, .ref q21, .ref q22, .ref q23, .ref q24, .ref q25, .int 0, .ref q26, .ref q27, .ref q28, .ref q29, .ref q30, .int 0, .ref q31, .ref q32, .ref q33, .ref q34, .int 0, .ref q35, .ref q36, .ref q37, .ref q38, .int 0, .int 0, .ref q39, .ref q40, .ref q41, .ref q42]))]) rfl (fun H locs w => ?_)
  refine lv_aload_n hx hb dX12_deepest_5 rfl (lv_at hl 0 rfl) ?_
  refine lv_iload_n hx hb dX12_deepest_6 rfl (lv_at hl 1 rfl) ?_
  refine lv_iconst (v := 1) hx hb dX12_deepest_7 (by decide) ?_
  refine fin_i C w (run_V C w mv_X12_336 (k96_isMost C.b0 q0 q1 q2 q3 q4 q5 q6 q7 q8 q9 q10 q11 q12 q13 q14 q15 q16 q17 q18 q19 q20 q21 q22 q23 q24 q25 q26 q27 q28 q29 q30 q31 q32 q33 q34 q35 q36 q37 q38 q39 q40 q41 q42 x0 h0 H.size) [0] rfl rfl 0 rfl rfl (by decide) rfl hl.1 rfl (Nat.le_of_ble_eq_true rfl) dX12_deepest_8 (cells2 := 0) (slots2 := 0) (by decide)) [0] [] rfl rfl (by decide) (cells2 := 0) (slots2 := 0) (by decide) (fun u1 H locs w => ?_)
  have w : Wd s G A [(q0, .inr (12, [.int 1, .int 0, .int 0, .int 0, .int 0, .int 0, .int 0, .int (-1), .ref q1, .ref q2, .ref q3, .int 0, .ref q4, .ref q5, .ref q6, .ref q7, .ref q8, .ref q9, .ref q10, .int 0, .ref q11, .ref q12, .ref q13, .ref q14, .ref q15, .ref q16, .ref q17, .int 0, .int (-1), .int 0, .ref q18, .ref q19, .ref q20, .ref q21, .ref q22, .ref q23, .ref q24, .ref q25, .int 0, .ref q26, .ref q27, .ref q28, .ref q29, .ref q30, .int 0, .ref q31, .ref q32, .ref q33, .ref q34, .int 0, .ref q35, .ref q36, .ref q37, .ref q38, .int 0, .int 0, .ref q39, .ref q40, .ref q41, .ref q42]))] H locs := w
  refine lv_if_eq (tgt := 28) hx hb dX12_deepest_11 (by decide) (fun _ => ?_) (fun h => absurd (by decide) h)
  refine lv_iconst (v := 0) hx hb dX12_deepest_28 (by decide) ?_
  exact e_i C hr w (fun _ => 0) [0] rfl rfl rfl dX12_deepest_29 (by decide) (by decide)
set_option maxRecDepth 100000 in
set_option maxHeartbeats 4000000 in
theorem k523_deepest {l : Launch} {s0 : State} {a0 : Array Value} {G : GT} (b0 : B0 l s0 a0 G) (q0 : Nat) (x0 : Int32) (x1 : Int32) (h0 : 3000 < x0) (h1 : ¬ x0 < 1) (sz : Nat) : Kx l s0 G yX11_deepest cX11_deepest 5 (some .int) { frames := 8, cells := 1, slots := 6, locals := 132 } [.ref q0, .int x0, .int x1] [] sz "java/lang/IllegalArgumentException" := by
  refine Kx.of b0 (own := RX11) (nm := "deepest") [(0, .ref q0), (1, .int x0), (2, .int x1)] rfl rfl (by decide +kernel) (Nat.le_of_ble_eq_true rfl) rfl ?_
  intro p e s m below meth c A C ht H locs w ls hl
  have hx := C.hx
  have hb := C.hb
  refine lv_iload_n hx hb dX11_deepest_0 rfl (lv_at hl 1 rfl) ?_
  refine fin_x C w (run_Sx C w ms_X11_161 (k99_needMost C.b0 x0 h0 h1 H.size) [] rfl rfl (by decide) rfl hl.1 rfl (Nat.le_of_ble_eq_true rfl) dX11_deepest_1 (cells2 := 1) (slots2 := 6) (by decide)) [] [] rfl rfl (by decide) (cells2 := 1) (slots2 := 6) (by decide) (fun qx2 ce H locs w hce hcv hcl => ?_)
  have w : Wd s G A [] H locs := w
  exact r_out C ht w [] rfl rfl hce hcv hcl (by decide) (by decide)
set_option maxRecDepth 100000 in
set_option maxHeartbeats 4000000 in
theorem k524_deepest {l : Launch} {s0 : State} {a0 : Array Value} {G : GT} (b0 : B0 l s0 a0 G) (q0 q1 q2 q3 q4 q5 q6 q7 q8 q9 q10 q11 : Nat) (x0 : Int32) (x1 : Int32) (h0 : 3000 < x0) (h1 : ¬ x0 < 1) (sz : Nat) : Kh l s0 G yL_deepest cL_deepest 5 (some .int) [(0, 10, 13, 13)] { frames := 9, cells := 1, slots := 6, locals := 156 } [.ref q0, .int x0, .int x1, .ref q1] [(q0, .inr (11, [.ref q2, .ref q3, .ref q4, .ref q5, .ref q6, .ref q7, .ref q8, .ref q9, .ref q10, .ref q11, .int 0, .int (-1), .int 0, .int 0, .null, .null, .null, .null, .null]))] sz 1 (fun u => [(q0, .inr (11, [.ref q2, .ref q3, .ref q4, .ref q5, .ref q6, .ref q7, .ref q8, .ref q9, .ref q10, .ref q11, .int 0, .int (-1), .int 0, .int 0, .null, .null, .null, .null, .null]))]) := by
  refine Kh.of b0 (own := RL) (nm := "deepest") [(0, .ref q0), (1, .int x0), (2, .int x1), (3, .ref q1)] rfl rfl (by decide +kernel) (Nat.le_of_ble_eq_true rfl) rfl ?_
  intro p e s m below meth c A C hr ht H locs w ls hl
  have hx := C.hx
  have hb := C.hb
  refine lv_aload_n hx hb dL_deepest_0 rfl (lv_at hl 3 rfl) ?_
  refine lv_iconst (v := 0) hx hb dL_deepest_1 (by decide) ?_
  refine lv_aload_n hx hb dL_deepest_2 rfl (lv_at hl 0 rfl) ?_
  refine lv_iload_n hx hb dL_deepest_3 rfl (lv_at hl 1 rfl) ?_
  refine lv_iload_n hx hb dL_deepest_4 rfl (lv_at hl 2 rfl) ?_
  refine fin_x C w (run_Vx C w mv_L_129 (k523_deepest C.b0 q0 x0 x1 h0 h1 H.size) [] rfl rfl 0 rfl rfl (by decide) rfl hl.1 rfl (Nat.le_of_ble_eq_true rfl) dL_deepest_5 (cells2 := 1) (slots2 := 6) (by decide)) [] [0] rfl rfl (by decide) (cells2 := 1) (slots2 := 6) (by decide) (fun qx2 ce H locs w hce hcv hcl => ?_)
  have w : Wd s G A [(q0, .inr (11, [.ref q2, .ref q3, .ref q4, .ref q5, .ref q6, .ref q7, .ref q8, .ref q9, .ref q10, .ref q11, .int 0, .int (-1), .int 0, .int 0, .null, .null, .null, .null, .null]))] H locs := w
  refine r_catch C ht (by decide) (by decide) tl_L_13 tk_java_lang_IllegalArgumentException hce hcv hcl ?_
  refine lv_astore (lv' := [(4, .ref qx2), (0, .ref q0), (1, .int x0), (2, .int x1), (3, .ref q1)]) hx hb dL_deepest_13 hl (by decide) rfl (fun ls hl => ?_)
  refine lv_iconst (v := 1) hx hb dL_deepest_15 (by decide) ?_
  exact e_i C hr w (fun _ => 0) [0] rfl rfl rfl dL_deepest_16 (by decide) (by decide)
set_option maxRecDepth 100000 in
set_option maxHeartbeats 4000000 in
theorem k525_deepest {l : Launch} {s0 : State} {a0 : Array Value} {G : GT} (b0 : B0 l s0 a0 G) (q0 q1 q2 q3 q4 q5 q6 q7 q8 q9 q10 q11 q12 q13 q14 q15 q16 q17 q18 q19 q20 q21 q22 q23 q24 q25 q26 q27 q28 q29 q30 q31 q32 q33 q34 q35 q36 q37 q38 q39 q40 q41 q42 : Nat) (x0 : Int32) (x1 : Int32) (h0 : 3000 < x0) (h1 : ¬ x0 < 1) (sz : Nat) : Ki l s0 G yX12_deepest cX12_deepest 5 (some .int) { frames := 2, cells := 0, slots := 0, locals := 44 } [.ref q0, .int x0, .int x1] [(q0, .inr (12, [.int 0, .int 0, .int 0, .int 0, .int 0, .int 0, .int 0, .int (-1), .ref q1, .ref q2, .ref q3, .int 0, .ref q4, .ref q5, .ref q6, .ref q7, .ref q8, .ref q9, .ref q10, .int 0, .ref q11, .ref q12, .ref q13, .ref q14, .ref q15, .ref q16, .ref q17, .int 0, .int (-1), .int 0, .ref q18, .ref q19, .ref q20, .ref q21, .ref q22, .ref q23, .ref q24, .ref q25, .int 0, .ref q26, .ref q27, .ref q28, .ref q29, .ref q30, .int 0, .ref q31, .ref q32, .ref q33, .ref q34, .int 0, .ref q35, .ref q36, .ref q37, .ref q38, .int 0, .int 0, .ref q39, .ref q40, .ref q41, .ref q42]))] sz 0 (fun u => [(q0, .inr (12, [.int 1, .int 0, .int 0, .int 0, .int 0, .int 0, .int 0, .int (-1), .ref q1, .ref q2, .ref q3, .int 0, .ref q4, .ref q5, .ref q6, .ref q7, .ref q8, .ref q9, .ref q10, .int 0, .ref q11, .ref q12, .ref q13, .ref q14, .ref q15, .ref q16, .ref q17, .int 0, .int (-1), .int 0, .ref q18, .ref q19, .ref q20, .ref q21, .ref q22, .ref q23, .ref q24, .ref q25, .int 0, .ref q26, .ref q27, .ref q28, .ref q29, .ref q30, .int 0, .ref q31, .ref q32, .ref q33, .ref q34, .int 0, .ref q35, .ref q36, .ref q37, .ref q38, .int 0, .int 0, .ref q39, .ref q40, .ref q41, .ref q42]))]) := by
  refine Ki.of b0 (own := RX12) (nm := "deepest") [(0, .ref q0), (1, .int x0), (2, .int x1)] rfl rfl (by decide +kernel) (Nat.le_of_ble_eq_true rfl) rfl ?_
  intro p e s m below meth c A C hr H locs w ls hl
  have hx := C.hx
  have hb := C.hb
  refine lv_aload_n hx hb dX12_deepest_0 rfl (lv_at hl 0 rfl) ?_
  refine lv_iconst (v := 0) hx hb dX12_deepest_1 (by decide) ?_
  refine r_put C w 0 rfl fl_X12_1 (Nat.le_of_ble_eq_true rfl) rfl rfl dX12_deepest_2 (ws2 := [(q0, .inr (12, [.int 0, .int 0, .int 0, .int 0, .int 0, .int 0, .int 0, .int (-1), .ref q1, .ref q2, .ref q3, .int 0, .ref q4, .ref q5, .ref q6, .ref q7, .ref q8, .ref q9, .ref q10, .int 0, .ref q11, .ref q12, .ref q13, .ref q14, .ref q15, .ref q16, .ref q17, .int 0, .int (-1), .int 0, .ref q18, .ref q19, .ref q20, .ref q21, .ref q22, .ref q23, .ref q24, .ref q25, .int 0, .ref q26, .ref q27, .ref q28, .ref q29, .ref q30, .int 0, .ref q31, .ref q32, .ref q33, .ref q34, .int 0, .ref q35, .ref q36, .ref q37, .ref q38, .int 0, .int 0, .ref q39, .ref q40, .ref q41, .ref q42]))]) rfl (fun H locs w => ?_)
  refine lv_aload_n hx hb dX12_deepest_5 rfl (lv_at hl 0 rfl) ?_
  refine lv_iload_n hx hb dX12_deepest_6 rfl (lv_at hl 1 rfl) ?_
  refine lv_iconst (v := 1) hx hb dX12_deepest_7 (by decide) ?_
  refine fin_i C w (run_V C w mv_X12_336 (k103_isMost C.b0 q0 q1 q2 q3 q4 q5 q6 q7 q8 q9 q10 q11 q12 q13 q14 q15 q16 q17 q18 q19 q20 q21 q22 q23 q24 q25 q26 q27 q28 q29 q30 q31 q32 q33 q34 q35 q36 q37 q38 q39 q40 q41 q42 x0 h0 h1 H.size) [0] rfl rfl 0 rfl rfl (by decide) rfl hl.1 rfl (Nat.le_of_ble_eq_true rfl) dX12_deepest_8 (cells2 := 0) (slots2 := 0) (by decide)) [0] [] rfl rfl (by decide) (cells2 := 0) (slots2 := 0) (by decide) (fun u1 H locs w => ?_)
  have w : Wd s G A [(q0, .inr (12, [.int 1, .int 0, .int 0, .int 0, .int 0, .int 0, .int 0, .int (-1), .ref q1, .ref q2, .ref q3, .int 0, .ref q4, .ref q5, .ref q6, .ref q7, .ref q8, .ref q9, .ref q10, .int 0, .ref q11, .ref q12, .ref q13, .ref q14, .ref q15, .ref q16, .ref q17, .int 0, .int (-1), .int 0, .ref q18, .ref q19, .ref q20, .ref q21, .ref q22, .ref q23, .ref q24, .ref q25, .int 0, .ref q26, .ref q27, .ref q28, .ref q29, .ref q30, .int 0, .ref q31, .ref q32, .ref q33, .ref q34, .int 0, .ref q35, .ref q36, .ref q37, .ref q38, .int 0, .int 0, .ref q39, .ref q40, .ref q41, .ref q42]))] H locs := w
  refine lv_if_eq (tgt := 28) hx hb dX12_deepest_11 (by decide) (fun _ => ?_) (fun h => absurd (by decide) h)
  refine lv_iconst (v := 0) hx hb dX12_deepest_28 (by decide) ?_
  exact e_i C hr w (fun _ => 0) [0] rfl rfl rfl dX12_deepest_29 (by decide) (by decide)
set_option maxRecDepth 100000 in
set_option maxHeartbeats 4000000 in
theorem k526_deepest {l : Launch} {s0 : State} {a0 : Array Value} {G : GT} (b0 : B0 l s0 a0 G) (q0 : Nat) (x0 : Int32) (x1 : Int32) (h0 : ¬ 3000 < x0) (h1 : ¬ x0 < 1) (h2 : x1 < 0) (sz : Nat) : Kx l s0 G yX11_deepest cX11_deepest 5 (some .int) { frames := 7, cells := 1, slots := 6, locals := 112 } [.ref q0, .int x0, .int x1] [] sz "java/lang/IllegalArgumentException" := by
  refine Kx.of b0 (own := RX11) (nm := "deepest") [(0, .ref q0), (1, .int x0), (2, .int x1)] rfl rfl (by decide +kernel) (Nat.le_of_ble_eq_true rfl) rfl ?_
  intro p e s m below meth c A C ht H locs w ls hl
  have hx := C.hx
  have hb := C.hb
  refine lv_iload_n hx hb dX11_deepest_0 rfl (lv_at hl 1 rfl) ?_
  refine fin_v C w (run_S C w ms_X11_161 (k106_needMost C.b0 x0 h0 h1 H.size) [] rfl rfl (by decide) rfl hl.1 rfl (Nat.le_of_ble_eq_true rfl) dX11_deepest_1 (cells2 := 0) (slots2 := 0) (by decide)) [] [] rfl rfl (by decide) (cells2 := 0) (slots2 := 0) (by decide) (fun u1 H locs w => ?_)
  have w : Wd s G A [] H locs := w
  refine lv_iload_n hx hb dX11_deepest_4 rfl (lv_at hl 2 rfl) ?_
  refine lv_iconst (v := 0) hx hb dX11_deepest_5 (by decide) ?_
  refine lv_iconst (v := 1) hx hb dX11_deepest_6 (by decide) ?_
  refine fin_x C w (run_Sx C w ms_X11_72 (k42_needWithin C.b0 x1 h2 H.size) [] rfl rfl (by decide) rfl hl.1 rfl (Nat.le_of_ble_eq_true rfl) dX11_deepest_7 (cells2 := 1) (slots2 := 6) (by decide)) [] [] rfl rfl (by decide) (cells2 := 1) (slots2 := 6) (by decide) (fun qx3 ce H locs w hce hcv hcl => ?_)
  have w : Wd s G A [] H locs := w
  exact r_out C ht w [] rfl rfl hce hcv hcl (by decide) (by decide)
set_option maxRecDepth 100000 in
set_option maxHeartbeats 4000000 in
theorem k527_deepest {l : Launch} {s0 : State} {a0 : Array Value} {G : GT} (b0 : B0 l s0 a0 G) (q0 q1 q2 q3 q4 q5 q6 q7 q8 q9 q10 q11 : Nat) (x0 : Int32) (x1 : Int32) (h0 : ¬ 3000 < x0) (h1 : ¬ x0 < 1) (h2 : x1 < 0) (sz : Nat) : Kh l s0 G yL_deepest cL_deepest 5 (some .int) [(0, 10, 13, 13)] { frames := 8, cells := 1, slots := 6, locals := 136 } [.ref q0, .int x0, .int x1, .ref q1] [(q0, .inr (11, [.ref q2, .ref q3, .ref q4, .ref q5, .ref q6, .ref q7, .ref q8, .ref q9, .ref q10, .ref q11, .int 0, .int (-1), .int 0, .int 0, .null, .null, .null, .null, .null]))] sz 1 (fun u => [(q0, .inr (11, [.ref q2, .ref q3, .ref q4, .ref q5, .ref q6, .ref q7, .ref q8, .ref q9, .ref q10, .ref q11, .int 0, .int (-1), .int 0, .int 0, .null, .null, .null, .null, .null]))]) := by
  refine Kh.of b0 (own := RL) (nm := "deepest") [(0, .ref q0), (1, .int x0), (2, .int x1), (3, .ref q1)] rfl rfl (by decide +kernel) (Nat.le_of_ble_eq_true rfl) rfl ?_
  intro p e s m below meth c A C hr ht H locs w ls hl
  have hx := C.hx
  have hb := C.hb
  refine lv_aload_n hx hb dL_deepest_0 rfl (lv_at hl 3 rfl) ?_
  refine lv_iconst (v := 0) hx hb dL_deepest_1 (by decide) ?_
  refine lv_aload_n hx hb dL_deepest_2 rfl (lv_at hl 0 rfl) ?_
  refine lv_iload_n hx hb dL_deepest_3 rfl (lv_at hl 1 rfl) ?_
  refine lv_iload_n hx hb dL_deepest_4 rfl (lv_at hl 2 rfl) ?_
  refine fin_x C w (run_Vx C w mv_L_129 (k526_deepest C.b0 q0 x0 x1 h0 h1 h2 H.size) [] rfl rfl 0 rfl rfl (by decide) rfl hl.1 rfl (Nat.le_of_ble_eq_true rfl) dL_deepest_5 (cells2 := 1) (slots2 := 6) (by decide)) [] [0] rfl rfl (by decide) (cells2 := 1) (slots2 := 6) (by decide) (fun qx2 ce H locs w hce hcv hcl => ?_)
  have w : Wd s G A [(q0, .inr (11, [.ref q2, .ref q3, .ref q4, .ref q5, .ref q6, .ref q7, .ref q8, .ref q9, .ref q10, .ref q11, .int 0, .int (-1), .int 0, .int 0, .null, .null, .null, .null, .null]))] H locs := w
  refine r_catch C ht (by decide) (by decide) tl_L_13 tk_java_lang_IllegalArgumentException hce hcv hcl ?_
  refine lv_astore (lv' := [(4, .ref qx2), (0, .ref q0), (1, .int x0), (2, .int x1), (3, .ref q1)]) hx hb dL_deepest_13 hl (by decide) rfl (fun ls hl => ?_)
  refine lv_iconst (v := 1) hx hb dL_deepest_15 (by decide) ?_
  exact e_i C hr w (fun _ => 0) [0] rfl rfl rfl dL_deepest_16 (by decide) (by decide)
set_option maxRecDepth 100000 in
set_option maxHeartbeats 4000000 in
theorem k528_deepest {l : Launch} {s0 : State} {a0 : Array Value} {G : GT} (b0 : B0 l s0 a0 G) (q0 q1 q2 q3 q4 q5 q6 q7 q8 q9 q10 q11 q12 q13 q14 q15 q16 q17 q18 q19 q20 q21 q22 q23 q24 q25 q26 q27 q28 q29 q30 q31 q32 q33 q34 q35 q36 q37 q38 q39 q40 q41 q42 : Nat) (x0 : Int32) (x1 : Int32) (h0 : ¬ 3000 < x0) (h1 : ¬ x0 < 1) (h2 : x1 < 0) (sz : Nat) : Ki l s0 G yX12_deepest cX12_deepest 5 (some .int) { frames := 2, cells := 0, slots := 0, locals := 44 } [.ref q0, .int x0, .int x1] [(q0, .inr (12, [.int 0, .int 0, .int 0, .int 0, .int 0, .int 0, .int 0, .int (-1), .ref q1, .ref q2, .ref q3, .int 0, .ref q4, .ref q5, .ref q6, .ref q7, .ref q8, .ref q9, .ref q10, .int 0, .ref q11, .ref q12, .ref q13, .ref q14, .ref q15, .ref q16, .ref q17, .int 0, .int (-1), .int 0, .ref q18, .ref q19, .ref q20, .ref q21, .ref q22, .ref q23, .ref q24, .ref q25, .int 0, .ref q26, .ref q27, .ref q28, .ref q29, .ref q30, .int 0, .ref q31, .ref q32, .ref q33, .ref q34, .int 0, .ref q35, .ref q36, .ref q37, .ref q38, .int 0, .int 0, .ref q39, .ref q40, .ref q41, .ref q42]))] sz 0 (fun u => [(q0, .inr (12, [.int 1, .int 0, .int 0, .int 0, .int 0, .int 0, .int 0, .int (-1), .ref q1, .ref q2, .ref q3, .int 0, .ref q4, .ref q5, .ref q6, .ref q7, .ref q8, .ref q9, .ref q10, .int 0, .ref q11, .ref q12, .ref q13, .ref q14, .ref q15, .ref q16, .ref q17, .int 0, .int (-1), .int 0, .ref q18, .ref q19, .ref q20, .ref q21, .ref q22, .ref q23, .ref q24, .ref q25, .int 0, .ref q26, .ref q27, .ref q28, .ref q29, .ref q30, .int 0, .ref q31, .ref q32, .ref q33, .ref q34, .int 0, .ref q35, .ref q36, .ref q37, .ref q38, .int 0, .int 0, .ref q39, .ref q40, .ref q41, .ref q42]))]) := by
  refine Ki.of b0 (own := RX12) (nm := "deepest") [(0, .ref q0), (1, .int x0), (2, .int x1)] rfl rfl (by decide +kernel) (Nat.le_of_ble_eq_true rfl) rfl ?_
  intro p e s m below meth c A C hr H locs w ls hl
  have hx := C.hx
  have hb := C.hb
  refine lv_aload_n hx hb dX12_deepest_0 rfl (lv_at hl 0 rfl) ?_
  refine lv_iconst (v := 0) hx hb dX12_deepest_1 (by decide) ?_
  refine r_put C w 0 rfl fl_X12_1 (Nat.le_of_ble_eq_true rfl) rfl rfl dX12_deepest_2 (ws2 := [(q0, .inr (12, [.int 0, .int 0, .int 0, .int 0, .int 0, .int 0, .int 0, .int (-1), .ref q1, .ref q2, .ref q3, .int 0, .ref q4, .ref q5, .ref q6, .ref q7, .ref q8, .ref q9, .ref q10, .int 0, .ref q11, .ref q12, .ref q13, .ref q14, .ref q15, .ref q16, .ref q17, .int 0, .int (-1), .int 0, .ref q18, .ref q19, .ref q20, .ref q21, .ref q22, .ref q23, .ref q24, .ref q25, .int 0, .ref q26, .ref q27, .ref q28, .ref q29, .ref q30, .int 0, .ref q31, .ref q32, .ref q33, .ref q34, .int 0, .ref q35, .ref q36, .ref q37, .ref q38, .int 0, .int 0, .ref q39, .ref q40, .ref q41, .ref q42]))]) rfl (fun H locs w => ?_)
  refine lv_aload_n hx hb dX12_deepest_5 rfl (lv_at hl 0 rfl) ?_
  refine lv_iload_n hx hb dX12_deepest_6 rfl (lv_at hl 1 rfl) ?_
  refine lv_iconst (v := 1) hx hb dX12_deepest_7 (by decide) ?_
  refine fin_i C w (run_V C w mv_X12_336 (k120_isMost C.b0 q0 q1 q2 q3 q4 q5 q6 q7 q8 q9 q10 q11 q12 q13 q14 q15 q16 q17 q18 q19 q20 q21 q22 q23 q24 q25 q26 q27 q28 q29 q30 q31 q32 q33 q34 q35 q36 q37 q38 q39 q40 q41 q42 x0 h0 h1 H.size) [0] rfl rfl 0 rfl rfl (by decide) rfl hl.1 rfl (Nat.le_of_ble_eq_true rfl) dX12_deepest_8 (cells2 := 0) (slots2 := 0) (by decide)) [0] [] rfl rfl (by decide) (cells2 := 0) (slots2 := 0) (by decide) (fun u1 H locs w => ?_)
  have w : Wd s G A [(q0, .inr (12, [.int 0, .int 0, .int 0, .int 0, .int 0, .int 0, .int 0, .int (-1), .ref q1, .ref q2, .ref q3, .int 0, .ref q4, .ref q5, .ref q6, .ref q7, .ref q8, .ref q9, .ref q10, .int 0, .ref q11, .ref q12, .ref q13, .ref q14, .ref q15, .ref q16, .ref q17, .int 0, .int (-1), .int 0, .ref q18, .ref q19, .ref q20, .ref q21, .ref q22, .ref q23, .ref q24, .ref q25, .int 0, .ref q26, .ref q27, .ref q28, .ref q29, .ref q30, .int 0, .ref q31, .ref q32, .ref q33, .ref q34, .int 0, .ref q35, .ref q36, .ref q37, .ref q38, .int 0, .int 0, .ref q39, .ref q40, .ref q41, .ref q42]))] H locs := w
  refine lv_if_eq (tgt := 28) hx hb dX12_deepest_11 (by decide) (fun h => absurd h (by decide)) (fun _ => ?_)
  refine lv_aload_n hx hb dX12_deepest_14 rfl (lv_at hl 0 rfl) ?_
  refine lv_iload_n hx hb dX12_deepest_15 rfl (lv_at hl 2 rfl) ?_
  refine lv_iconst (v := 0) hx hb dX12_deepest_16 (by decide) ?_
  refine lv_iconst (v := 1) hx hb dX12_deepest_17 (by decide) ?_
  refine fin_i C w (run_S C w ms_X12_289 (k45_within C.b0 x1 h2 H.size) [] rfl rfl (by decide) rfl hl.1 rfl (Nat.le_of_ble_eq_true rfl) dX12_deepest_18 (cells2 := 0) (slots2 := 0) (by decide)) [] [0] rfl rfl (by decide) (cells2 := 0) (slots2 := 0) (by decide) (fun u2 H locs w => ?_)
  have w : Wd s G A [(q0, .inr (12, [.int 0, .int 0, .int 0, .int 0, .int 0, .int 0, .int 0, .int (-1), .ref q1, .ref q2, .ref q3, .int 0, .ref q4, .ref q5, .ref q6, .ref q7, .ref q8, .ref q9, .ref q10, .int 0, .ref q11, .ref q12, .ref q13, .ref q14, .ref q15, .ref q16, .ref q17, .int 0, .int (-1), .int 0, .ref q18, .ref q19, .ref q20, .ref q21, .ref q22, .ref q23, .ref q24, .ref q25, .int 0, .ref q26, .ref q27, .ref q28, .ref q29, .ref q30, .int 0, .ref q31, .ref q32, .ref q33, .ref q34, .int 0, .ref q35, .ref q36, .ref q37, .ref q38, .int 0, .int 0, .ref q39, .ref q40, .ref q41, .ref q42]))] H locs := w
  refine lv_iconst (v := 1) hx hb dX12_deepest_21 (by decide) ?_
  refine fin_i C w (run_V C w mv_X12_267 (k18_may C.b0 q0 q1 q2 q3 q4 q5 q6 q7 q8 q9 q10 q11 q12 q13 q14 q15 q16 q17 q18 q19 q20 q21 q22 q23 q24 q25 q26 q27 q28 q29 q30 q31 q32 q33 q34 q35 q36 q37 q38 q39 q40 q41 q42 H.size) [0] rfl rfl 0 rfl rfl (by decide) rfl hl.1 rfl (Nat.le_of_ble_eq_true rfl) dX12_deepest_22 (cells2 := 0) (slots2 := 0) (by decide)) [0] [] rfl rfl (by decide) (cells2 := 0) (slots2 := 0) (by decide) (fun u3 H locs w => ?_)
  have w : Wd s G A [(q0, .inr (12, [.int 1, .int 0, .int 0, .int 0, .int 0, .int 0, .int 0, .int (-1), .ref q1, .ref q2, .ref q3, .int 0, .ref q4, .ref q5, .ref q6, .ref q7, .ref q8, .ref q9, .ref q10, .int 0, .ref q11, .ref q12, .ref q13, .ref q14, .ref q15, .ref q16, .ref q17, .int 0, .int (-1), .int 0, .ref q18, .ref q19, .ref q20, .ref q21, .ref q22, .ref q23, .ref q24, .ref q25, .int 0, .ref q26, .ref q27, .ref q28, .ref q29, .ref q30, .int 0, .ref q31, .ref q32, .ref q33, .ref q34, .int 0, .ref q35, .ref q36, .ref q37, .ref q38, .int 0, .int 0, .ref q39, .ref q40, .ref q41, .ref q42]))] H locs := w
  refine lv_if_ne (tgt := 30) hx hb dX12_deepest_25 (by decide) (fun h => absurd (by decide) h) (fun _ => ?_)
  refine lv_iconst (v := 0) hx hb dX12_deepest_28 (by decide) ?_
  exact e_i C hr w (fun _ => 0) [0] rfl rfl rfl dX12_deepest_29 (by decide) (by decide)
set_option maxRecDepth 100000 in
set_option maxHeartbeats 4000000 in
theorem k529_deepest {l : Launch} {s0 : State} {a0 : Array Value} {G : GT} (b0 : B0 l s0 a0 G) (q0 : Nat) (x0 : Int32) (x1 : Int32) (h0 : 1 < x1) (h1 : ¬ 3000 < x0) (h2 : ¬ x0 < 1) (h3 : ¬ x1 < 0) (sz : Nat) : Kx l s0 G yX11_deepest cX11_deepest 5 (some .int) { frames := 7, cells := 1, slots := 6, locals := 112 } [.ref q0, .int x0, .int x1] [] sz "java/lang/IllegalArgumentException" := by
  refine Kx.of b0 (own := RX11) (nm := "deepest") [(0, .ref q0), (1, .int x0), (2, .int x1)] rfl rfl (by decide +kernel) (Nat.le_of_ble_eq_true rfl) rfl ?_
  intro p e s m below meth c A C ht H locs w ls hl
  have hx := C.hx
  have hb := C.hb
  refine lv_iload_n hx hb dX11_deepest_0 rfl (lv_at hl 1 rfl) ?_
  refine fin_v C w (run_S C w ms_X11_161 (k106_needMost C.b0 x0 h1 h2 H.size) [] rfl rfl (by decide) rfl hl.1 rfl (Nat.le_of_ble_eq_true rfl) dX11_deepest_1 (cells2 := 0) (slots2 := 0) (by decide)) [] [] rfl rfl (by decide) (cells2 := 0) (slots2 := 0) (by decide) (fun u1 H locs w => ?_)
  have w : Wd s G A [] H locs := w
  refine lv_iload_n hx hb dX11_deepest_4 rfl (lv_at hl 2 rfl) ?_
  refine lv_iconst (v := 0) hx hb dX11_deepest_5 (by decide) ?_
  refine lv_iconst (v := 1) hx hb dX11_deepest_6 (by decide) ?_
  refine fin_x C w (run_Sx C w ms_X11_72 (k47_needWithin C.b0 x1 h0 h3 H.size) [] rfl rfl (by decide) rfl hl.1 rfl (Nat.le_of_ble_eq_true rfl) dX11_deepest_7 (cells2 := 1) (slots2 := 6) (by decide)) [] [] rfl rfl (by decide) (cells2 := 1) (slots2 := 6) (by decide) (fun qx3 ce H locs w hce hcv hcl => ?_)
  have w : Wd s G A [] H locs := w
  exact r_out C ht w [] rfl rfl hce hcv hcl (by decide) (by decide)
set_option maxRecDepth 100000 in
set_option maxHeartbeats 4000000 in
theorem k530_deepest {l : Launch} {s0 : State} {a0 : Array Value} {G : GT} (b0 : B0 l s0 a0 G) (q0 q1 q2 q3 q4 q5 q6 q7 q8 q9 q10 q11 : Nat) (x0 : Int32) (x1 : Int32) (h0 : 1 < x1) (h1 : ¬ 3000 < x0) (h2 : ¬ x0 < 1) (h3 : ¬ x1 < 0) (sz : Nat) : Kh l s0 G yL_deepest cL_deepest 5 (some .int) [(0, 10, 13, 13)] { frames := 8, cells := 1, slots := 6, locals := 136 } [.ref q0, .int x0, .int x1, .ref q1] [(q0, .inr (11, [.ref q2, .ref q3, .ref q4, .ref q5, .ref q6, .ref q7, .ref q8, .ref q9, .ref q10, .ref q11, .int 0, .int (-1), .int 0, .int 0, .null, .null, .null, .null, .null]))] sz 1 (fun u => [(q0, .inr (11, [.ref q2, .ref q3, .ref q4, .ref q5, .ref q6, .ref q7, .ref q8, .ref q9, .ref q10, .ref q11, .int 0, .int (-1), .int 0, .int 0, .null, .null, .null, .null, .null]))]) := by
  refine Kh.of b0 (own := RL) (nm := "deepest") [(0, .ref q0), (1, .int x0), (2, .int x1), (3, .ref q1)] rfl rfl (by decide +kernel) (Nat.le_of_ble_eq_true rfl) rfl ?_
  intro p e s m below meth c A C hr ht H locs w ls hl
  have hx := C.hx
  have hb := C.hb
  refine lv_aload_n hx hb dL_deepest_0 rfl (lv_at hl 3 rfl) ?_
  refine lv_iconst (v := 0) hx hb dL_deepest_1 (by decide) ?_
  refine lv_aload_n hx hb dL_deepest_2 rfl (lv_at hl 0 rfl) ?_
  refine lv_iload_n hx hb dL_deepest_3 rfl (lv_at hl 1 rfl) ?_
  refine lv_iload_n hx hb dL_deepest_4 rfl (lv_at hl 2 rfl) ?_
  refine fin_x C w (run_Vx C w mv_L_129 (k529_deepest C.b0 q0 x0 x1 h0 h1 h2 h3 H.size) [] rfl rfl 0 rfl rfl (by decide) rfl hl.1 rfl (Nat.le_of_ble_eq_true rfl) dL_deepest_5 (cells2 := 1) (slots2 := 6) (by decide)) [] [0] rfl rfl (by decide) (cells2 := 1) (slots2 := 6) (by decide) (fun qx2 ce H locs w hce hcv hcl => ?_)
  have w : Wd s G A [(q0, .inr (11, [.ref q2, .ref q3, .ref q4, .ref q5, .ref q6, .ref q7, .ref q8, .ref q9, .ref q10, .ref q11, .int 0, .int (-1), .int 0, .int 0, .null, .null, .null, .null, .null]))] H locs := w
  refine r_catch C ht (by decide) (by decide) tl_L_13 tk_java_lang_IllegalArgumentException hce hcv hcl ?_
  refine lv_astore (lv' := [(4, .ref qx2), (0, .ref q0), (1, .int x0), (2, .int x1), (3, .ref q1)]) hx hb dL_deepest_13 hl (by decide) rfl (fun ls hl => ?_)
  refine lv_iconst (v := 1) hx hb dL_deepest_15 (by decide) ?_
  exact e_i C hr w (fun _ => 0) [0] rfl rfl rfl dL_deepest_16 (by decide) (by decide)
set_option maxRecDepth 100000 in
set_option maxHeartbeats 4000000 in
theorem k531_deepest {l : Launch} {s0 : State} {a0 : Array Value} {G : GT} (b0 : B0 l s0 a0 G) (q0 q1 q2 q3 q4 q5 q6 q7 q8 q9 q10 q11 q12 q13 q14 q15 q16 q17 q18 q19 q20 q21 q22 q23 q24 q25 q26 q27 q28 q29 q30 q31 q32 q33 q34 q35 q36 q37 q38 q39 q40 q41 q42 : Nat) (x0 : Int32) (x1 : Int32) (h0 : 1 < x1) (h1 : ¬ 3000 < x0) (h2 : ¬ x0 < 1) (h3 : ¬ x1 < 0) (sz : Nat) : Ki l s0 G yX12_deepest cX12_deepest 5 (some .int) { frames := 2, cells := 0, slots := 0, locals := 44 } [.ref q0, .int x0, .int x1] [(q0, .inr (12, [.int 0, .int 0, .int 0, .int 0, .int 0, .int 0, .int 0, .int (-1), .ref q1, .ref q2, .ref q3, .int 0, .ref q4, .ref q5, .ref q6, .ref q7, .ref q8, .ref q9, .ref q10, .int 0, .ref q11, .ref q12, .ref q13, .ref q14, .ref q15, .ref q16, .ref q17, .int 0, .int (-1), .int 0, .ref q18, .ref q19, .ref q20, .ref q21, .ref q22, .ref q23, .ref q24, .ref q25, .int 0, .ref q26, .ref q27, .ref q28, .ref q29, .ref q30, .int 0, .ref q31, .ref q32, .ref q33, .ref q34, .int 0, .ref q35, .ref q36, .ref q37, .ref q38, .int 0, .int 0, .ref q39, .ref q40, .ref q41, .ref q42]))] sz 0 (fun u => [(q0, .inr (12, [.int 1, .int 0, .int 0, .int 0, .int 0, .int 0, .int 0, .int (-1), .ref q1, .ref q2, .ref q3, .int 0, .ref q4, .ref q5, .ref q6, .ref q7, .ref q8, .ref q9, .ref q10, .int 0, .ref q11, .ref q12, .ref q13, .ref q14, .ref q15, .ref q16, .ref q17, .int 0, .int (-1), .int 0, .ref q18, .ref q19, .ref q20, .ref q21, .ref q22, .ref q23, .ref q24, .ref q25, .int 0, .ref q26, .ref q27, .ref q28, .ref q29, .ref q30, .int 0, .ref q31, .ref q32, .ref q33, .ref q34, .int 0, .ref q35, .ref q36, .ref q37, .ref q38, .int 0, .int 0, .ref q39, .ref q40, .ref q41, .ref q42]))]) := by
  refine Ki.of b0 (own := RX12) (nm := "deepest") [(0, .ref q0), (1, .int x0), (2, .int x1)] rfl rfl (by decide +kernel) (Nat.le_of_ble_eq_true rfl) rfl ?_
  intro p e s m below meth c A C hr H locs w ls hl
  have hx := C.hx
  have hb := C.hb
  refine lv_aload_n hx hb dX12_deepest_0 rfl (lv_at hl 0 rfl) ?_
  refine lv_iconst (v := 0) hx hb dX12_deepest_1 (by decide) ?_
  refine r_put C w 0 rfl fl_X12_1 (Nat.le_of_ble_eq_true rfl) rfl rfl dX12_deepest_2 (ws2 := [(q0, .inr (12, [.int 0, .int 0, .int 0, .int 0, .int 0, .int 0, .int 0, .int (-1), .ref q1, .ref q2, .ref q3, .int 0, .ref q4, .ref q5, .ref q6, .ref q7, .ref q8, .ref q9, .ref q10, .int 0, .ref q11, .ref q12, .ref q13, .ref q14, .ref q15, .ref q16, .ref q17, .int 0, .int (-1), .int 0, .ref q18, .ref q19, .ref q20, .ref q21, .ref q22, .ref q23, .ref q24, .ref q25, .int 0, .ref q26, .ref q27, .ref q28, .ref q29, .ref q30, .int 0, .ref q31, .ref q32, .ref q33, .ref q34, .int 0, .ref q35, .ref q36, .ref q37, .ref q38, .int 0, .int 0, .ref q39, .ref q40, .ref q41, .ref q42]))]) rfl (fun H locs w => ?_)
  refine lv_aload_n hx hb dX12_deepest_5 rfl (lv_at hl 0 rfl) ?_
  refine lv_iload_n hx hb dX12_deepest_6 rfl (lv_at hl 1 rfl) ?_
  refine lv_iconst (v := 1) hx hb dX12_deepest_7 (by decide) ?_
  refine fin_i C w (run_V C w mv_X12_336 (k120_isMost C.b0 q0 q1 q2 q3 q4 q5 q6 q7 q8 q9 q10 q11 q12 q13 q14 q15 q16 q17 q18 q19 q20 q21 q22 q23 q24 q25 q26 q27 q28 q29 q30 q31 q32 q33 q34 q35 q36 q37 q38 q39 q40 q41 q42 x0 h1 h2 H.size) [0] rfl rfl 0 rfl rfl (by decide) rfl hl.1 rfl (Nat.le_of_ble_eq_true rfl) dX12_deepest_8 (cells2 := 0) (slots2 := 0) (by decide)) [0] [] rfl rfl (by decide) (cells2 := 0) (slots2 := 0) (by decide) (fun u1 H locs w => ?_)
  have w : Wd s G A [(q0, .inr (12, [.int 0, .int 0, .int 0, .int 0, .int 0, .int 0, .int 0, .int (-1), .ref q1, .ref q2, .ref q3, .int 0, .ref q4, .ref q5, .ref q6, .ref q7, .ref q8, .ref q9, .ref q10, .int 0, .ref q11, .ref q12, .ref q13, .ref q14, .ref q15, .ref q16, .ref q17, .int 0, .int (-1), .int 0, .ref q18, .ref q19, .ref q20, .ref q21, .ref q22, .ref q23, .ref q24, .ref q25, .int 0, .ref q26, .ref q27, .ref q28, .ref q29, .ref q30, .int 0, .ref q31, .ref q32, .ref q33, .ref q34, .int 0, .ref q35, .ref q36, .ref q37, .ref q38, .int 0, .int 0, .ref q39, .ref q40, .ref q41, .ref q42]))] H locs := w
  refine lv_if_eq (tgt := 28) hx hb dX12_deepest_11 (by decide) (fun h => absurd h (by decide)) (fun _ => ?_)
  refine lv_aload_n hx hb dX12_deepest_14 rfl (lv_at hl 0 rfl) ?_
  refine lv_iload_n hx hb dX12_deepest_15 rfl (lv_at hl 2 rfl) ?_
  refine lv_iconst (v := 0) hx hb dX12_deepest_16 (by decide) ?_
  refine lv_iconst (v := 1) hx hb dX12_deepest_17 (by decide) ?_
  refine fin_i C w (run_S C w ms_X12_289 (k50_within C.b0 x1 h0 h3 H.size) [] rfl rfl (by decide) rfl hl.1 rfl (Nat.le_of_ble_eq_true rfl) dX12_deepest_18 (cells2 := 0) (slots2 := 0) (by decide)) [] [0] rfl rfl (by decide) (cells2 := 0) (slots2 := 0) (by decide) (fun u2 H locs w => ?_)
  have w : Wd s G A [(q0, .inr (12, [.int 0, .int 0, .int 0, .int 0, .int 0, .int 0, .int 0, .int (-1), .ref q1, .ref q2, .ref q3, .int 0, .ref q4, .ref q5, .ref q6, .ref q7, .ref q8, .ref q9, .ref q10, .int 0, .ref q11, .ref q12, .ref q13, .ref q14, .ref q15, .ref q16, .ref q17, .int 0, .int (-1), .int 0, .ref q18, .ref q19, .ref q20, .ref q21, .ref q22, .ref q23, .ref q24, .ref q25, .int 0, .ref q26, .ref q27, .ref q28, .ref q29, .ref q30, .int 0, .ref q31, .ref q32, .ref q33, .ref q34, .int 0, .ref q35, .ref q36, .ref q37, .ref q38, .int 0, .int 0, .ref q39, .ref q40, .ref q41, .ref q42]))] H locs := w
  refine lv_iconst (v := 1) hx hb dX12_deepest_21 (by decide) ?_
  refine fin_i C w (run_V C w mv_X12_267 (k18_may C.b0 q0 q1 q2 q3 q4 q5 q6 q7 q8 q9 q10 q11 q12 q13 q14 q15 q16 q17 q18 q19 q20 q21 q22 q23 q24 q25 q26 q27 q28 q29 q30 q31 q32 q33 q34 q35 q36 q37 q38 q39 q40 q41 q42 H.size) [0] rfl rfl 0 rfl rfl (by decide) rfl hl.1 rfl (Nat.le_of_ble_eq_true rfl) dX12_deepest_22 (cells2 := 0) (slots2 := 0) (by decide)) [0] [] rfl rfl (by decide) (cells2 := 0) (slots2 := 0) (by decide) (fun u3 H locs w => ?_)
  have w : Wd s G A [(q0, .inr (12, [.int 1, .int 0, .int 0, .int 0, .int 0, .int 0, .int 0, .int (-1), .ref q1, .ref q2, .ref q3, .int 0, .ref q4, .ref q5, .ref q6, .ref q7, .ref q8, .ref q9, .ref q10, .int 0, .ref q11, .ref q12, .ref q13, .ref q14, .ref q15, .ref q16, .ref q17, .int 0, .int (-1), .int 0, .ref q18, .ref q19, .ref q20, .ref q21, .ref q22, .ref q23, .ref q24, .ref q25, .int 0, .ref q26, .ref q27, .ref q28, .ref q29, .ref q30, .int 0, .ref q31, .ref q32, .ref q33, .ref q34, .int 0, .ref q35, .ref q36, .ref q37, .ref q38, .int 0, .int 0, .ref q39, .ref q40, .ref q41, .ref q42]))] H locs := w
  refine lv_if_ne (tgt := 30) hx hb dX12_deepest_25 (by decide) (fun h => absurd (by decide) h) (fun _ => ?_)
  refine lv_iconst (v := 0) hx hb dX12_deepest_28 (by decide) ?_
  exact e_i C hr w (fun _ => 0) [0] rfl rfl rfl dX12_deepest_29 (by decide) (by decide)
set_option maxRecDepth 100000 in
set_option maxHeartbeats 4000000 in
theorem k532_firstDeepest {l : Launch} {s0 : State} {a0 : Array Value} {G : GT} (b0 : B0 l s0 a0 G) (q0 q1 q2 q3 q4 q5 q6 q7 q8 q9 : Nat) (sz : Nat) : Ki l s0 G yX1_firstDeepest cX1_firstDeepest 3 (some .int) { frames := 0, cells := 0, slots := 0, locals := 0 } [.ref q0] [(q0, .inr (1, [.int 0, .ref q2, .ref q3, .ref q1, .ref q4, .ref q5, .ref q6, .ref q7, .int 1])), (q1, .inr (7, [.ref q8, .int 0, .int 1, .int 3008, .ref q9]))] sz 0 (fun u => [(q0, .inr (1, [.int 0, .ref q2, .ref q3, .ref q1, .ref q4, .ref q5, .ref q6, .ref q7, .int 1])), (q1, .inr (7, [.ref q8, .int 0, .int 1, .int 3008, .ref q9]))]) := by
  refine Ki.of b0 (own := RX1) (nm := "firstDeepest") [(0, .ref q0)] rfl rfl (by decide +kernel) (Nat.le_of_ble_eq_true rfl) rfl ?_
  intro p e s m below meth c A C hr H locs w ls hl
  have hx := C.hx
  have hb := C.hb
  refine lv_iconst (v := 0) hx hb dX1_firstDeepest_0 (by decide) ?_
  refine lv_istore_n (lv' := [(1, .int 0), (0, .ref q0)]) hx hb dX1_firstDeepest_1 rfl hl (by decide) rfl (fun ls hl => ?_)
  refine lv_iconst (v := 1) hx hb dX1_firstDeepest_2 (by decide) ?_
  refine lv_istore_n (lv' := [(2, .int 1), (1, .int 0), (0, .ref q0)]) hx hb dX1_firstDeepest_3 rfl hl (by decide) rfl (fun ls hl => ?_)
  refine lv_iload_n hx hb dX1_firstDeepest_4 rfl (lv_at hl 0 rfl) ?_
  refine lv_aload_n hx hb dX1_firstDeepest_5 rfl (lv_at hl 2 rfl) ?_
  refine r_get C w 0 rfl fr_X1_24 rfl dX1_firstDeepest_6 ?_
  refine r_get C w 1 rfl fr_X1_60 rfl dX1_firstDeepest_9 ?_
  refine lv_icmp_ge (tgt := 38) hx hb dX1_firstDeepest_12 (by decide) (fun _ => ?_) (fun h => absurd (by decide) h)
  refine lv_iload_n hx hb dX1_firstDeepest_38 rfl (lv_at hl 1 rfl) ?_
  exact e_i C hr w (fun _ => 0) [0, 1] rfl rfl rfl dX1_firstDeepest_39 (by decide) (by decide)
set_option maxRecDepth 100000 in
set_option maxHeartbeats 4000000 in
theorem k533_deepest {l : Launch} {s0 : State} {a0 : Array Value} {G : GT} (b0 : B0 l s0 a0 G) (q0 q1 q2 q3 q4 q5 q6 q7 q8 q9 q10 q11 q12 q13 q14 q15 q16 q17 q18 q19 q20 q21 q22 q23 q24 q25 q26 q27 : Nat) (x0 : Int32) (x1 : Int32) (h0 : ¬ 1 < x1) (h1 : ¬ 3000 < x0) (h2 : ¬ x0 < 1) (h3 : ¬ x1 < 0) (sz : Nat) : Ki l s0 G yX11_deepest cX11_deepest 5 (some .int) { frames := 4, cells := 9, slots := 65366, locals := 168 } [.ref q0, .int x0, .int x1] [(q0, .inr (11, [.ref q4, .ref q5, .ref q1, .ref q6, .ref q7, .ref q8, .ref q9, .ref q10, .ref q2, .ref q11, .int 0, .int (-1), .int 0, .int 0, .null, .null, .null, .null, .null])), (q1, .inr (5, [.ref q3, .ref q12, .ref q13, .int 0])), (q2, .inr (2, [.int 0, .int 0, .ref q14, .ref q15, .ref q16, .ref q17, .ref q18, .ref q19, .ref q20, .ref q21, .ref q22, .ref q23, .ref q24, .ref q25, .ref q26, .ref q27, .int 0])), (q3, .inl (G.2.1, 8, .inl (fun _ => 0)))] sz 0 (fun u => [(q0, .inr (11, [.ref q4, .ref q5, .ref q1, .ref q6, .ref q7, .ref q8, .ref q9, .ref q10, .ref q2, .ref q11, .int 0, .int (-1), .int 0, .int 0, .ref (u 0), .null, .null, .null, .null])), (q1, .inr (5, [.ref q3, .ref q12, .ref q13, .int 0])), (q2, .inr (2, [.int 0, .int 0, .ref q14, .ref q15, .ref q16, .ref q17, .ref q18, .ref q19, .ref q20, .ref q21, .ref q22, .ref q23, .ref q24, .ref q25, .ref q26, .ref q27, .int 0])), (q3, .inl (G.2.1, 8, .inl (fun _ => 0))), ((u 0), .inr (1, [.int 0, .ref q2, .ref (u 1), .ref (u 2), .ref (u 5), .ref (u 6), .ref (u 7), .ref (u 8), .int 1])), ((u 1), .inl (G.2.1, 24064, .inl (fun _ => 0))), ((u 2), .inr (7, [.ref (u 3), .int 0, .int 1, .int 3008, .ref (u 4)])), ((u 3), .inl (G.2.1, 24064, .inl (fun _ => 0))), ((u 4), .inl (G.2.1, 8192, .inl (upd (fun _ => (-1)) 7 0))), ((u 5), .inl (G.2.1, 3008, .inl (fun _ => 0))), ((u 6), .inl (G.2.1, 3008, .inl (upd (fun _ => 0) 0 (-1)))), ((u 7), .inl (G.2.1, 3008, .inl (upd (fun _ => 0) 0 (-1)))), ((u 8), .inl (G.2.1, 8, .inl (fun _ => 0)))]) := by
  refine Ki.of b0 (own := RX11) (nm := "deepest") [(0, .ref q0), (1, .int x0), (2, .int x1)] rfl rfl (by decide +kernel) (Nat.le_of_ble_eq_true rfl) rfl ?_
  intro p e s m below meth c A C hr H locs w ls hl
  have hx := C.hx
  have hb := C.hb
  refine lv_iload_n hx hb dX11_deepest_0 rfl (lv_at hl 1 rfl) ?_
  refine fin_v C w (run_S C w ms_X11_161 (k106_needMost C.b0 x0 h1 h2 H.size) [] rfl rfl (by decide) rfl hl.1 rfl (Nat.le_of_ble_eq_true rfl) dX11_deepest_1 (cells2 := 0) (slots2 := 0) (by decide)) [] [0, 1, 2, 3] rfl rfl (by decide) (cells2 := 0) (slots2 := 0) (by decide) (fun u1 H locs w => ?_)
  have w : Wd s G A [(q0, .inr (11, [.ref q4, .ref q5, .ref q1, .ref q6, .ref q7, .ref q8, .ref q9, .ref q10, .ref q2, .ref q11, .int 0, .int (-1), .int 0, .int 0, .null, .null, .null, .null, .null])), (q1, .inr (5, [.ref q3, .ref q12, .ref q13, .int 0])), (q2, .inr (2, [.int 0, .int 0, .ref q14, .ref q15, .ref q16, .ref q17, .ref q18, .ref q19, .ref q20, .ref q21, .ref q22, .ref q23, .ref q24, .ref q25, .ref q26, .ref q27, .int 0])), (q3, .inl (G.2.1, 8, .inl (fun _ => 0)))] H locs := w
  refine lv_iload_n hx hb dX11_deepest_4 rfl (lv_at hl 2 rfl) ?_
  refine lv_iconst (v := 0) hx hb dX11_deepest_5 (by decide) ?_
  refine lv_iconst (v := 1) hx hb dX11_deepest_6 (by decide) ?_
  refine fin_v C w (run_S C w ms_X11_72 (k52_needWithin C.b0 x1 h0 h3 H.size) [] rfl rfl (by decide) rfl hl.1 rfl (Nat.le_of_ble_eq_true rfl) dX11_deepest_7 (cells2 := 0) (slots2 := 0) (by decide)) [] [0, 1, 2, 3] rfl rfl (by decide) (cells2 := 0) (slots2 := 0) (by decide) (fun u2 H locs w => ?_)
  have w : Wd s G A [(q0, .inr (11, [.ref q4, .ref q5, .ref q1, .ref q6, .ref q7, .ref q8, .ref q9, .ref q10, .ref q2, .ref q11, .int 0, .int (-1), .int 0, .int 0, .null, .null, .null, .null, .null])), (q1, .inr (5, [.ref q3, .ref q12, .ref q13, .int 0])), (q2, .inr (2, [.int 0, .int 0, .ref q14, .ref q15, .ref q16, .ref q17, .ref q18, .ref q19, .ref q20, .ref q21, .ref q22, .ref q23, .ref q24, .ref q25, .ref q26, .ref q27, .int 0])), (q3, .inl (G.2.1, 8, .inl (fun _ => 0)))] H locs := w
  refine lv_aload_n hx hb dX11_deepest_10 rfl (lv_at hl 0 rfl) ?_
  refine lv_iload_n hx hb dX11_deepest_11 rfl (lv_at hl 1 rfl) ?_
  refine fin_r C w (run_V C w mv_X11_164 (k114_explored C.b0 q0 q1 q2 q3 q4 q5 q6 q7 q8 q9 q10 q11 q12 q13 q14 q15 q16 q17 q18 q19 q20 q21 q22 q23 q24 q25 q26 q27 x0 h2 H.size) [0, 1, 2, 3] rfl rfl 0 rfl rfl (by decide) rfl hl.1 rfl (Nat.le_of_ble_eq_true rfl) dX11_deepest_12 (cells2 := 9) (slots2 := 65366) (by decide)) [0, 1, 2, 3] [] rfl rfl (by decide) (cells2 := 9) (slots2 := 65366) (by decide) (fun u3 H locs w => ?_)
  have w : Wd s G A [(q0, .inr (11, [.ref q4, .ref q5, .ref q1, .ref q6, .ref q7, .ref q8, .ref q9, .ref q10, .ref q2, .ref q11, .int 0, .int (-1), .int 0, .int 0, .ref (u3 0), .null, .null, .null, .null])), (q1, .inr (5, [.ref q3, .ref q12, .ref q13, .int 0])), (q2, .inr (2, [.int 0, .int 0, .ref q14, .ref q15, .ref q16, .ref q17, .ref q18, .ref q19, .ref q20, .ref q21, .ref q22, .ref q23, .ref q24, .ref q25, .ref q26, .ref q27, .int 0])), (q3, .inl (G.2.1, 8, .inl (fun _ => 0))), ((u3 0), .inr (1, [.int 0, .ref q2, .ref (u3 1), .ref (u3 2), .ref (u3 5), .ref (u3 6), .ref (u3 7), .ref (u3 8), .int 1])), ((u3 1), .inl (G.2.1, 24064, .inl (fun _ => 0))), ((u3 2), .inr (7, [.ref (u3 3), .int 0, .int 1, .int 3008, .ref (u3 4)])), ((u3 3), .inl (G.2.1, 24064, .inl (fun _ => 0))), ((u3 4), .inl (G.2.1, 8192, .inl (upd (fun _ => (-1)) 7 0))), ((u3 5), .inl (G.2.1, 3008, .inl (fun _ => 0))), ((u3 6), .inl (G.2.1, 3008, .inl (upd (fun _ => 0) 0 (-1)))), ((u3 7), .inl (G.2.1, 3008, .inl (upd (fun _ => 0) 0 (-1)))), ((u3 8), .inl (G.2.1, 8, .inl (fun _ => 0)))] H locs := w
  refine lv_astore_n (lv' := [(3, .ref (u3 0)), (0, .ref q0), (1, .int x0), (2, .int x1)]) hx hb dX11_deepest_15 rfl hl (by decide) rfl (fun ls hl => ?_)
  refine lv_aload_n hx hb dX11_deepest_16 rfl (lv_at hl 0 rfl) ?_
  refine lv_iload_n hx hb dX11_deepest_17 rfl (lv_at hl 2 rfl) ?_
  refine fin_i C w (run_V C w mv_X11_168 (k115_isBeyond C.b0 (u3 0) (u3 2) q2 (u3 1) (u3 5) (u3 6) (u3 7) (u3 8) (u3 3) (u3 4) x0 h2 H.size) [4, 6] rfl rfl 4 rfl rfl (by decide) rfl hl.1 rfl (Nat.le_of_ble_eq_true rfl) dX11_deepest_18 (cells2 := 9) (slots2 := 65366) (by decide)) [4, 6] [0, 1, 2, 3, 5, 7, 8, 9, 10, 11, 12] rfl rfl (by decide) (cells2 := 9) (slots2 := 65366) (by decide) (fun u4 H locs w => ?_)
  have w : Wd s G A [(q0, .inr (11, [.ref q4, .ref q5, .ref q1, .ref q6, .ref q7, .ref q8, .ref q9, .ref q10, .ref q2, .ref q11, .int 0, .int (-1), .int 0, .int 0, .ref (u3 0), .null, .null, .null, .null])), (q1, .inr (5, [.ref q3, .ref q12, .ref q13, .int 0])), (q2, .inr (2, [.int 0, .int 0, .ref q14, .ref q15, .ref q16, .ref q17, .ref q18, .ref q19, .ref q20, .ref q21, .ref q22, .ref q23, .ref q24, .ref q25, .ref q26, .ref q27, .int 0])), (q3, .inl (G.2.1, 8, .inl (fun _ => 0))), ((u3 1), .inl (G.2.1, 24064, .inl (fun _ => 0))), ((u3 3), .inl (G.2.1, 24064, .inl (fun _ => 0))), ((u3 4), .inl (G.2.1, 8192, .inl (upd (fun _ => (-1)) 7 0))), ((u3 5), .inl (G.2.1, 3008, .inl (fun _ => 0))), ((u3 6), .inl (G.2.1, 3008, .inl (upd (fun _ => 0) 0 (-1)))), ((u3 7), .inl (G.2.1, 3008, .inl (upd (fun _ => 0) 0 (-1)))), ((u3 8), .inl (G.2.1, 8, .inl (fun _ => 0))), ((u3 0), .inr (1, [.int 0, .ref q2, .ref (u3 1), .ref (u3 2), .ref (u3 5), .ref (u3 6), .ref (u3 7), .ref (u3 8), .int 1])), ((u3 2), .inr (7, [.ref (u3 3), .int 0, .int 1, .int 3008, .ref (u3 4)]))] H locs := w
  refine lv_if_eq (tgt := 27) hx hb dX11_deepest_21 (by decide) (fun _ => ?_) (fun h => absurd (by decide) h)
  refine lv_aload_n hx hb dX11_deepest_27 rfl (lv_at hl 0 rfl) ?_
  refine fin_i C w (run_V C w mv_X11_332 (k532_firstDeepest C.b0 (u3 0) (u3 2) q2 (u3 1) (u3 5) (u3 6) (u3 7) (u3 8) (u3 3) (u3 4) H.size) [11, 12] rfl rfl 11 rfl rfl (by decide) rfl hl.1 rfl (Nat.le_of_ble_eq_true rfl) dX11_deepest_28 (cells2 := 9) (slots2 := 65366) (by decide)) [11, 12] [0, 1, 2, 3, 4, 5, 6, 7, 8, 9, 10] rfl rfl (by decide) (cells2 := 9) (slots2 := 65366) (by decide) (fun u5 H locs w => ?_)
  have w : Wd s G A [(q0, .inr (11, [.ref q4, .ref q5, .ref q1, .ref q6, .ref q7, .ref q8, .ref q9, .ref q10, .ref q2, .ref q11, .int 0, .int (-1), .int 0, .int 0, .ref (u3 0), .null, .null, .null, .null])), (q1, .inr (5, [.ref q3, .ref q12, .ref q13, .int 0])), (q2, .inr (2, [.int 0, .int 0, .ref q14, .ref q15, .ref q16, .ref q17, .ref q18, .ref q19, .ref q20, .ref q21, .ref q22, .ref q23, .ref q24, .ref q25, .ref q26, .ref q27, .int 0])), (q3, .inl (G.2.1, 8, .inl (fun _ => 0))), ((u3 1), .inl (G.2.1, 24064, .inl (fun _ => 0))), ((u3 3), .inl (G.2.1, 24064, .inl (fun _ => 0))), ((u3 4), .inl (G.2.1, 8192, .inl (upd (fun _ => (-1)) 7 0))), ((u3 5), .inl (G.2.1, 3008, .inl (fun _ => 0))), ((u3 6), .inl (G.2.1, 3008, .inl (upd (fun _ => 0) 0 (-1)))), ((u3 7), .inl (G.2.1, 3008, .inl (upd (fun _ => 0) 0 (-1)))), ((u3 8), .inl (G.2.1, 8, .inl (fun _ => 0))), ((u3 0), .inr (1, [.int 0, .ref q2, .ref (u3 1), .ref (u3 2), .ref (u3 5), .ref (u3 6), .ref (u3 7), .ref (u3 8), .int 1])), ((u3 2), .inr (7, [.ref (u3 3), .int 0, .int 1, .int 3008, .ref (u3 4)]))] H locs := w
  refine lv_istore (lv' := [(4, .int 0), (3, .ref (u3 0)), (0, .ref q0), (1, .int x0), (2, .int x1)]) hx hb dX11_deepest_31 hl (by decide) rfl (fun ls hl => ?_)
  refine lv_iload_n hx hb dX11_deepest_33 rfl (lv_at hl 4 rfl) ?_
  refine lv_if_ne (tgt := 46) hx hb dX11_deepest_34 (by decide) (fun hf6 => ?_) (fun hf6 => ?_)
  · refine lv_iload hx hb dX11_deepest_46 (lv_at hl 0 rfl) ?_
    exact e_i C hr w (fun k => [(u3 0), (u3 1), (u3 2), (u3 3), (u3 4), (u3 5), (u3 6), (u3 7), (u3 8)].getD k 0) [0, 1, 2, 3, 11, 4, 12, 5, 6, 7, 8, 9, 10] rfl rfl rfl dX11_deepest_48 (by decide) (by decide)
  · refine lv_aload_n hx hb dX11_deepest_37 rfl (lv_at hl 1 rfl) ?_
    refine lv_iload hx hb dX11_deepest_38 (lv_at hl 0 rfl) ?_
    refine fin_i C w (run_V C w mv_X11_209 (k204_depthOf C.b0 (u3 0) (u3 5) q2 (u3 1) (u3 2) (u3 6) (u3 7) (u3 8) H.size) [11, 7] rfl rfl 11 rfl rfl (by decide) rfl hl.1 rfl (Nat.le_of_ble_eq_true rfl) dX11_deepest_40 (cells2 := 9) (slots2 := 65366) (by decide)) [11, 7] [0, 1, 2, 3, 4, 5, 6, 8, 9, 10, 12] rfl rfl (by decide) (cells2 := 9) (slots2 := 65366) (by decide) (fun u7 H locs w => ?_)
    have w : Wd s G A [(q0, .inr (11, [.ref q4, .ref q5, .ref q1, .ref q6, .ref q7, .ref q8, .ref q9, .ref q10, .ref q2, .ref q11, .int 0, .int (-1), .int 0, .int 0, .ref (u3 0), .null, .null, .null, .null])), (q1, .inr (5, [.ref q3, .ref q12, .ref q13, .int 0])), (q2, .inr (2, [.int 0, .int 0, .ref q14, .ref q15, .ref q16, .ref q17, .ref q18, .ref q19, .ref q20, .ref q21, .ref q22, .ref q23, .ref q24, .ref q25, .ref q26, .ref q27, .int 0])), (q3, .inl (G.2.1, 8, .inl (fun _ => 0))), ((u3 1), .inl (G.2.1, 24064, .inl (fun _ => 0))), ((u3 3), .inl (G.2.1, 24064, .inl (fun _ => 0))), ((u3 4), .inl (G.2.1, 8192, .inl (upd (fun _ => (-1)) 7 0))), ((u3 6), .inl (G.2.1, 3008, .inl (upd (fun _ => 0) 0 (-1)))), ((u3 7), .inl (G.2.1, 3008, .inl (upd (fun _ => 0) 0 (-1)))), ((u3 8), .inl (G.2.1, 8, .inl (fun _ => 0))), ((u3 2), .inr (7, [.ref (u3 3), .int 0, .int 1, .int 3008, .ref (u3 4)])), ((u3 0), .inr (1, [.int 0, .ref q2, .ref (u3 1), .ref (u3 2), .ref (u3 5), .ref (u3 6), .ref (u3 7), .ref (u3 8), .int 1])), ((u3 5), .inl (G.2.1, 3008, .inl (fun _ => 0)))] H locs := w
    refine lv_goto (tgt := 48) hx hb dX11_deepest_43 (by decide) ?_
    exact e_i C hr w (fun k => [(u3 0), (u3 1), (u3 2), (u3 3), (u3 4), (u3 5), (u3 6), (u3 7), (u3 8)].getD k 0) [0, 1, 2, 3, 11, 4, 10, 5, 6, 12, 7, 8, 9] rfl rfl rfl dX11_deepest_48 (by decide) (by decide)
set_option maxRecDepth 100000 in
set_option maxHeartbeats 4000000 in
theorem k534_deepest {l : Launch} {s0 : State} {a0 : Array Value} {G : GT} (b0 : B0 l s0 a0 G) (q0 q1 q2 q3 q4 q5 q6 q7 q8 q9 q10 q11 q12 q13 q14 q15 q16 q17 q18 q19 q20 q21 q22 q23 q24 q25 q26 q27 q28 : Nat) (x0 : Int32) (x1 : Int32) (h0 : ¬ 1 < x1) (h1 : ¬ 3000 < x0) (h2 : ¬ x0 < 1) (h3 : ¬ x1 < 0) (sz : Nat) : Kh l s0 G yL_deepest cL_deepest 5 (some .int) [(0, 10, 13, 13)] { frames := 5, cells := 9, slots := 65366, locals := 192 } [.ref q0, .int x0, .int x1, .ref q4] [(q0, .inr (11, [.ref q5, .ref q6, .ref q1, .ref q7, .ref q8, .ref q9, .ref q10, .ref q11, .ref q2, .ref q12, .int 0, .int (-1), .int 0, .int 0, .null, .null, .null, .null, .null])), (q1, .inr (5, [.ref q3, .ref q13, .ref q14, .int 0])), (q2, .inr (2, [.int 0, .int 0, .ref q15, .ref q16, .ref q17, .ref q18, .ref q19, .ref q20, .ref q21, .ref q22, .ref q23, .ref q24, .ref q25, .ref q26, .ref q27, .ref q28, .int 0])), (q3, .inl (G.2.1, 8, .inl (fun _ => 0))), (q4, .inl (G.2.2.1, 1, .inr (.inl (fun _ => 0))))] sz 0 (fun u => [(q0, .inr (11, [.ref q5, .ref q6, .ref q1, .ref q7, .ref q8, .ref q9, .ref q10, .ref q11, .ref q2, .ref q12, .int 0, .int (-1), .int 0, .int 0, .ref (u 0), .null, .null, .null, .null])), (q1, .inr (5, [.ref q3, .ref q13, .ref q14, .int 0])), (q2, .inr (2, [.int 0, .int 0, .ref q15, .ref q16, .ref q17, .ref q18, .ref q19, .ref q20, .ref q21, .ref q22, .ref q23, .ref q24, .ref q25, .ref q26, .ref q27, .ref q28, .int 0])), (q3, .inl (G.2.1, 8, .inl (fun _ => 0))), (q4, .inl (G.2.2.1, 1, .inr (.inl (fun _ => 0)))), ((u 0), .inr (1, [.int 0, .ref q2, .ref (u 1), .ref (u 2), .ref (u 5), .ref (u 6), .ref (u 7), .ref (u 8), .int 1])), ((u 1), .inl (G.2.1, 24064, .inl (fun _ => 0))), ((u 2), .inr (7, [.ref (u 3), .int 0, .int 1, .int 3008, .ref (u 4)])), ((u 3), .inl (G.2.1, 24064, .inl (fun _ => 0))), ((u 4), .inl (G.2.1, 8192, .inl (upd (fun _ => (-1)) 7 0))), ((u 5), .inl (G.2.1, 3008, .inl (fun _ => 0))), ((u 6), .inl (G.2.1, 3008, .inl (upd (fun _ => 0) 0 (-1)))), ((u 7), .inl (G.2.1, 3008, .inl (upd (fun _ => 0) 0 (-1)))), ((u 8), .inl (G.2.1, 8, .inl (fun _ => 0)))]) := by
  refine Kh.of b0 (own := RL) (nm := "deepest") [(0, .ref q0), (1, .int x0), (2, .int x1), (3, .ref q4)] rfl rfl (by decide +kernel) (Nat.le_of_ble_eq_true rfl) rfl ?_
  intro p e s m below meth c A C hr ht H locs w ls hl
  have hx := C.hx
  have hb := C.hb
  refine lv_aload_n hx hb dL_deepest_0 rfl (lv_at hl 3 rfl) ?_
  refine lv_iconst (v := 0) hx hb dL_deepest_1 (by decide) ?_
  refine lv_aload_n hx hb dL_deepest_2 rfl (lv_at hl 0 rfl) ?_
  refine lv_iload_n hx hb dL_deepest_3 rfl (lv_at hl 1 rfl) ?_
  refine lv_iload_n hx hb dL_deepest_4 rfl (lv_at hl 2 rfl) ?_
  refine fin_i C w (run_V C w mv_L_129 (k533_deepest C.b0 q0 q1 q2 q3 q5 q6 q7 q8 q9 q10 q11 q12 q13 q14 q15 q16 q17 q18 q19 q20 q21 q22 q23 q24 q25 q26 q27 q28 x0 x1 h0 h1 h2 h3 H.size) [0, 1, 2, 3] rfl rfl 0 rfl rfl (by decide) rfl hl.1 rfl (Nat.le_of_ble_eq_true rfl) dL_deepest_5 (cells2 := 9) (slots2 := 65366) (by decide)) [0, 1, 2, 3] [4] rfl rfl (by decide) (cells2 := 9) (slots2 := 65366) (by decide) (fun u1 H locs w => ?_)
  have w : Wd s G A [(q4, .inl (G.2.2.1, 1, .inr (.inl (fun _ => 0)))), (q0, .inr (11, [.ref q5, .ref q6, .ref q1, .ref q7, .ref q8, .ref q9, .ref q10, .ref q11, .ref q2, .ref q12, .int 0, .int (-1), .int 0, .int 0, .ref (u1 0), .null, .null, .null, .null])), (q1, .inr (5, [.ref q3, .ref q13, .ref q14, .int 0])), (q2, .inr (2, [.int 0, .int 0, .ref q15, .ref q16, .ref q17, .ref q18, .ref q19, .ref q20, .ref q21, .ref q22, .ref q23, .ref q24, .ref q25, .ref q26, .ref q27, .ref q28, .int 0])), (q3, .inl (G.2.1, 8, .inl (fun _ => 0))), ((u1 0), .inr (1, [.int 0, .ref q2, .ref (u1 1), .ref (u1 2), .ref (u1 5), .ref (u1 6), .ref (u1 7), .ref (u1 8), .int 1])), ((u1 1), .inl (G.2.1, 24064, .inl (fun _ => 0))), ((u1 2), .inr (7, [.ref (u1 3), .int 0, .int 1, .int 3008, .ref (u1 4)])), ((u1 3), .inl (G.2.1, 24064, .inl (fun _ => 0))), ((u1 4), .inl (G.2.1, 8192, .inl (upd (fun _ => (-1)) 7 0))), ((u1 5), .inl (G.2.1, 3008, .inl (fun _ => 0))), ((u1 6), .inl (G.2.1, 3008, .inl (upd (fun _ => 0) 0 (-1)))), ((u1 7), .inl (G.2.1, 3008, .inl (upd (fun _ => 0) 0 (-1)))), ((u1 8), .inl (G.2.1, 8, .inl (fun _ => 0)))] H locs := w
  refine lv_i2l (v := 0) hx hb dL_deepest_8 (by decide +kernel) ?_
  refine r_last C w 0 rfl (IX.of (k := 0) (by decide +kernel)) (g := (fun _ => 0)) (updL_c _ _) dL_deepest_9 (ws2 := [(q4, .inl (G.2.2.1, 1, .inr (.inl (fun _ => 0)))), (q0, .inr (11, [.ref q5, .ref q6, .ref q1, .ref q7, .ref q8, .ref q9, .ref q10, .ref q11, .ref q2, .ref q12, .int 0, .int (-1), .int 0, .int 0, .ref (u1 0), .null, .null, .null, .null])), (q1, .inr (5, [.ref q3, .ref q13, .ref q14, .int 0])), (q2, .inr (2, [.int 0, .int 0, .ref q15, .ref q16, .ref q17, .ref q18, .ref q19, .ref q20, .ref q21, .ref q22, .ref q23, .ref q24, .ref q25, .ref q26, .ref q27, .ref q28, .int 0])), (q3, .inl (G.2.1, 8, .inl (fun _ => 0))), ((u1 0), .inr (1, [.int 0, .ref q2, .ref (u1 1), .ref (u1 2), .ref (u1 5), .ref (u1 6), .ref (u1 7), .ref (u1 8), .int 1])), ((u1 1), .inl (G.2.1, 24064, .inl (fun _ => 0))), ((u1 2), .inr (7, [.ref (u1 3), .int 0, .int 1, .int 3008, .ref (u1 4)])), ((u1 3), .inl (G.2.1, 24064, .inl (fun _ => 0))), ((u1 4), .inl (G.2.1, 8192, .inl (upd (fun _ => (-1)) 7 0))), ((u1 5), .inl (G.2.1, 3008, .inl (fun _ => 0))), ((u1 6), .inl (G.2.1, 3008, .inl (upd (fun _ => 0) 0 (-1)))), ((u1 7), .inl (G.2.1, 3008, .inl (upd (fun _ => 0) 0 (-1)))), ((u1 8), .inl (G.2.1, 8, .inl (fun _ => 0)))]) rfl (fun H locs w => ?_)
  refine lv_goto (tgt := 17) hx hb dL_deepest_10 (by decide) ?_
  refine lv_iconst (v := 0) hx hb dL_deepest_17 (by decide) ?_
  exact e_i C hr w (fun k => [(u1 0), (u1 1), (u1 2), (u1 3), (u1 4), (u1 5), (u1 6), (u1 7), (u1 8)].getD k 0) [1, 2, 3, 4, 0, 5, 6, 7, 8, 9, 10, 11, 12, 13] rfl rfl rfl dL_deepest_18 (by decide) (by decide)
set_option maxRecDepth 100000 in
set_option maxHeartbeats 4000000 in
theorem k535_deepest {l : Launch} {s0 : State} {a0 : Array Value} {G : GT} (b0 : B0 l s0 a0 G) (q0 q1 q2 q3 q4 q5 q6 q7 q8 q9 q10 q11 q12 q13 q14 q15 q16 q17 q18 q19 q20 q21 q22 q23 q24 q25 q26 q27 q28 q29 q30 q31 q32 q33 q34 q35 q36 q37 q38 q39 q40 q41 q42 : Nat) (x0 : Int32) (x1 : Int32) (h0 : ¬ 1 < x1) (h1 : ¬ 3000 < x0) (h2 : ¬ x0 < 1) (h3 : ¬ x1 < 0) (sz : Nat) : Ki l s0 G yX12_deepest cX12_deepest 5 (some .int) { frames := 3, cells := 0, slots := 0, locals := 72 } [.ref q0, .int x0, .int x1] [(q0, .inr (12, [.int 0, .int 0, .int 0, .int 0, .int 0, .int 0, .int 0, .int (-1), .ref q9, .ref q8, .ref q10, .int 0, .ref q11, .ref q12, .ref q13, .ref q14, .ref q15, .ref q2, .ref q16, .int 0, .ref q3, .ref q4, .ref q17, .ref q6, .ref q7, .ref q1, .ref q5, .int 0, .int (-1), .int 0, .ref q18, .ref q19, .ref q20, .ref q21, .ref q22, .ref q23, .ref q24, .ref q25, .int 0, .ref q26, .ref q27, .ref q28, .ref q29, .ref q30, .int 0, .ref q31, .ref q32, .ref q33, .ref q34, .int 0, .ref q35, .ref q36, .ref q37, .ref q38, .int 0, .int 0, .ref q39, .ref q40, .ref q41, .ref q42])), (q1, .inl (G.2.1, 4096, .inl (fun _ => 0))), (q2, .inl (G.2.1, 57, .inl (fun _ => 0))), (q3, .inl (G.2.1, 8, .inl (fun _ => 0))), (q4, .inl (G.2.1, 24008, .inl (fun _ => 0))), (q5, .inl (G.2.1, 3000, .inl (fun _ => 0))), (q6, .inl (G.2.1, 3000, .inl (fun _ => 0))), (q7, .inl (G.2.1, 3000, .inl (fun _ => 0))), (q8, .inl (G.2.1, 242, .inl (fun _ => 0)))] sz 0 (fun u => [(q0, .inr (12, [.int 0, .int 0, .int 0, .int 0, .int 0, .int 0, .int 0, .int (-1), .ref q9, .ref q8, .ref q10, .int 0, .ref q11, .ref q12, .ref q13, .ref q14, .ref q15, .ref q2, .ref q16, .int 0, .ref q3, .ref q4, .ref q17, .ref q6, .ref q7, .ref q1, .ref q5, .int 1, .int (-1), .int 0, .ref q18, .ref q19, .ref q20, .ref q21, .ref q22, .ref q23, .ref q24, .ref q25, .int 0, .ref q26, .ref q27, .ref q28, .ref q29, .ref q30, .int 0, .ref q31, .ref q32, .ref q33, .ref q34, .int 0, .ref q35, .ref q36, .ref q37, .ref q38, .int 0, .int 0, .ref q39, .ref q40, .ref q41, .ref q42])), (q1, .inl (G.2.1, 4096, .inl (upd (fun _ => (-1)) 0 0))), (q2, .inl (G.2.1, 57, .inl (fun _ => 0))), (q3, .inl (G.2.1, 8, .inl (fun _ => 0))), (q4, .inl (G.2.1, 24008, .inl (fun _ => 0))), (q5, .inl (G.2.1, 3000, .inl (upd (fun _ => 0) 0 (-1)))), (q6, .inl (G.2.1, 3000, .inl (upd (fun _ => 0) 0 (-1)))), (q7, .inl (G.2.1, 3000, .inl (upd (fun _ => 0) 0 (-1)))), (q8, .inl (G.2.1, 242, .inl (fun _ => 0)))]) := by
  refine Ki.of b0 (own := RX12) (nm := "deepest") [(0, .ref q0), (1, .int x0), (2, .int x1)] rfl rfl (by decide +kernel) (Nat.le_of_ble_eq_true rfl) rfl ?_
  intro p e s m below meth c A C hr H locs w ls hl
  have hx := C.hx
  have hb := C.hb
  refine lv_aload_n hx hb dX12_deepest_0 rfl (lv_at hl 0 rfl) ?_
  refine lv_iconst (v := 0) hx hb dX12_deepest_1 (by decide) ?_
  refine r_put C w 0 rfl fl_X12_1 (Nat.le_of_ble_eq_true rfl) rfl rfl dX12_deepest_2 (ws2 := [(q0, .inr (12, [.int 0, .int 0, .int 0, .int 0, .int 0, .int 0, .int 0, .int (-1), .ref q9, .ref q8, .ref q10, .int 0, .ref q11, .ref q12, .ref q13, .ref q14, .ref q15, .ref q2, .ref q16, .int 0, .ref q3, .ref q4, .ref q17, .ref q6, .ref q7, .ref q1, .ref q5, .int 0, .int (-1), .int 0, .ref q18, .ref q19, .ref q20, .ref q21, .ref q22, .ref q23, .ref q24, .ref q25, .int 0, .ref q26, .ref q27, .ref q28, .ref q29, .ref q30, .int 0, .ref q31, .ref q32, .ref q33, .ref q34, .int 0, .ref q35, .ref q36, .ref q37, .ref q38, .int 0, .int 0, .ref q39, .ref q40, .ref q41, .ref q42])), (q1, .inl (G.2.1, 4096, .inl (fun _ => 0))), (q2, .inl (G.2.1, 57, .inl (fun _ => 0))), (q3, .inl (G.2.1, 8, .inl (fun _ => 0))), (q4, .inl (G.2.1, 24008, .inl (fun _ => 0))), (q5, .inl (G.2.1, 3000, .inl (fun _ => 0))), (q6, .inl (G.2.1, 3000, .inl (fun _ => 0))), (q7, .inl (G.2.1, 3000, .inl (fun _ => 0))), (q8, .inl (G.2.1, 242, .inl (fun _ => 0)))]) rfl (fun H locs w => ?_)
  refine lv_aload_n hx hb dX12_deepest_5 rfl (lv_at hl 0 rfl) ?_
  refine lv_iload_n hx hb dX12_deepest_6 rfl (lv_at hl 1 rfl) ?_
  refine lv_iconst (v := 1) hx hb dX12_deepest_7 (by decide) ?_
  refine fin_i C w (run_V C w mv_X12_336 (k120_isMost C.b0 q0 q9 q8 q10 q11 q12 q13 q14 q15 q2 q16 q3 q4 q17 q6 q7 q1 q5 q18 q19 q20 q21 q22 q23 q24 q25 q26 q27 q28 q29 q30 q31 q32 q33 q34 q35 q36 q37 q38 q39 q40 q41 q42 x0 h1 h2 H.size) [0] rfl rfl 0 rfl rfl (by decide) rfl hl.1 rfl (Nat.le_of_ble_eq_true rfl) dX12_deepest_8 (cells2 := 0) (slots2 := 0) (by decide)) [0] [1, 2, 3, 4, 5, 6, 7, 8] rfl rfl (by decide) (cells2 := 0) (slots2 := 0) (by decide) (fun u1 H locs w => ?_)
  have w : Wd s G A [(q1, .inl (G.2.1, 4096, .inl (fun _ => 0))), (q2, .inl (G.2.1, 57, .inl (fun _ => 0))), (q3, .inl (G.2.1, 8, .inl (fun _ => 0))), (q4, .inl (G.2.1, 24008, .inl (fun _ => 0))), (q5, .inl (G.2.1, 3000, .inl (fun _ => 0))), (q6, .inl (G.2.1, 3000, .inl (fun _ => 0))), (q7, .inl (G.2.1, 3000, .inl (fun _ => 0))), (q8, .inl (G.2.1, 242, .inl (fun _ => 0))), (q0, .inr (12, [.int 0, .int 0, .int 0, .int 0, .int 0, .int 0, .int 0, .int (-1), .ref q9, .ref q8, .ref q10, .int 0, .ref q11, .ref q12, .ref q13, .ref q14, .ref q15, .ref q2, .ref q16, .int 0, .ref q3, .ref q4, .ref q17, .ref q6, .ref q7, .ref q1, .ref q5, .int 0, .int (-1), .int 0, .ref q18, .ref q19, .ref q20, .ref q21, .ref q22, .ref q23, .ref q24, .ref q25, .int 0, .ref q26, .ref q27, .ref q28, .ref q29, .ref q30, .int 0, .ref q31, .ref q32, .ref q33, .ref q34, .int 0, .ref q35, .ref q36, .ref q37, .ref q38, .int 0, .int 0, .ref q39, .ref q40, .ref q41, .ref q42]))] H locs := w
  refine lv_if_eq (tgt := 28) hx hb dX12_deepest_11 (by decide) (fun h => absurd h (by decide)) (fun _ => ?_)
  refine lv_aload_n hx hb dX12_deepest_14 rfl (lv_at hl 0 rfl) ?_
  refine lv_iload_n hx hb dX12_deepest_15 rfl (lv_at hl 2 rfl) ?_
  refine lv_iconst (v := 0) hx hb dX12_deepest_16 (by decide) ?_
  refine lv_iconst (v := 1) hx hb dX12_deepest_17 (by decide) ?_
  refine fin_i C w (run_S C w ms_X12_289 (k55_within C.b0 x1 h0 h3 H.size) [] rfl rfl (by decide) rfl hl.1 rfl (Nat.le_of_ble_eq_true rfl) dX12_deepest_18 (cells2 := 0) (slots2 := 0) (by decide)) [] [0, 1, 2, 3, 4, 5, 6, 7, 8] rfl rfl (by decide) (cells2 := 0) (slots2 := 0) (by decide) (fun u2 H locs w => ?_)
  have w : Wd s G A [(q1, .inl (G.2.1, 4096, .inl (fun _ => 0))), (q2, .inl (G.2.1, 57, .inl (fun _ => 0))), (q3, .inl (G.2.1, 8, .inl (fun _ => 0))), (q4, .inl (G.2.1, 24008, .inl (fun _ => 0))), (q5, .inl (G.2.1, 3000, .inl (fun _ => 0))), (q6, .inl (G.2.1, 3000, .inl (fun _ => 0))), (q7, .inl (G.2.1, 3000, .inl (fun _ => 0))), (q8, .inl (G.2.1, 242, .inl (fun _ => 0))), (q0, .inr (12, [.int 0, .int 0, .int 0, .int 0, .int 0, .int 0, .int 0, .int (-1), .ref q9, .ref q8, .ref q10, .int 0, .ref q11, .ref q12, .ref q13, .ref q14, .ref q15, .ref q2, .ref q16, .int 0, .ref q3, .ref q4, .ref q17, .ref q6, .ref q7, .ref q1, .ref q5, .int 0, .int (-1), .int 0, .ref q18, .ref q19, .ref q20, .ref q21, .ref q22, .ref q23, .ref q24, .ref q25, .int 0, .ref q26, .ref q27, .ref q28, .ref q29, .ref q30, .int 0, .ref q31, .ref q32, .ref q33, .ref q34, .int 0, .ref q35, .ref q36, .ref q37, .ref q38, .int 0, .int 0, .ref q39, .ref q40, .ref q41, .ref q42]))] H locs := w
  refine lv_iconst (v := 1) hx hb dX12_deepest_21 (by decide) ?_
  refine fin_i C w (run_V C w mv_X12_267 (k32_may C.b0 q0 q9 q8 q10 q11 q12 q13 q14 q15 q2 q16 q3 q4 q17 q6 q7 q1 q5 q18 q19 q20 q21 q22 q23 q24 q25 q26 q27 q28 q29 q30 q31 q32 q33 q34 q35 q36 q37 q38 q39 q40 q41 q42 H.size) [8] rfl rfl 8 rfl rfl (by decide) rfl hl.1 rfl (Nat.le_of_ble_eq_true rfl) dX12_deepest_22 (cells2 := 0) (slots2 := 0) (by decide)) [8] [0, 1, 2, 3, 4, 5, 6, 7] rfl rfl (by decide) (cells2 := 0) (slots2 := 0) (by decide) (fun u3 H locs w => ?_)
  have w : Wd s G A [(q1, .inl (G.2.1, 4096, .inl (fun _ => 0))), (q2, .inl (G.2.1, 57, .inl (fun _ => 0))), (q3, .inl (G.2.1, 8, .inl (fun _ => 0))), (q4, .inl (G.2.1, 24008, .inl (fun _ => 0))), (q5, .inl (G.2.1, 3000, .inl (fun _ => 0))), (q6, .inl (G.2.1, 3000, .inl (fun _ => 0))), (q7, .inl (G.2.1, 3000, .inl (fun _ => 0))), (q8, .inl (G.2.1, 242, .inl (fun _ => 0))), (q0, .inr (12, [.int 0, .int 0, .int 0, .int 0, .int 0, .int 0, .int 0, .int (-1), .ref q9, .ref q8, .ref q10, .int 0, .ref q11, .ref q12, .ref q13, .ref q14, .ref q15, .ref q2, .ref q16, .int 0, .ref q3, .ref q4, .ref q17, .ref q6, .ref q7, .ref q1, .ref q5, .int 0, .int (-1), .int 0, .ref q18, .ref q19, .ref q20, .ref q21, .ref q22, .ref q23, .ref q24, .ref q25, .int 0, .ref q26, .ref q27, .ref q28, .ref q29, .ref q30, .int 0, .ref q31, .ref q32, .ref q33, .ref q34, .int 0, .ref q35, .ref q36, .ref q37, .ref q38, .int 0, .int 0, .ref q39, .ref q40, .ref q41, .ref q42]))] H locs := w
  refine lv_if_ne (tgt := 30) hx hb dX12_deepest_25 (by decide) (fun _ => ?_) (fun h => h.elim (by decide))
  refine lv_aload_n hx hb dX12_deepest_30 rfl (lv_at hl 0 rfl) ?_
  refine lv_iload_n hx hb dX12_deepest_31 rfl (lv_at hl 1 rfl) ?_
  refine fin_v C w (run_V C w mv_X12_339 (k124_explores C.b0 q0 q1 q2 q3 q4 q5 q6 q7 q8 q9 q10 q11 q12 q13 q14 q15 q16 q17 q18 q19 q20 q21 q22 q23 q24 q25 q26 q27 q28 q29 q30 q31 q32 q33 q34 q35 q36 q37 q38 q39 q40 q41 q42 x0 H.size) [8, 0, 1, 2, 3, 4, 5, 6, 7] rfl rfl 8 rfl rfl (by decide) rfl hl.1 rfl (Nat.le_of_ble_eq_true rfl) dX12_deepest_32 (cells2 := 0) (slots2 := 0) (by decide)) [8, 0, 1, 2, 3, 4, 5, 6, 7] [] rfl rfl (by decide) (cells2 := 0) (slots2 := 0) (by decide) (fun u4 H locs w => ?_)
  have w : Wd s G A [(q0, .inr (12, [.int 0, .int 0, .int 0, .int 0, .int 0, .int 0, .int 0, .int (-1), .ref q9, .ref q8, .ref q10, .int 0, .ref q11, .ref q12, .ref q13, .ref q14, .ref q15, .ref q2, .ref q16, .int 0, .ref q3, .ref q4, .ref q17, .ref q6, .ref q7, .ref q1, .ref q5, .int 1, .int (-1), .int 0, .ref q18, .ref q19, .ref q20, .ref q21, .ref q22, .ref q23, .ref q24, .ref q25, .int 0, .ref q26, .ref q27, .ref q28, .ref q29, .ref q30, .int 0, .ref q31, .ref q32, .ref q33, .ref q34, .int 0, .ref q35, .ref q36, .ref q37, .ref q38, .int 0, .int 0, .ref q39, .ref q40, .ref q41, .ref q42])), (q1, .inl (G.2.1, 4096, .inl (upd (fun _ => (-1)) 0 0))), (q2, .inl (G.2.1, 57, .inl (fun _ => 0))), (q3, .inl (G.2.1, 8, .inl (fun _ => 0))), (q4, .inl (G.2.1, 24008, .inl (fun _ => 0))), (q5, .inl (G.2.1, 3000, .inl (upd (fun _ => 0) 0 (-1)))), (q6, .inl (G.2.1, 3000, .inl (upd (fun _ => 0) 0 (-1)))), (q7, .inl (G.2.1, 3000, .inl (upd (fun _ => 0) 0 (-1)))), (q8, .inl (G.2.1, 242, .inl (fun _ => 0)))] H locs := w
  refine lv_aload_n hx hb dX12_deepest_35 rfl (lv_at hl 0 rfl) ?_
  refine r_get C w 0 rfl fr_X12_325 rfl dX12_deepest_36 ?_
  refine lv_if_eq (tgt := 45) hx hb dX12_deepest_39 (by decide) (fun _ => ?_) (fun h => absurd (by decide) h)
  refine lv_aload_n hx hb dX12_deepest_45 rfl (lv_at hl 0 rfl) ?_
  refine lv_aload_n hx hb dX12_deepest_46 rfl (lv_at hl 0 rfl) ?_
  refine r_get C w 0 rfl fr_X12_322 rfl dX12_deepest_47 ?_
  refine lv_iconst (v := 1) hx hb dX12_deepest_50 (by decide) ?_
  refine lv_isub hx hb dX12_deepest_51 ?_
  refine z_i (v := 0) (by decide +kernel) ?_
  refine fin_i C w (run_V C w mv_X12_368 (k210_far C.b0 q0 q6 q9 q8 q10 q11 q12 q13 q14 q15 q2 q16 q3 q4 q17 q7 q1 q5 q18 q19 q20 q21 q22 q23 q24 q25 q26 q27 q28 q29 q30 q31 q32 q33 q34 q35 q36 q37 q38 q39 q40 q41 q42 H.size) [0, 6] rfl rfl 0 rfl rfl (by decide) rfl hl.1 rfl (Nat.le_of_ble_eq_true rfl) dX12_deepest_52 (cells2 := 0) (slots2 := 0) (by decide)) [0, 6] [1, 2, 3, 4, 5, 7, 8] rfl rfl (by decide) (cells2 := 0) (slots2 := 0) (by decide) (fun u5 H locs w => ?_)
  have w : Wd s G A [(q1, .inl (G.2.1, 4096, .inl (upd (fun _ => (-1)) 0 0))), (q2, .inl (G.2.1, 57, .inl (fun _ => 0))), (q3, .inl (G.2.1, 8, .inl (fun _ => 0))), (q4, .inl (G.2.1, 24008, .inl (fun _ => 0))), (q5, .inl (G.2.1, 3000, .inl (upd (fun _ => 0) 0 (-1)))), (q7, .inl (G.2.1, 3000, .inl (upd (fun _ => 0) 0 (-1)))), (q8, .inl (G.2.1, 242, .inl (fun _ => 0))), (q0, .inr (12, [.int 0, .int 0, .int 0, .int 0, .int 0, .int 0, .int 0, .int (-1), .ref q9, .ref q8, .ref q10, .int 0, .ref q11, .ref q12, .ref q13, .ref q14, .ref q15, .ref q2, .ref q16, .int 0, .ref q3, .ref q4, .ref q17, .ref q6, .ref q7, .ref q1, .ref q5, .int 1, .int (-1), .int 0, .ref q18, .ref q19, .ref q20, .ref q21, .ref q22, .ref q23, .ref q24, .ref q25, .int 0, .ref q26, .ref q27, .ref q28, .ref q29, .ref q30, .int 0, .ref q31, .ref q32, .ref q33, .ref q34, .int 0, .ref q35, .ref q36, .ref q37, .ref q38, .int 0, .int 0, .ref q39, .ref q40, .ref q41, .ref q42])), (q6, .inl (G.2.1, 3000, .inl (upd (fun _ => 0) 0 (-1))))] H locs := w
  refine lv_istore_n (lv' := [(3, .int 0), (0, .ref q0), (1, .int x0), (2, .int x1)]) hx hb dX12_deepest_55 rfl hl (by decide) rfl (fun ls hl => ?_)
  refine lv_iload_n hx hb dX12_deepest_56 rfl (lv_at hl 3 rfl) ?_
  refine lv_if_ne (tgt := 62) hx hb dX12_deepest_57 (by decide) (fun hf6 => ?_) (fun hf6 => ?_)
  · refine lv_aload_n hx hb dX12_deepest_62 rfl (lv_at hl 1 rfl) ?_
    refine r_get C w 7 rfl fr_X12_322 rfl dX12_deepest_63 ?_
    refine lv_iconst (v := 1) hx hb dX12_deepest_66 (by decide) ?_
    refine lv_isub hx hb dX12_deepest_67 ?_
    refine z_i (v := 0) (by decide +kernel) ?_
    refine lv_istore (lv' := [(4, .int 0), (3, .int 0), (0, .ref q0), (1, .int x0), (2, .int x1)]) hx hb dX12_deepest_68 hl (by decide) rfl (fun ls hl => ?_)
    refine lv_iload hx hb dX12_deepest_70 (lv_at hl 0 rfl) ?_
    refine lv_if_le (tgt := 93) hx hb dX12_deepest_72 (by decide) (fun _ => ?_) (fun h => absurd (by decide) h)
    refine lv_iload hx hb dX12_deepest_93 (lv_at hl 0 rfl) ?_
    exact e_i C hr w (fun _ => 0) [7, 0, 1, 2, 3, 4, 8, 5, 6] rfl rfl rfl dX12_deepest_95 (by decide) (by decide)
  · refine lv_iload_n hx hb dX12_deepest_60 rfl (lv_at hl 0 rfl) ?_
    exact e_i C hr w (fun _ => 0) [7, 0, 1, 2, 3, 4, 8, 5, 6] rfl rfl rfl dX12_deepest_61 (by decide) (by decide)
set_option maxRecDepth 100000 in
set_option maxHeartbeats 4000000 in
theorem k536_first {l : Launch} {s0 : State} {a0 : Array Value} {G : GT} (b0 : B0 l s0 a0 G) (q0 : Nat) (x0 : Int32) (h0 : x0 < 0) (sz : Nat) : Kx l s0 G yX11_first cX11_first 3 (some .int) { frames := 7, cells := 1, slots := 6, locals := 112 } [.ref q0, .int x0] [] sz "java/lang/IllegalArgumentException" := by
  refine Kx.of b0 (own := RX11) (nm := "first") [(0, .ref q0), (1, .int x0)] rfl rfl (by decide +kernel) (Nat.le_of_ble_eq_true rfl) rfl ?_
  intro p e s m below meth c A C ht H locs w ls hl
  have hx := C.hx
  have hb := C.hb
  refine lv_iload_n hx hb dX11_first_0 rfl (lv_at hl 1 rfl) ?_
  refine lv_iconst (v := 0) hx hb dX11_first_1 (by decide) ?_
  refine lv_iconst (v := 2) hx hb dX11_first_2 (by decide) ?_
  refine fin_x C w (run_Sx C w ms_X11_72 (k155_needWithin C.b0 x0 h0 H.size) [] rfl rfl (by decide) rfl hl.1 rfl (Nat.le_of_ble_eq_true rfl) dX11_first_3 (cells2 := 1) (slots2 := 6) (by decide)) [] [] rfl rfl (by decide) (cells2 := 1) (slots2 := 6) (by decide) (fun qx2 ce H locs w hce hcv hcl => ?_)
  have w : Wd s G A [] H locs := w
  exact r_out C ht w [] rfl rfl hce hcv hcl (by decide) (by decide)
set_option maxRecDepth 100000 in
set_option maxHeartbeats 4000000 in
theorem k537_first {l : Launch} {s0 : State} {a0 : Array Value} {G : GT} (b0 : B0 l s0 a0 G) (q0 q1 q2 q3 q4 q5 q6 q7 q8 q9 q10 q11 : Nat) (x0 : Int32) (h0 : x0 < 0) (sz : Nat) : Kh l s0 G yL_first cL_first 4 (some .int) [(0, 9, 12, 13)] { frames := 8, cells := 1, slots := 6, locals := 134 } [.ref q0, .int x0, .ref q1] [(q0, .inr (11, [.ref q2, .ref q3, .ref q4, .ref q5, .ref q6, .ref q7, .ref q8, .ref q9, .ref q10, .ref q11, .int 0, .int (-1), .int 0, .int 0, .null, .null, .null, .null, .null]))] sz 1 (fun u => [(q0, .inr (11, [.ref q2, .ref q3, .ref q4, .ref q5, .ref q6, .ref q7, .ref q8, .ref q9, .ref q10, .ref q11, .int 0, .int (-1), .int 0, .int 0, .null, .null, .null, .null, .null]))]) := by
  refine Kh.of b0 (own := RL) (nm := "first") [(0, .ref q0), (1, .int x0), (2, .ref q1)] rfl rfl (by decide +kernel) (Nat.le_of_ble_eq_true rfl) rfl ?_
  intro p e s m below meth c A C hr ht H locs w ls hl
  have hx := C.hx
  have hb := C.hb
  refine lv_aload_n hx hb dL_first_0 rfl (lv_at hl 2 rfl) ?_
  refine lv_iconst (v := 0) hx hb dL_first_1 (by decide) ?_
  refine lv_aload_n hx hb dL_first_2 rfl (lv_at hl 0 rfl) ?_
  refine lv_iload_n hx hb dL_first_3 rfl (lv_at hl 1 rfl) ?_
  refine fin_x C w (run_Vx C w mv_L_132 (k536_first C.b0 q0 x0 h0 H.size) [] rfl rfl 0 rfl rfl (by decide) rfl hl.1 rfl (Nat.le_of_ble_eq_true rfl) dL_first_4 (cells2 := 1) (slots2 := 6) (by decide)) [] [0] rfl rfl (by decide) (cells2 := 1) (slots2 := 6) (by decide) (fun qx2 ce H locs w hce hcv hcl => ?_)
  have w : Wd s G A [(q0, .inr (11, [.ref q2, .ref q3, .ref q4, .ref q5, .ref q6, .ref q7, .ref q8, .ref q9, .ref q10, .ref q11, .int 0, .int (-1), .int 0, .int 0, .null, .null, .null, .null, .null]))] H locs := w
  refine r_catch C ht (by decide) (by decide) tl_L_13 tk_java_lang_IllegalArgumentException hce hcv hcl ?_
  refine lv_astore_n (lv' := [(3, .ref qx2), (0, .ref q0), (1, .int x0), (2, .ref q1)]) hx hb dL_first_12 rfl hl (by decide) rfl (fun ls hl => ?_)
  refine lv_iconst (v := 1) hx hb dL_first_13 (by decide) ?_
  exact e_i C hr w (fun _ => 0) [0] rfl rfl rfl dL_first_14 (by decide) (by decide)
set_option maxRecDepth 100000 in
set_option maxHeartbeats 4000000 in
theorem k538_first {l : Launch} {s0 : State} {a0 : Array Value} {G : GT} (b0 : B0 l s0 a0 G) (q0 q1 q2 q3 q4 q5 q6 q7 q8 q9 q10 q11 q12 q13 q14 q15 q16 q17 q18 q19 q20 q21 q22 q23 q24 q25 q26 q27 q28 q29 q30 q31 q32 q33 q34 q35 q36 q37 q38 q39 q40 q41 q42 : Nat) (x0 : Int32) (h0 : x0 < 0) (sz : Nat) : Ki l s0 G yX12_first cX12_first 4 (some .int) { frames := 1, cells := 0, slots := 0, locals := 22 } [.ref q0, .int x0] [(q0, .inr (12, [.int 0, .int 0, .int 0, .int 0, .int 0, .int 0, .int 0, .int (-1), .ref q1, .ref q2, .ref q3, .int 0, .ref q4, .ref q5, .ref q6, .ref q7, .ref q8, .ref q9, .ref q10, .int 0, .ref q11, .ref q12, .ref q13, .ref q14, .ref q15, .ref q16, .ref q17, .int 0, .int (-1), .int 0, .ref q18, .ref q19, .ref q20, .ref q21, .ref q22, .ref q23, .ref q24, .ref q25, .int 0, .ref q26, .ref q27, .ref q28, .ref q29, .ref q30, .int 0, .ref q31, .ref q32, .ref q33, .ref q34, .int 0, .ref q35, .ref q36, .ref q37, .ref q38, .int 0, .int 0, .ref q39, .ref q40, .ref q41, .ref q42]))] sz 0 (fun u => [(q0, .inr (12, [.int 1, .int 0, .int 0, .int 0, .int 0, .int 0, .int 0, .int (-1), .ref q1, .ref q2, .ref q3, .int 0, .ref q4, .ref q5, .ref q6, .ref q7, .ref q8, .ref q9, .ref q10, .int 0, .ref q11, .ref q12, .ref q13, .ref q14, .ref q15, .ref q16, .ref q17, .int 0, .int (-1), .int 0, .ref q18, .ref q19, .ref q20, .ref q21, .ref q22, .ref q23, .ref q24, .ref q25, .int 0, .ref q26, .ref q27, .ref q28, .ref q29, .ref q30, .int 0, .ref q31, .ref q32, .ref q33, .ref q34, .int 0, .ref q35, .ref q36, .ref q37, .ref q38, .int 0, .int 0, .ref q39, .ref q40, .ref q41, .ref q42]))]) := by
  refine Ki.of b0 (own := RX12) (nm := "first") [(0, .ref q0), (1, .int x0)] rfl rfl (by decide +kernel) (Nat.le_of_ble_eq_true rfl) rfl ?_
  intro p e s m below meth c A C hr H locs w ls hl
  have hx := C.hx
  have hb := C.hb
  refine lv_aload_n hx hb dX12_first_0 rfl (lv_at hl 0 rfl) ?_
  refine lv_iconst (v := 0) hx hb dX12_first_1 (by decide) ?_
  refine r_put C w 0 rfl fl_X12_1 (Nat.le_of_ble_eq_true rfl) rfl rfl dX12_first_2 (ws2 := [(q0, .inr (12, [.int 0, .int 0, .int 0, .int 0, .int 0, .int 0, .int 0, .int (-1), .ref q1, .ref q2, .ref q3, .int 0, .ref q4, .ref q5, .ref q6, .ref q7, .ref q8, .ref q9, .ref q10, .int 0, .ref q11, .ref q12, .ref q13, .ref q14, .ref q15, .ref q16, .ref q17, .int 0, .int (-1), .int 0, .ref q18, .ref q19, .ref q20, .ref q21, .ref q22, .ref q23, .ref q24, .ref q25, .int 0, .ref q26, .ref q27, .ref q28, .ref q29, .ref q30, .int 0, .ref q31, .ref q32, .ref q33, .ref q34, .int 0, .ref q35, .ref q36, .ref q37, .ref q38, .int 0, .int 0, .ref q39, .ref q40, .ref q41, .ref q42]))]) rfl (fun H locs w => ?_)
  refine lv_aload_n hx hb dX12_first_5 rfl (lv_at hl 0 rfl) ?_
  refine lv_iload_n hx hb dX12_first_6 rfl (lv_at hl 1 rfl) ?_
  refine lv_iconst (v := 0) hx hb dX12_first_7 (by decide) ?_
  refine lv_iconst (v := 2) hx hb dX12_first_8 (by decide) ?_
  refine fin_i C w (run_S C w ms_X12_289 (k158_within C.b0 x0 h0 H.size) [] rfl rfl (by decide) rfl hl.1 rfl (Nat.le_of_ble_eq_true rfl) dX12_first_9 (cells2 := 0) (slots2 := 0) (by decide)) [] [0] rfl rfl (by decide) (cells2 := 0) (slots2 := 0) (by decide) (fun u1 H locs w => ?_)
  have w : Wd s G A [(q0, .inr (12, [.int 0, .int 0, .int 0, .int 0, .int 0, .int 0, .int 0, .int (-1), .ref q1, .ref q2, .ref q3, .int 0, .ref q4, .ref q5, .ref q6, .ref q7, .ref q8, .ref q9, .ref q10, .int 0, .ref q11, .ref q12, .ref q13, .ref q14, .ref q15, .ref q16, .ref q17, .int 0, .int (-1), .int 0, .ref q18, .ref q19, .ref q20, .ref q21, .ref q22, .ref q23, .ref q24, .ref q25, .int 0, .ref q26, .ref q27, .ref q28, .ref q29, .ref q30, .int 0, .ref q31, .ref q32, .ref q33, .ref q34, .int 0, .ref q35, .ref q36, .ref q37, .ref q38, .int 0, .int 0, .ref q39, .ref q40, .ref q41, .ref q42]))] H locs := w
  refine lv_iconst (v := 1) hx hb dX12_first_12 (by decide) ?_
  refine fin_i C w (run_V C w mv_X12_267 (k18_may C.b0 q0 q1 q2 q3 q4 q5 q6 q7 q8 q9 q10 q11 q12 q13 q14 q15 q16 q17 q18 q19 q20 q21 q22 q23 q24 q25 q26 q27 q28 q29 q30 q31 q32 q33 q34 q35 q36 q37 q38 q39 q40 q41 q42 H.size) [0] rfl rfl 0 rfl rfl (by decide) rfl hl.1 rfl (Nat.le_of_ble_eq_true rfl) dX12_first_13 (cells2 := 0) (slots2 := 0) (by decide)) [0] [] rfl rfl (by decide) (cells2 := 0) (slots2 := 0) (by decide) (fun u2 H locs w => ?_)
  have w : Wd s G A [(q0, .inr (12, [.int 1, .int 0, .int 0, .int 0, .int 0, .int 0, .int 0, .int (-1), .ref q1, .ref q2, .ref q3, .int 0, .ref q4, .ref q5, .ref q6, .ref q7, .ref q8, .ref q9, .ref q10, .int 0, .ref q11, .ref q12, .ref q13, .ref q14, .ref q15, .ref q16, .ref q17, .int 0, .int (-1), .int 0, .ref q18, .ref q19, .ref q20, .ref q21, .ref q22, .ref q23, .ref q24, .ref q25, .int 0, .ref q26, .ref q27, .ref q28, .ref q29, .ref q30, .int 0, .ref q31, .ref q32, .ref q33, .ref q34, .int 0, .ref q35, .ref q36, .ref q37, .ref q38, .int 0, .int 0, .ref q39, .ref q40, .ref q41, .ref q42]))] H locs := w
  refine lv_if_ne (tgt := 21) hx hb dX12_first_16 (by decide) (fun h => absurd (by decide) h) (fun _ => ?_)
  refine lv_iconst (v := 0) hx hb dX12_first_19 (by decide) ?_
  exact e_i C hr w (fun _ => 0) [0] rfl rfl rfl dX12_first_20 (by decide) (by decide)
set_option maxRecDepth 100000 in
set_option maxHeartbeats 4000000 in
theorem k539_first {l : Launch} {s0 : State} {a0 : Array Value} {G : GT} (b0 : B0 l s0 a0 G) (q0 : Nat) (x0 : Int32) (h0 : 2 < x0) (h1 : ¬ x0 < 0) (sz : Nat) : Kx l s0 G yX11_first cX11_first 3 (some .int) { frames := 7, cells := 1, slots := 6, locals := 112 } [.ref q0, .int x0] [] sz "java/lang/IllegalArgumentException" := by
  refine Kx.of b0 (own := RX11) (nm := "first") [(0, .ref q0), (1, .int x0)] rfl rfl (by decide +kernel) (Nat.le_of_ble_eq_true rfl) rfl ?_
  intro p e s m below meth c A C ht H locs w ls hl
  have hx := C.hx
  have hb := C.hb
  refine lv_iload_n hx hb dX11_first_0 rfl (lv_at hl 1 rfl) ?_
  refine lv_iconst (v := 0) hx hb dX11_first_1 (by decide) ?_
  refine lv_iconst (v := 2) hx hb dX11_first_2 (by decide) ?_
  refine fin_x C w (run_Sx C w ms_X11_72 (k160_needWithin C.b0 x0 h0 h1 H.size) [] rfl rfl (by decide) rfl hl.1 rfl (Nat.le_of_ble_eq_true rfl) dX11_first_3 (cells2 := 1) (slots2 := 6) (by decide)) [] [] rfl rfl (by decide) (cells2 := 1) (slots2 := 6) (by decide) (fun qx2 ce H locs w hce hcv hcl => ?_)
  have w : Wd s G A [] H locs := w
  exact r_out C ht w [] rfl rfl hce hcv hcl (by decide) (by decide)
set_option maxRecDepth 100000 in
set_option maxHeartbeats 4000000 in
theorem k540_first {l : Launch} {s0 : State} {a0 : Array Value} {G : GT} (b0 : B0 l s0 a0 G) (q0 q1 q2 q3 q4 q5 q6 q7 q8 q9 q10 q11 : Nat) (x0 : Int32) (h0 : 2 < x0) (h1 : ¬ x0 < 0) (sz : Nat) : Kh l s0 G yL_first cL_first 4 (some .int) [(0, 9, 12, 13)] { frames := 8, cells := 1, slots := 6, locals := 134 } [.ref q0, .int x0, .ref q1] [(q0, .inr (11, [.ref q2, .ref q3, .ref q4, .ref q5, .ref q6, .ref q7, .ref q8, .ref q9, .ref q10, .ref q11, .int 0, .int (-1), .int 0, .int 0, .null, .null, .null, .null, .null]))] sz 1 (fun u => [(q0, .inr (11, [.ref q2, .ref q3, .ref q4, .ref q5, .ref q6, .ref q7, .ref q8, .ref q9, .ref q10, .ref q11, .int 0, .int (-1), .int 0, .int 0, .null, .null, .null, .null, .null]))]) := by
  refine Kh.of b0 (own := RL) (nm := "first") [(0, .ref q0), (1, .int x0), (2, .ref q1)] rfl rfl (by decide +kernel) (Nat.le_of_ble_eq_true rfl) rfl ?_
  intro p e s m below meth c A C hr ht H locs w ls hl
  have hx := C.hx
  have hb := C.hb
  refine lv_aload_n hx hb dL_first_0 rfl (lv_at hl 2 rfl) ?_
  refine lv_iconst (v := 0) hx hb dL_first_1 (by decide) ?_
  refine lv_aload_n hx hb dL_first_2 rfl (lv_at hl 0 rfl) ?_
  refine lv_iload_n hx hb dL_first_3 rfl (lv_at hl 1 rfl) ?_
  refine fin_x C w (run_Vx C w mv_L_132 (k539_first C.b0 q0 x0 h0 h1 H.size) [] rfl rfl 0 rfl rfl (by decide) rfl hl.1 rfl (Nat.le_of_ble_eq_true rfl) dL_first_4 (cells2 := 1) (slots2 := 6) (by decide)) [] [0] rfl rfl (by decide) (cells2 := 1) (slots2 := 6) (by decide) (fun qx2 ce H locs w hce hcv hcl => ?_)
  have w : Wd s G A [(q0, .inr (11, [.ref q2, .ref q3, .ref q4, .ref q5, .ref q6, .ref q7, .ref q8, .ref q9, .ref q10, .ref q11, .int 0, .int (-1), .int 0, .int 0, .null, .null, .null, .null, .null]))] H locs := w
  refine r_catch C ht (by decide) (by decide) tl_L_13 tk_java_lang_IllegalArgumentException hce hcv hcl ?_
  refine lv_astore_n (lv' := [(3, .ref qx2), (0, .ref q0), (1, .int x0), (2, .ref q1)]) hx hb dL_first_12 rfl hl (by decide) rfl (fun ls hl => ?_)
  refine lv_iconst (v := 1) hx hb dL_first_13 (by decide) ?_
  exact e_i C hr w (fun _ => 0) [0] rfl rfl rfl dL_first_14 (by decide) (by decide)
set_option maxRecDepth 100000 in
set_option maxHeartbeats 4000000 in
theorem k541_first {l : Launch} {s0 : State} {a0 : Array Value} {G : GT} (b0 : B0 l s0 a0 G) (q0 q1 q2 q3 q4 q5 q6 q7 q8 q9 q10 q11 q12 q13 q14 q15 q16 q17 q18 q19 q20 q21 q22 q23 q24 q25 q26 q27 q28 q29 q30 q31 q32 q33 q34 q35 q36 q37 q38 q39 q40 q41 q42 : Nat) (x0 : Int32) (h0 : 2 < x0) (h1 : ¬ x0 < 0) (sz : Nat) : Ki l s0 G yX12_first cX12_first 4 (some .int) { frames := 1, cells := 0, slots := 0, locals := 22 } [.ref q0, .int x0] [(q0, .inr (12, [.int 0, .int 0, .int 0, .int 0, .int 0, .int 0, .int 0, .int (-1), .ref q1, .ref q2, .ref q3, .int 0, .ref q4, .ref q5, .ref q6, .ref q7, .ref q8, .ref q9, .ref q10, .int 0, .ref q11, .ref q12, .ref q13, .ref q14, .ref q15, .ref q16, .ref q17, .int 0, .int (-1), .int 0, .ref q18, .ref q19, .ref q20, .ref q21, .ref q22, .ref q23, .ref q24, .ref q25, .int 0, .ref q26, .ref q27, .ref q28, .ref q29, .ref q30, .int 0, .ref q31, .ref q32, .ref q33, .ref q34, .int 0, .ref q35, .ref q36, .ref q37, .ref q38, .int 0, .int 0, .ref q39, .ref q40, .ref q41, .ref q42]))] sz 0 (fun u => [(q0, .inr (12, [.int 1, .int 0, .int 0, .int 0, .int 0, .int 0, .int 0, .int (-1), .ref q1, .ref q2, .ref q3, .int 0, .ref q4, .ref q5, .ref q6, .ref q7, .ref q8, .ref q9, .ref q10, .int 0, .ref q11, .ref q12, .ref q13, .ref q14, .ref q15, .ref q16, .ref q17, .int 0, .int (-1), .int 0, .ref q18, .ref q19, .ref q20, .ref q21, .ref q22, .ref q23, .ref q24, .ref q25, .int 0, .ref q26, .ref q27, .ref q28, .ref q29, .ref q30, .int 0, .ref q31, .ref q32, .ref q33, .ref q34, .int 0, .ref q35, .ref q36, .ref q37, .ref q38, .int 0, .int 0, .ref q39, .ref q40, .ref q41, .ref q42]))]) := by
  refine Ki.of b0 (own := RX12) (nm := "first") [(0, .ref q0), (1, .int x0)] rfl rfl (by decide +kernel) (Nat.le_of_ble_eq_true rfl) rfl ?_
  intro p e s m below meth c A C hr H locs w ls hl
  have hx := C.hx
  have hb := C.hb
  refine lv_aload_n hx hb dX12_first_0 rfl (lv_at hl 0 rfl) ?_
  refine lv_iconst (v := 0) hx hb dX12_first_1 (by decide) ?_
  refine r_put C w 0 rfl fl_X12_1 (Nat.le_of_ble_eq_true rfl) rfl rfl dX12_first_2 (ws2 := [(q0, .inr (12, [.int 0, .int 0, .int 0, .int 0, .int 0, .int 0, .int 0, .int (-1), .ref q1, .ref q2, .ref q3, .int 0, .ref q4, .ref q5, .ref q6, .ref q7, .ref q8, .ref q9, .ref q10, .int 0, .ref q11, .ref q12, .ref q13, .ref q14, .ref q15, .ref q16, .ref q17, .int 0, .int (-1), .int 0, .ref q18, .ref q19, .ref q20, .ref q21, .ref q22, .ref q23, .ref q24, .ref q25, .int 0, .ref q26, .ref q27, .ref q28, .ref q29, .ref q30, .int 0, .ref q31, .ref q32, .ref q33, .ref q34, .int 0, .ref q35, .ref q36, .ref q37, .ref q38, .int 0, .int 0, .ref q39, .ref q40, .ref q41, .ref q42]))]) rfl (fun H locs w => ?_)
  refine lv_aload_n hx hb dX12_first_5 rfl (lv_at hl 0 rfl) ?_
  refine lv_iload_n hx hb dX12_first_6 rfl (lv_at hl 1 rfl) ?_
  refine lv_iconst (v := 0) hx hb dX12_first_7 (by decide) ?_
  refine lv_iconst (v := 2) hx hb dX12_first_8 (by decide) ?_
  refine fin_i C w (run_S C w ms_X12_289 (k163_within C.b0 x0 h0 h1 H.size) [] rfl rfl (by decide) rfl hl.1 rfl (Nat.le_of_ble_eq_true rfl) dX12_first_9 (cells2 := 0) (slots2 := 0) (by decide)) [] [0] rfl rfl (by decide) (cells2 := 0) (slots2 := 0) (by decide) (fun u1 H locs w => ?_)
  have w : Wd s G A [(q0, .inr (12, [.int 0, .int 0, .int 0, .int 0, .int 0, .int 0, .int 0, .int (-1), .ref q1, .ref q2, .ref q3, .int 0, .ref q4, .ref q5, .ref q6, .ref q7, .ref q8, .ref q9, .ref q10, .int 0, .ref q11, .ref q12, .ref q13, .ref q14, .ref q15, .ref q16, .ref q17, .int 0, .int (-1), .int 0, .ref q18, .ref q19, .ref q20, .ref q21, .ref q22, .ref q23, .ref q24, .ref q25, .int 0, .ref q26, .ref q27, .ref q28, .ref q29, .ref q30, .int 0, .ref q31, .ref q32, .ref q33, .ref q34, .int 0, .ref q35, .ref q36, .ref q37, .ref q38, .int 0, .int 0, .ref q39, .ref q40, .ref q41, .ref q42]))] H locs := w
  refine lv_iconst (v := 1) hx hb dX12_first_12 (by decide) ?_
  refine fin_i C w (run_V C w mv_X12_267 (k18_may C.b0 q0 q1 q2 q3 q4 q5 q6 q7 q8 q9 q10 q11 q12 q13 q14 q15 q16 q17 q18 q19 q20 q21 q22 q23 q24 q25 q26 q27 q28 q29 q30 q31 q32 q33 q34 q35 q36 q37 q38 q39 q40 q41 q42 H.size) [0] rfl rfl 0 rfl rfl (by decide) rfl hl.1 rfl (Nat.le_of_ble_eq_true rfl) dX12_first_13 (cells2 := 0) (slots2 := 0) (by decide)) [0] [] rfl rfl (by decide) (cells2 := 0) (slots2 := 0) (by decide) (fun u2 H locs w => ?_)
  have w : Wd s G A [(q0, .inr (12, [.int 1, .int 0, .int 0, .int 0, .int 0, .int 0, .int 0, .int (-1), .ref q1, .ref q2, .ref q3, .int 0, .ref q4, .ref q5, .ref q6, .ref q7, .ref q8, .ref q9, .ref q10, .int 0, .ref q11, .ref q12, .ref q13, .ref q14, .ref q15, .ref q16, .ref q17, .int 0, .int (-1), .int 0, .ref q18, .ref q19, .ref q20, .ref q21, .ref q22, .ref q23, .ref q24, .ref q25, .int 0, .ref q26, .ref q27, .ref q28, .ref q29, .ref q30, .int 0, .ref q31, .ref q32, .ref q33, .ref q34, .int 0, .ref q35, .ref q36, .ref q37, .ref q38, .int 0, .int 0, .ref q39, .ref q40, .ref q41, .ref q42]))] H locs := w
  refine lv_if_ne (tgt := 21) hx hb dX12_first_16 (by decide) (fun h => absurd (by decide) h) (fun _ => ?_)
  refine lv_iconst (v := 0) hx hb dX12_first_19 (by decide) ?_
  exact e_i C hr w (fun _ => 0) [0] rfl rfl rfl dX12_first_20 (by decide) (by decide)
set_option maxRecDepth 100000 in
set_option maxHeartbeats 4000000 in
theorem k542_wipe {l : Launch} {s0 : State} {a0 : Array Value} {G : GT} (b0 : B0 l s0 a0 G) (q0 q1 q2 : Nat) (sz : Nat) : Kv l s0 G yX7_wipe cX7_wipe 2 none { frames := 1, cells := 0, slots := 0, locals := 23 } [.ref q0, .int 0] [(q0, .inr (7, [.ref q2, .int 0, .int 0, .int 3000, .ref q1])), (q1, .inl (G.2.1, 8192, .inl (fun _ => 0)))] sz (fun u => [(q0, .inr (7, [.ref q2, .int 0, .int 0, .int 3000, .ref q1])), (q1, .inl (G.2.1, 8192, .inl (fun _ => (-1))))]) := by
  refine Kv.of b0 (own := RX7) (nm := "wipe") [(0, .ref q0), (1, .int 0)] rfl rfl (by decide +kernel) (Nat.le_of_ble_eq_true rfl) rfl ?_
  intro p e s m below meth c A C hr H locs w ls hl
  have hx := C.hx
  have hb := C.hb
  refine lv_aload_n hx hb dX7_wipe_0 rfl (lv_at hl 0 rfl) ?_
  refine lv_iload_n hx hb dX7_wipe_1 rfl (lv_at hl 1 rfl) ?_
  refine r_put C w 0 rfl fl_X7_22 (Nat.le_of_ble_eq_true rfl) rfl rfl dX7_wipe_2 (ws2 := [(q0, .inr (7, [.ref q2, .int 0, .int 0, .int 3000, .ref q1])), (q1, .inl (G.2.1, 8192, .inl (fun _ => 0)))]) rfl (fun H locs w => ?_)
  refine lv_aload_n hx hb dX7_wipe_5 rfl (lv_at hl 0 rfl) ?_
  refine lv_iconst (v := 0) hx hb dX7_wipe_6 (by decide) ?_
  refine r_put C w 0 rfl fl_X7_25 (Nat.le_of_ble_eq_true rfl) rfl rfl dX7_wipe_7 (ws2 := [(q0, .inr (7, [.ref q2, .int 0, .int 0, .int 3000, .ref q1])), (q1, .inl (G.2.1, 8192, .inl (fun _ => 0)))]) rfl (fun H locs w => ?_)
  refine lv_aload_n hx hb dX7_wipe_10 rfl (lv_at hl 0 rfl) ?_
  refine r_get C w 0 rfl fr_X7_19 rfl dX7_wipe_11 ?_
  refine lv_iconst (v := (-1)) hx hb dX7_wipe_14 (by decide) ?_
  refine fin_v C w (run_S C w ms_X7_28 (k_fillI C.b0 q1 8192 (by decide) (fun _ => 0) (-1) H.size) [1] rfl rfl (by decide) rfl hl.1 rfl (Nat.le_of_ble_eq_true rfl) dX7_wipe_15 (cells2 := 0) (slots2 := 0) (by decide)) [1] [0] rfl rfl (by decide) (cells2 := 0) (slots2 := 0) (by decide) (fun u1 H locs w => ?_)
  have w : Wd s G A [(q0, .inr (7, [.ref q2, .int 0, .int 0, .int 3000, .ref q1])), (q1, .inl (G.2.1, 8192, .inl (fun _ => (-1))))] H locs := w
  exact e_v C hr w (fun _ => 0) [0, 1] rfl rfl dX7_wipe_18 (by decide) (by decide)
set_option maxRecDepth 100000 in
set_option maxHeartbeats 4000000 in
theorem k543_spread {l : Launch} {s0 : State} {a0 : Array Value} {G : GT} (b0 : B0 l s0 a0 G) (q0 q1 q2 q3 : Nat) (sz : Nat) : Ki l s0 G yX7_spread cX7_spread 4 (some .int) { frames := 0, cells := 0, slots := 0, locals := 0 } [.ref q0, .ref q1] [(q0, .inr (7, [.ref q2, .int 0, .int 0, .int 3000, .ref q3]))] sz 7 (fun u => [(q0, .inr (7, [.ref q2, .int 0, .int 0, .int 3000, .ref q3]))]) := by
  refine Ki.of b0 (own := RX7) (nm := "spread") [(0, .ref q0), (1, .ref q1)] rfl rfl (by decide +kernel) (Nat.le_of_ble_eq_true rfl) rfl ?_
  intro p e s m below meth c A C hr H locs w ls hl
  have hx := C.hx
  have hb := C.hb
  refine lv_bipush (v := 7) hx hb dX7_spread_0 (by decide) ?_
  refine lv_istore_n (lv' := [(2, .int 7), (0, .ref q0), (1, .ref q1)]) hx hb dX7_spread_2 rfl hl (by decide) rfl (fun ls hl => ?_)
  refine lv_iconst (v := 0) hx hb dX7_spread_3 (by decide) ?_
  refine lv_istore_n (lv' := [(3, .int 0), (2, .int 7), (0, .ref q0), (1, .ref q1)]) hx hb dX7_spread_4 rfl hl (by decide) rfl (fun ls hl => ?_)
  refine lv_iload_n hx hb dX7_spread_5 rfl (lv_at hl 0 rfl) ?_
  refine lv_aload_n hx hb dX7_spread_6 rfl (lv_at hl 2 rfl) ?_
  refine r_get C w 0 rfl fr_X7_22 rfl dX7_spread_7 ?_
  refine lv_icmp_ge (tgt := 35) hx hb dX7_spread_10 (by decide) (fun _ => ?_) (fun h => absurd (by decide) h)
  refine lv_iload_n hx hb dX7_spread_35 rfl (lv_at hl 1 rfl) ?_
  exact e_i C hr w (fun _ => 0) [0] rfl rfl rfl dX7_spread_36 (by decide) (by decide)
set_option maxRecDepth 100000 in
set_option maxHeartbeats 4000000 in
theorem k544_enter {l : Launch} {s0 : State} {a0 : Array Value} {G : GT} (b0 : B0 l s0 a0 G) (q0 q1 q2 q3 : Nat) (sz : Nat) : Ki l s0 G yX7_enter cX7_enter 5 (some .int) { frames := 1, cells := 0, slots := 0, locals := 100 } [.ref q0, .ref q2] [(q0, .inr (7, [.ref q3, .int 0, .int 0, .int 3000, .ref q1])), (q1, .inl (G.2.1, 8192, .inl (fun _ => (-1)))), (q2, .inl (G.2.1, 8, .inl (fun _ => 0))), (q3, .inl (G.2.1, 24000, .inl (fun _ => 0)))] sz 0 (fun u => [(q0, .inr (7, [.ref q3, .int 0, .int 1, .int 3000, .ref q1])), (q1, .inl (G.2.1, 8192, .inl (upd (fun _ => (-1)) 7 0))), (q2, .inl (G.2.1, 8, .inl (fun _ => 0))), (q3, .inl (G.2.1, 24000, .inl (fun _ => 0)))]) := by
  refine Ki.of b0 (own := RX7) (nm := "enter") [(0, .ref q0), (1, .ref q2)] rfl rfl (by decide +kernel) (Nat.le_of_ble_eq_true rfl) rfl ?_
  intro p e s m below meth c A C hr H locs w ls hl
  have hx := C.hx
  have hb := C.hb
  refine lv_aload_n hx hb dX7_enter_0 rfl (lv_at hl 0 rfl) ?_
  refine r_get C w 0 rfl fr_X7_19 rfl dX7_enter_1 ?_
  refine r_alenI C w 1 rfl (v := 8192) (by decide +kernel) dX7_enter_4 ?_
  refine lv_iconst (v := 1) hx hb dX7_enter_5 (by decide) ?_
  refine lv_isub hx hb dX7_enter_6 ?_
  refine z_i (v := 8191) (by decide +kernel) ?_
  refine lv_istore_n (lv' := [(2, .int 8191), (0, .ref q0), (1, .ref q2)]) hx hb dX7_enter_7 rfl hl (by decide) rfl (fun ls hl => ?_)
  refine lv_aload_n hx hb dX7_enter_8 rfl (lv_at hl 1 rfl) ?_
  refine lv_aload_n hx hb dX7_enter_9 rfl (lv_at hl 2 rfl) ?_
  refine fin_i C w (run_V C w mv_X7_34 (k543_spread C.b0 q0 q2 q3 q1 H.size) [0] rfl rfl 0 rfl rfl (by decide) rfl hl.1 rfl (Nat.le_of_ble_eq_true rfl) dX7_enter_10 (cells2 := 0) (slots2 := 0) (by decide)) [0] [1, 2, 3] rfl rfl (by decide) (cells2 := 0) (slots2 := 0) (by decide) (fun u1 H locs w => ?_)
  have w : Wd s G A [(q1, .inl (G.2.1, 8192, .inl (fun _ => (-1)))), (q2, .inl (G.2.1, 8, .inl (fun _ => 0))), (q3, .inl (G.2.1, 24000, .inl (fun _ => 0))), (q0, .inr (7, [.ref q3, .int 0, .int 0, .int 3000, .ref q1]))] H locs := w
  refine lv_iload_n hx hb dX7_enter_13 rfl (lv_at hl 0 rfl) ?_
  refine lv_iand hx hb dX7_enter_14 ?_
  refine z_i (v := 7) (by decide +kernel) ?_
  refine lv_istore_n (lv' := [(3, .int 7), (2, .int 8191), (0, .ref q0), (1, .ref q2)]) hx hb dX7_enter_15 rfl hl (by decide) rfl (fun ls hl => ?_)
  refine lv_iconst (v := 0) hx hb dX7_enter_16 (by decide) ?_
  refine lv_istore (lv' := [(4, .int 0), (3, .int 7), (2, .int 8191), (0, .ref q0), (1, .ref q2)]) hx hb dX7_enter_17 hl (by decide) rfl (fun ls hl => ?_)
  refine lv_iload hx hb dX7_enter_19 (lv_at hl 0 rfl) ?_
  refine lv_iload_n hx hb dX7_enter_21 rfl (lv_at hl 2 rfl) ?_
  refine lv_icmp_gt (tgt := 68) hx hb dX7_enter_22 (by decide) (fun h => absurd h (by decide)) (fun _ => ?_)
  refine lv_aload_n hx hb dX7_enter_25 rfl (lv_at hl 3 rfl) ?_
  refine r_get C w 3 rfl fr_X7_19 rfl dX7_enter_26 ?_
  refine lv_iload_n hx hb dX7_enter_29 rfl (lv_at hl 1 rfl) ?_
  refine r_iald C w 0 rfl (IX.of (k := 7) (by decide +kernel)) (v := (-1)) rfl dX7_enter_30 ?_
  refine lv_iconst (v := (-1)) hx hb dX7_enter_31 (by decide) ?_
  refine lv_icmp_eq (tgt := 68) hx hb dX7_enter_32 (by decide) (fun _ => ?_) (fun h => absurd (by decide) h)
  refine lv_aload_n hx hb dX7_enter_68 rfl (lv_at hl 3 rfl) ?_
  refine r_get C w 3 rfl fr_X7_25 rfl dX7_enter_69 ?_
  refine lv_aload_n hx hb dX7_enter_72 rfl (lv_at hl 3 rfl) ?_
  refine r_get C w 3 rfl fr_X7_15 rfl dX7_enter_73 ?_
  refine lv_icmp_lt (tgt := 81) hx hb dX7_enter_76 (by decide) (fun _ => ?_) (fun h => absurd (by decide) h)
  refine lv_aload_n hx hb dX7_enter_81 rfl (lv_at hl 4 rfl) ?_
  refine lv_iconst (v := 0) hx hb dX7_enter_82 (by decide) ?_
  refine lv_aload_n hx hb dX7_enter_83 rfl (lv_at hl 3 rfl) ?_
  refine r_get C w 3 rfl fr_X7_9 rfl dX7_enter_84 ?_
  refine lv_aload_n hx hb dX7_enter_87 rfl (lv_at hl 3 rfl) ?_
  refine r_get C w 3 rfl fr_X7_25 rfl dX7_enter_88 ?_
  refine lv_aload_n hx hb dX7_enter_91 rfl (lv_at hl 3 rfl) ?_
  refine r_get C w 3 rfl fr_X7_22 rfl dX7_enter_92 ?_
  refine lv_imul hx hb dX7_enter_95 ?_
  refine z_i (v := 0) (by decide +kernel) ?_
  refine lv_aload_n hx hb dX7_enter_96 rfl (lv_at hl 3 rfl) ?_
  refine r_get C w 3 rfl fr_X7_22 rfl dX7_enter_97 ?_
  refine r_copyI C w 1 2 rfl rfl (sp' := 0) (dp' := 0) (n' := 0) (by decide +kernel) cp_X7_42 hl.1 (cpy_0 _ _ _ _) (by decide) (Nat.le_of_ble_eq_true rfl) dX7_enter_100 (ws2 := [(q1, .inl (G.2.1, 8192, .inl (fun _ => (-1)))), (q2, .inl (G.2.1, 8, .inl (fun _ => 0))), (q3, .inl (G.2.1, 24000, .inl (fun _ => 0))), (q0, .inr (7, [.ref q3, .int 0, .int 0, .int 3000, .ref q1]))]) rfl (fun H locs w => ?_)
  refine lv_aload_n hx hb dX7_enter_103 rfl (lv_at hl 3 rfl) ?_
  refine r_get C w 3 rfl fr_X7_19 rfl dX7_enter_104 ?_
  refine lv_iload_n hx hb dX7_enter_107 rfl (lv_at hl 1 rfl) ?_
  refine lv_aload_n hx hb dX7_enter_108 rfl (lv_at hl 3 rfl) ?_
  refine r_get C w 3 rfl fr_X7_25 rfl dX7_enter_109 ?_
  refine r_iast C w 0 rfl (IX.of (k := 7) (by decide +kernel)) (g := (upd (fun _ => (-1)) 7 0)) rfl dX7_enter_112 (ws2 := [(q1, .inl (G.2.1, 8192, .inl (upd (fun _ => (-1)) 7 0))), (q2, .inl (G.2.1, 8, .inl (fun _ => 0))), (q3, .inl (G.2.1, 24000, .inl (fun _ => 0))), (q0, .inr (7, [.ref q3, .int 0, .int 0, .int 3000, .ref q1]))]) rfl (fun H locs w => ?_)
  refine lv_aload_n hx hb dX7_enter_113 rfl (lv_at hl 3 rfl) ?_
  refine lv_dup hx hb dX7_enter_114 rfl ?_
  refine r_get C w 3 rfl fr_X7_25 rfl dX7_enter_115 ?_
  refine lv_iconst (v := 1) hx hb dX7_enter_118 (by decide) ?_
  refine lv_iadd hx hb dX7_enter_119 ?_
  refine z_i (v := 1) (by decide +kernel) ?_
  refine r_put C w 3 rfl fl_X7_25 (Nat.le_of_ble_eq_true rfl) rfl rfl dX7_enter_120 (ws2 := [(q1, .inl (G.2.1, 8192, .inl (upd (fun _ => (-1)) 7 0))), (q2, .inl (G.2.1, 8, .inl (fun _ => 0))), (q3, .inl (G.2.1, 24000, .inl (fun _ => 0))), (q0, .inr (7, [.ref q3, .int 0, .int 1, .int 3000, .ref q1]))]) rfl (fun H locs w => ?_)
  refine lv_aload_n hx hb dX7_enter_123 rfl (lv_at hl 3 rfl) ?_
  refine r_get C w 3 rfl fr_X7_25 rfl dX7_enter_124 ?_
  refine lv_iconst (v := 1) hx hb dX7_enter_127 (by decide) ?_
  refine lv_isub hx hb dX7_enter_128 ?_
  refine z_i (v := 0) (by decide +kernel) ?_
  exact e_i C hr w (fun _ => 0) [3, 0, 1, 2] rfl rfl rfl dX7_enter_129 (by decide) (by decide)
set_option maxRecDepth 100000 in
set_option maxHeartbeats 4000000 in
theorem k545_leastAble {l : Launch} {s0 : State} {a0 : Array Value} {G : GT} (b0 : B0 l s0 a0 G) (q0 q1 q2 q3 q4 q5 q6 q7 q8 q9 q10 q11 q12 q13 q14 q15 : Nat) (sz : Nat) : Ki l s0 G yX9_leastAble cX9_leastAble 3 (some .int) { frames := 0, cells := 0, slots := 0, locals := 0 } [.ref q1, .ref q0] [(q0, .inr (2, [.int 0, .int 0, .ref q2, .ref q3, .ref q4, .ref q5, .ref q6, .ref q7, .ref q8, .ref q9, .ref q10, .ref q11, .ref q12, .ref q13, .ref q14, .ref q15, .int 0]))] sz (-1) (fun u => [(q0, .inr (2, [.int 0, .int 0, .ref q2, .ref q3, .ref q4, .ref q5, .ref q6, .ref q7, .ref q8, .ref q9, .ref q10, .ref q11, .ref q12, .ref q13, .ref q14, .ref q15, .int 0]))]) := by
  refine Ki.of b0 (own := RX9) (nm := "leastAble") [(0, .ref q1), (1, .ref q0)] rfl rfl (by decide +kernel) (Nat.le_of_ble_eq_true rfl) rfl ?_
  intro p e s m below meth c A C hr H locs w ls hl
  have hx := C.hx
  have hb := C.hb
  refine lv_iconst (v := 0) hx hb dX9_leastAble_0 (by decide) ?_
  refine lv_istore_n (lv' := [(2, .int 0), (0, .ref q1), (1, .ref q0)]) hx hb dX9_leastAble_1 rfl hl (by decide) rfl (fun ls hl => ?_)
  refine lv_iload_n hx hb dX9_leastAble_2 rfl (lv_at hl 0 rfl) ?_
  refine lv_aload_n hx hb dX9_leastAble_3 rfl (lv_at hl 2 rfl) ?_
  refine r_get C w 0 rfl fr_X9_90 rfl dX9_leastAble_4 ?_
  refine lv_icmp_ge (tgt := 31) hx hb dX9_leastAble_7 (by decide) (fun _ => ?_) (fun h => absurd (by decide) h)
  refine lv_iconst (v := (-1)) hx hb dX9_leastAble_31 (by decide) ?_
  exact e_i C hr w (fun _ => 0) [0] rfl rfl rfl dX9_leastAble_32 (by decide) (by decide)
set_option maxRecDepth 100000 in
set_option maxHeartbeats 4000000 in
theorem k546_leastFirst {l : Launch} {s0 : State} {a0 : Array Value} {G : GT} (b0 : B0 l s0 a0 G) (q0 q1 q2 q3 q4 q5 q6 q7 q8 q9 q10 q11 q12 q13 q14 q15 q16 q17 q18 q19 q20 : Nat) (sz : Nat) : Kv l s0 G yX9_leastFirst cX9_leastFirst 8 none { frames := 2, cells := 0, slots := 0, locals := 124 } [.ref q0, .ref q3, .ref q1, .int 0] [(q0, .inr (9, [.int (-1), .int 0, .int 0, .int 0, .int 0, .ref q2, .ref q4])), (q1, .inl (G.2.1, 8, .inl (fun _ => 0))), (q2, .inl (G.2.1, 8, .inl (fun _ => 0))), (q3, .inr (2, [.int 0, .int 0, .ref q7, .ref q8, .ref q9, .ref q10, .ref q11, .ref q12, .ref q13, .ref q14, .ref q15, .ref q16, .ref q17, .ref q18, .ref q19, .ref q20, .int 0])), (q4, .inr (7, [.ref q6, .int 0, .int 0, .int 3000, .ref q5])), (q5, .inl (G.2.1, 8192, .inl (fun _ => 0))), (q6, .inl (G.2.1, 24000, .inl (fun _ => 0)))] sz (fun u => [(q0, .inr (9, [.int 0, .int 0, .int (-1), .int (-1), .int 0, .ref q2, .ref q4])), (q1, .inl (G.2.1, 8, .inl (fun _ => 0))), (q2, .inl (G.2.1, 8, .inl (fun _ => 0))), (q3, .inr (2, [.int 0, .int 0, .ref q7, .ref q8, .ref q9, .ref q10, .ref q11, .ref q12, .ref q13, .ref q14, .ref q15, .ref q16, .ref q17, .ref q18, .ref q19, .ref q20, .int 0])), (q4, .inr (7, [.ref q6, .int 0, .int 1, .int 3000, .ref q5])), (q5, .inl (G.2.1, 8192, .inl (upd (fun _ => (-1)) 7 0))), (q6, .inl (G.2.1, 24000, .inl (fun _ => 0)))]) := by
  refine Kv.of b0 (own := RX9) (nm := "leastFirst") [(0, .ref q0), (1, .ref q3), (2, .ref q1), (3, .int 0)] rfl rfl (by decide +kernel) (Nat.le_of_ble_eq_true rfl) rfl ?_
  intro p e s m below meth c A C hr H locs w ls hl
  have hx := C.hx
  have hb := C.hb
  refine lv_aload_n hx hb dX9_leastFirst_0 rfl (lv_at hl 0 rfl) ?_
  refine lv_iload_n hx hb dX9_leastFirst_1 rfl (lv_at hl 3 rfl) ?_
  refine r_put C w 0 rfl fl_X9_9 (Nat.le_of_ble_eq_true rfl) rfl rfl dX9_leastFirst_2 (ws2 := [(q0, .inr (9, [.int 0, .int 0, .int 0, .int 0, .int 0, .ref q2, .ref q4])), (q1, .inl (G.2.1, 8, .inl (fun _ => 0))), (q2, .inl (G.2.1, 8, .inl (fun _ => 0))), (q3, .inr (2, [.int 0, .int 0, .ref q7, .ref q8, .ref q9, .ref q10, .ref q11, .ref q12, .ref q13, .ref q14, .ref q15, .ref q16, .ref q17, .ref q18, .ref q19, .ref q20, .int 0])), (q4, .inr (7, [.ref q6, .int 0, .int 0, .int 3000, .ref q5])), (q5, .inl (G.2.1, 8192, .inl (fun _ => 0))), (q6, .inl (G.2.1, 24000, .inl (fun _ => 0)))]) rfl (fun H locs w => ?_)
  refine lv_aload_n hx hb dX9_leastFirst_5 rfl (lv_at hl 0 rfl) ?_
  refine lv_iconst (v := (-1)) hx hb dX9_leastFirst_6 (by decide) ?_
  refine r_put C w 0 rfl fl_X9_60 (Nat.le_of_ble_eq_true rfl) rfl rfl dX9_leastFirst_7 (ws2 := [(q0, .inr (9, [.int 0, .int (-1), .int 0, .int 0, .int 0, .ref q2, .ref q4])), (q1, .inl (G.2.1, 8, .inl (fun _ => 0))), (q2, .inl (G.2.1, 8, .inl (fun _ => 0))), (q3, .inr (2, [.int 0, .int 0, .ref q7, .ref q8, .ref q9, .ref q10, .ref q11, .ref q12, .ref q13, .ref q14, .ref q15, .ref q16, .ref q17, .ref q18, .ref q19, .ref q20, .int 0])), (q4, .inr (7, [.ref q6, .int 0, .int 0, .int 3000, .ref q5])), (q5, .inl (G.2.1, 8192, .inl (fun _ => 0))), (q6, .inl (G.2.1, 24000, .inl (fun _ => 0)))]) rfl (fun H locs w => ?_)
  refine lv_aload_n hx hb dX9_leastFirst_10 rfl (lv_at hl 0 rfl) ?_
  refine lv_iconst (v := (-1)) hx hb dX9_leastFirst_11 (by decide) ?_
  refine r_put C w 0 rfl fl_X9_63 (Nat.le_of_ble_eq_true rfl) rfl rfl dX9_leastFirst_12 (ws2 := [(q0, .inr (9, [.int 0, .int (-1), .int (-1), .int 0, .int 0, .ref q2, .ref q4])), (q1, .inl (G.2.1, 8, .inl (fun _ => 0))), (q2, .inl (G.2.1, 8, .inl (fun _ => 0))), (q3, .inr (2, [.int 0, .int 0, .ref q7, .ref q8, .ref q9, .ref q10, .ref q11, .ref q12, .ref q13, .ref q14, .ref q15, .ref q16, .ref q17, .ref q18, .ref q19, .ref q20, .int 0])), (q4, .inr (7, [.ref q6, .int 0, .int 0, .int 3000, .ref q5])), (q5, .inl (G.2.1, 8192, .inl (fun _ => 0))), (q6, .inl (G.2.1, 24000, .inl (fun _ => 0)))]) rfl (fun H locs w => ?_)
  refine lv_aload_n hx hb dX9_leastFirst_15 rfl (lv_at hl 0 rfl) ?_
  refine lv_iconst (v := (-1)) hx hb dX9_leastFirst_16 (by decide) ?_
  refine r_put C w 0 rfl fl_X9_66 (Nat.le_of_ble_eq_true rfl) rfl rfl dX9_leastFirst_17 (ws2 := [(q0, .inr (9, [.int 0, .int (-1), .int (-1), .int (-1), .int 0, .ref q2, .ref q4])), (q1, .inl (G.2.1, 8, .inl (fun _ => 0))), (q2, .inl (G.2.1, 8, .inl (fun _ => 0))), (q3, .inr (2, [.int 0, .int 0, .ref q7, .ref q8, .ref q9, .ref q10, .ref q11, .ref q12, .ref q13, .ref q14, .ref q15, .ref q16, .ref q17, .ref q18, .ref q19, .ref q20, .int 0])), (q4, .inr (7, [.ref q6, .int 0, .int 0, .int 3000, .ref q5])), (q5, .inl (G.2.1, 8192, .inl (fun _ => 0))), (q6, .inl (G.2.1, 24000, .inl (fun _ => 0)))]) rfl (fun H locs w => ?_)
  refine lv_aload_n hx hb dX9_leastFirst_20 rfl (lv_at hl 0 rfl) ?_
  refine lv_iconst (v := 0) hx hb dX9_leastFirst_21 (by decide) ?_
  refine r_put C w 0 rfl fl_X9_69 (Nat.le_of_ble_eq_true rfl) rfl rfl dX9_leastFirst_22 (ws2 := [(q0, .inr (9, [.int 0, .int (-1), .int (-1), .int (-1), .int 0, .ref q2, .ref q4])), (q1, .inl (G.2.1, 8, .inl (fun _ => 0))), (q2, .inl (G.2.1, 8, .inl (fun _ => 0))), (q3, .inr (2, [.int 0, .int 0, .ref q7, .ref q8, .ref q9, .ref q10, .ref q11, .ref q12, .ref q13, .ref q14, .ref q15, .ref q16, .ref q17, .ref q18, .ref q19, .ref q20, .int 0])), (q4, .inr (7, [.ref q6, .int 0, .int 0, .int 3000, .ref q5])), (q5, .inl (G.2.1, 8192, .inl (fun _ => 0))), (q6, .inl (G.2.1, 24000, .inl (fun _ => 0)))]) rfl (fun H locs w => ?_)
  refine lv_aload_n hx hb dX9_leastFirst_25 rfl (lv_at hl 2 rfl) ?_
  refine lv_iconst (v := 0) hx hb dX9_leastFirst_26 (by decide) ?_
  refine lv_aload_n hx hb dX9_leastFirst_27 rfl (lv_at hl 0 rfl) ?_
  refine r_get C w 0 rfl fr_X9_15 rfl dX9_leastFirst_28 ?_
  refine lv_iconst (v := 0) hx hb dX9_leastFirst_31 (by decide) ?_
  refine lv_bipush (v := 8) hx hb dX9_leastFirst_32 (by decide) ?_
  refine r_copyI C w 1 2 rfl rfl (sp' := 0) (dp' := 0) (n' := 8) (by decide +kernel) cp_X9_28 hl.1 (cpy_c _ _ _ _) (by decide) (Nat.le_of_ble_eq_true rfl) dX9_leastFirst_34 (ws2 := [(q0, .inr (9, [.int 0, .int (-1), .int (-1), .int (-1), .int 0, .ref q2, .ref q4])), (q1, .inl (G.2.1, 8, .inl (fun _ => 0))), (q2, .inl (G.2.1, 8, .inl (fun _ => 0))), (q3, .inr (2, [.int 0, .int 0, .ref q7, .ref q8, .ref q9, .ref q10, .ref q11, .ref q12, .ref q13, .ref q14, .ref q15, .ref q16, .ref q17, .ref q18, .ref q19, .ref q20, .int 0])), (q4, .inr (7, [.ref q6, .int 0, .int 0, .int 3000, .ref q5])), (q5, .inl (G.2.1, 8192, .inl (fun _ => 0))), (q6, .inl (G.2.1, 24000, .inl (fun _ => 0)))]) rfl (fun H locs w => ?_)
  refine lv_aload_n hx hb dX9_leastFirst_37 rfl (lv_at hl 0 rfl) ?_
  refine r_get C w 0 rfl fr_X9_24 rfl dX9_leastFirst_38 ?_
  refine lv_aload_n hx hb dX9_leastFirst_41 rfl (lv_at hl 1 rfl) ?_
  refine r_get C w 3 rfl fr_X9_73 rfl dX9_leastFirst_42 ?_
  refine fin_v C w (run_V C w mv_X9_76 (k542_wipe C.b0 q4 q5 q6 H.size) [4, 5] rfl rfl 4 rfl rfl (by decide) rfl hl.1 rfl (Nat.le_of_ble_eq_true rfl) dX9_leastFirst_45 (cells2 := 0) (slots2 := 0) (by decide)) [4, 5] [0, 1, 2, 3, 6] rfl rfl (by decide) (cells2 := 0) (slots2 := 0) (by decide) (fun u1 H locs w => ?_)
  have w : Wd s G A [(q0, .inr (9, [.int 0, .int (-1), .int (-1), .int (-1), .int 0, .ref q2, .ref q4])), (q1, .inl (G.2.1, 8, .inl (fun _ => 0))), (q2, .inl (G.2.1, 8, .inl (fun _ => 0))), (q3, .inr (2, [.int 0, .int 0, .ref q7, .ref q8, .ref q9, .ref q10, .ref q11, .ref q12, .ref q13, .ref q14, .ref q15, .ref q16, .ref q17, .ref q18, .ref q19, .ref q20, .int 0])), (q6, .inl (G.2.1, 24000, .inl (fun _ => 0))), (q4, .inr (7, [.ref q6, .int 0, .int 0, .int 3000, .ref q5])), (q5, .inl (G.2.1, 8192, .inl (fun _ => (-1))))] H locs := w
  refine lv_iconst (v := 0) hx hb dX9_leastFirst_48 (by decide) ?_
  refine lv_istore (lv' := [(4, .int 0), (0, .ref q0), (1, .ref q3), (2, .ref q1), (3, .int 0)]) hx hb dX9_leastFirst_49 hl (by decide) rfl (fun ls hl => ?_)
  refine lv_iload hx hb dX9_leastFirst_51 (lv_at hl 0 rfl) ?_
  refine lv_sipush (v := 3000) hx hb dX9_leastFirst_53 (by decide) ?_
  refine lv_icmp_ge (tgt := 140) hx hb dX9_leastFirst_56 (by decide) (fun h => absurd h (by decide)) (fun _ => ?_)
  refine lv_aload_n hx hb dX9_leastFirst_59 rfl (lv_at hl 1 rfl) ?_
  refine r_get C w 0 rfl fr_X9_24 rfl dX9_leastFirst_60 ?_
  refine r_get C w 5 rfl fr_X9_80 rfl dX9_leastFirst_63 ?_
  refine lv_istore (lv' := [(5, .int 0), (4, .int 0), (0, .ref q0), (1, .ref q3), (2, .ref q1), (3, .int 0)]) hx hb dX9_leastFirst_66 hl (by decide) rfl (fun ls hl => ?_)
  refine lv_aload_n hx hb dX9_leastFirst_68 rfl (lv_at hl 2 rfl) ?_
  refine r_get C w 0 rfl fr_X9_24 rfl dX9_leastFirst_69 ?_
  refine lv_aload_n hx hb dX9_leastFirst_72 rfl (lv_at hl 2 rfl) ?_
  refine r_get C w 0 rfl fr_X9_15 rfl dX9_leastFirst_73 ?_
  refine fin_i C w (run_V C w mv_X9_83 (k544_enter C.b0 q4 q5 q2 q6 H.size) [5, 6, 2, 4] rfl rfl 5 rfl rfl (by decide) rfl hl.1 rfl (Nat.le_of_ble_eq_true rfl) dX9_leastFirst_76 (cells2 := 0) (slots2 := 0) (by decide)) [5, 6, 2, 4] [0, 1, 3] rfl rfl (by decide) (cells2 := 0) (slots2 := 0) (by decide) (fun u2 H locs w => ?_)
  have w : Wd s G A [(q0, .inr (9, [.int 0, .int (-1), .int (-1), .int (-1), .int 0, .ref q2, .ref q4])), (q1, .inl (G.2.1, 8, .inl (fun _ => 0))), (q3, .inr (2, [.int 0, .int 0, .ref q7, .ref q8, .ref q9, .ref q10, .ref q11, .ref q12, .ref q13, .ref q14, .ref q15, .ref q16, .ref q17, .ref q18, .ref q19, .ref q20, .int 0])), (q4, .inr (7, [.ref q6, .int 0, .int 1, .int 3000, .ref q5])), (q5, .inl (G.2.1, 8192, .inl (upd (fun _ => (-1)) 7 0))), (q2, .inl (G.2.1, 8, .inl (fun _ => 0))), (q6, .inl (G.2.1, 24000, .inl (fun _ => 0)))] H locs := w
  refine lv_istore (lv' := [(6, .int 0), (5, .int 0), (4, .int 0), (0, .ref q0), (1, .ref q3), (2, .ref q1), (3, .int 0)]) hx hb dX9_leastFirst_79 hl (by decide) rfl (fun ls hl => ?_)
  refine lv_iload hx hb dX9_leastFirst_81 (lv_at hl 0 rfl) ?_
  refine lv_iload hx hb dX9_leastFirst_83 (lv_at hl 1 rfl) ?_
  refine lv_icmp_ge (tgt := 104) hx hb dX9_leastFirst_85 (by decide) (fun _ => ?_) (fun h => absurd (by decide) h)
  refine lv_aload_n hx hb dX9_leastFirst_104 rfl (lv_at hl 3 rfl) ?_
  refine lv_aload_n hx hb dX9_leastFirst_105 rfl (lv_at hl 4 rfl) ?_
  refine fin_i C w (run_V C w mv_X9_86 (k545_leastAble C.b0 q3 q0 q7 q8 q9 q10 q11 q12 q13 q14 q15 q16 q17 q18 q19 q20 H.size) [2] rfl rfl 0 rfl rfl (by decide) rfl hl.1 rfl (Nat.le_of_ble_eq_true rfl) dX9_leastFirst_106 (cells2 := 0) (slots2 := 0) (by decide)) [2] [0, 1, 3, 4, 5, 6] rfl rfl (by decide) (cells2 := 0) (slots2 := 0) (by decide) (fun u3 H locs w => ?_)
  have w : Wd s G A [(q0, .inr (9, [.int 0, .int (-1), .int (-1), .int (-1), .int 0, .ref q2, .ref q4])), (q1, .inl (G.2.1, 8, .inl (fun _ => 0))), (q4, .inr (7, [.ref q6, .int 0, .int 1, .int 3000, .ref q5])), (q5, .inl (G.2.1, 8192, .inl (upd (fun _ => (-1)) 7 0))), (q2, .inl (G.2.1, 8, .inl (fun _ => 0))), (q6, .inl (G.2.1, 24000, .inl (fun _ => 0))), (q3, .inr (2, [.int 0, .int 0, .ref q7, .ref q8, .ref q9, .ref q10, .ref q11, .ref q12, .ref q13, .ref q14, .ref q15, .ref q16, .ref q17, .ref q18, .ref q19, .ref q20, .int 0]))] H locs := w
  refine lv_istore (lv' := [(7, .int (-1)), (6, .int 0), (5, .int 0), (4, .int 0), (0, .ref q0), (1, .ref q3), (2, .ref q1), (3, .int 0)]) hx hb dX9_leastFirst_109 hl (by decide) rfl (fun ls hl => ?_)
  refine lv_iload hx hb dX9_leastFirst_111 (lv_at hl 0 rfl) ?_
  refine lv_iconst (v := (-1)) hx hb dX9_leastFirst_113 (by decide) ?_
  refine lv_icmp_ne (tgt := 124) hx hb dX9_leastFirst_114 (by decide) (fun h => absurd (by decide) h) (fun _ => ?_)
  refine lv_aload_n hx hb dX9_leastFirst_117 rfl (lv_at hl 4 rfl) ?_
  refine lv_iload hx hb dX9_leastFirst_118 (lv_at hl 3 rfl) ?_
  refine r_put C w 0 rfl fl_X9_60 (Nat.le_of_ble_eq_true rfl) rfl rfl dX9_leastFirst_120 (ws2 := [(q0, .inr (9, [.int 0, .int 0, .int (-1), .int (-1), .int 0, .ref q2, .ref q4])), (q1, .inl (G.2.1, 8, .inl (fun _ => 0))), (q4, .inr (7, [.ref q6, .int 0, .int 1, .int 3000, .ref q5])), (q5, .inl (G.2.1, 8192, .inl (upd (fun _ => (-1)) 7 0))), (q2, .inl (G.2.1, 8, .inl (fun _ => 0))), (q6, .inl (G.2.1, 24000, .inl (fun _ => 0))), (q3, .inr (2, [.int 0, .int 0, .ref q7, .ref q8, .ref q9, .ref q10, .ref q11, .ref q12, .ref q13, .ref q14, .ref q15, .ref q16, .ref q17, .ref q18, .ref q19, .ref q20, .int 0]))]) rfl (fun H locs w => ?_)
  exact e_v C hr w (fun _ => 0) [0, 1, 4, 6, 2, 3, 5] rfl rfl dX9_leastFirst_123 (by decide) (by decide)
set_option maxRecDepth 100000 in
set_option maxHeartbeats 4000000 in
theorem k547_first {l : Launch} {s0 : State} {a0 : Array Value} {G : GT} (b0 : B0 l s0 a0 G) (q0 q1 q2 q3 q4 q5 q6 q7 q8 q9 q10 q11 q12 q13 q14 q15 q16 q17 q18 q19 q20 q21 q22 q23 q24 q25 q26 q27 : Nat) (x0 : Int32) (h0 : x0 = 0) (h1 : ¬ 2 < x0) (h2 : ¬ x0 < 0) (sz : Nat) : Ki l s0 G yX11_first cX11_first 3 (some .int) { frames := 4, cells := 5, slots := 32212, locals := 151 } [.ref q0, .int x0] [(q0, .inr (11, [.ref q4, .ref q5, .ref q1, .ref q6, .ref q7, .ref q8, .ref q9, .ref q10, .ref q3, .ref q11, .int 0, .int (-1), .int 0, .int 0, .null, .null, .null, .null, .null])), (q1, .inr (5, [.ref q2, .ref q12, .ref q13, .int 0])), (q2, .inl (G.2.1, 8, .inl (fun _ => 0))), (q3, .inr (2, [.int 0, .int 0, .ref q14, .ref q15, .ref q16, .ref q17, .ref q18, .ref q19, .ref q20, .ref q21, .ref q22, .ref q23, .ref q24, .ref q25, .ref q26, .ref q27, .int 0]))] sz 0 (fun u => [(q0, .inr (11, [.ref q4, .ref q5, .ref q1, .ref q6, .ref q7, .ref q8, .ref q9, .ref q10, .ref q3, .ref q11, .int 0, .int (-1), .int 0, .int 0, .null, .null, .null, .null, .ref (u 0)])), (q1, .inr (5, [.ref q2, .ref q12, .ref q13, .int 0])), (q2, .inl (G.2.1, 8, .inl (fun _ => 0))), (q3, .inr (2, [.int 0, .int 0, .ref q14, .ref q15, .ref q16, .ref q17, .ref q18, .ref q19, .ref q20, .ref q21, .ref q22, .ref q23, .ref q24, .ref q25, .ref q26, .ref q27, .int 0])), ((u 0), .inr (9, [.int 0, .int 0, .int (-1), .int (-1), .int 0, .ref (u 1), .ref (u 2)])), ((u 1), .inl (G.2.1, 8, .inl (fun _ => 0))), ((u 2), .inr (7, [.ref (u 3), .int 0, .int 1, .int 3000, .ref (u 4)])), ((u 3), .inl (G.2.1, 24000, .inl (fun _ => 0))), ((u 4), .inl (G.2.1, 8192, .inl (upd (fun _ => (-1)) 7 0)))]) := by
  refine Ki.of b0 (own := RX11) (nm := "first") [(0, .ref q0), (1, .int x0)] rfl rfl (by decide +kernel) (Nat.le_of_ble_eq_true rfl) rfl ?_
  intro p e s m below meth c A C hr H locs w ls hl
  have hx := C.hx
  have hb := C.hb
  refine lv_iload_n hx hb dX11_first_0 rfl (lv_at hl 1 rfl) ?_
  refine lv_iconst (v := 0) hx hb dX11_first_1 (by decide) ?_
  refine lv_iconst (v := 2) hx hb dX11_first_2 (by decide) ?_
  refine fin_v C w (run_S C w ms_X11_72 (k165_needWithin C.b0 x0 h1 h2 H.size) [] rfl rfl (by decide) rfl hl.1 rfl (Nat.le_of_ble_eq_true rfl) dX11_first_3 (cells2 := 0) (slots2 := 0) (by decide)) [] [0, 1, 2, 3] rfl rfl (by decide) (cells2 := 0) (slots2 := 0) (by decide) (fun u1 H locs w => ?_)
  have w : Wd s G A [(q0, .inr (11, [.ref q4, .ref q5, .ref q1, .ref q6, .ref q7, .ref q8, .ref q9, .ref q10, .ref q3, .ref q11, .int 0, .int (-1), .int 0, .int 0, .null, .null, .null, .null, .null])), (q1, .inr (5, [.ref q2, .ref q12, .ref q13, .int 0])), (q2, .inl (G.2.1, 8, .inl (fun _ => 0))), (q3, .inr (2, [.int 0, .int 0, .ref q14, .ref q15, .ref q16, .ref q17, .ref q18, .ref q19, .ref q20, .ref q21, .ref q22, .ref q23, .ref q24, .ref q25, .ref q26, .ref q27, .int 0]))] H locs := w
  refine lv_aload_n hx hb dX11_first_6 rfl (lv_at hl 0 rfl) ?_
  refine fin_r C w (run_V C w mv_X11_314 (k499_walker C.b0 q0 q4 q5 q1 q6 q7 q8 q9 q10 q3 q11 H.size) [0] rfl rfl 0 rfl rfl (by decide) rfl hl.1 rfl (Nat.le_of_ble_eq_true rfl) dX11_first_7 (cells2 := 5) (slots2 := 32212) (by decide)) [0] [1, 2, 3] rfl rfl (by decide) (cells2 := 5) (slots2 := 32212) (by decide) (fun u2 H locs w => ?_)
  have w : Wd s G A [(q1, .inr (5, [.ref q2, .ref q12, .ref q13, .int 0])), (q2, .inl (G.2.1, 8, .inl (fun _ => 0))), (q3, .inr (2, [.int 0, .int 0, .ref q14, .ref q15, .ref q16, .ref q17, .ref q18, .ref q19, .ref q20, .ref q21, .ref q22, .ref q23, .ref q24, .ref q25, .ref q26, .ref q27, .int 0])), (q0, .inr (11, [.ref q4, .ref q5, .ref q1, .ref q6, .ref q7, .ref q8, .ref q9, .ref q10, .ref q3, .ref q11, .int 0, .int (-1), .int 0, .int 0, .null, .null, .null, .null, .ref (u2 0)])), ((u2 0), .inr (9, [.int (-1), .int 0, .int 0, .int 0, .int 0, .ref (u2 1), .ref (u2 2)])), ((u2 1), .inl (G.2.1, 8, .inl (fun _ => 0))), ((u2 2), .inr (7, [.ref (u2 3), .int 0, .int 0, .int 3000, .ref (u2 4)])), ((u2 3), .inl (G.2.1, 24000, .inl (fun _ => 0))), ((u2 4), .inl (G.2.1, 8192, .inl (fun _ => 0)))] H locs := w
  refine lv_astore_n (lv' := [(2, .ref (u2 0)), (0, .ref q0), (1, .int x0)]) hx hb dX11_first_10 rfl hl (by decide) rfl (fun ls hl => ?_)
  refine lv_aload_n hx hb dX11_first_11 rfl (lv_at hl 0 rfl) ?_
  refine r_get C w 4 rfl fr_X11_335 rfl dX11_first_12 ?_
  refine lv_aload_n hx hb dX11_first_15 rfl (lv_at hl 1 rfl) ?_
  refine r_get C w 3 rfl fr_X11_95 rfl dX11_first_16 ?_
  refine lv_icmp_eq (tgt := 41) hx hb dX11_first_19 (by decide) (fun h => absurd h (by decide)) (fun _ => ?_)
  refine lv_aload_n hx hb dX11_first_22 rfl (lv_at hl 0 rfl) ?_
  refine lv_aload_n hx hb dX11_first_23 rfl (lv_at hl 1 rfl) ?_
  refine r_get C w 3 rfl fr_X11_54 rfl dX11_first_24 ?_
  refine lv_aload_n hx hb dX11_first_27 rfl (lv_at hl 1 rfl) ?_
  refine r_get C w 3 rfl fr_X11_23 rfl dX11_first_28 ?_
  refine r_get C w 0 rfl fr_X11_129 rfl dX11_first_31 ?_
  refine lv_aload_n hx hb dX11_first_34 rfl (lv_at hl 1 rfl) ?_
  refine r_get C w 3 rfl fr_X11_95 rfl dX11_first_35 ?_
  refine fin_v C w (run_V C w mv_X11_336 (k546_leastFirst C.b0 (u2 0) q2 (u2 1) q3 (u2 2) (u2 4) (u2 3) q14 q15 q16 q17 q18 q19 q20 q21 q22 q23 q24 q25 q26 q27 H.size) [4, 1, 5, 2, 6, 8, 7] rfl rfl 4 rfl rfl (by decide) rfl hl.1 rfl (Nat.le_of_ble_eq_true rfl) dX11_first_38 (cells2 := 5) (slots2 := 32212) (by decide)) [4, 1, 5, 2, 6, 8, 7] [0, 3] rfl rfl (by decide) (cells2 := 5) (slots2 := 32212) (by decide) (fun u3 H locs w => ?_)
  have w : Wd s G A [(q1, .inr (5, [.ref q2, .ref q12, .ref q13, .int 0])), (q0, .inr (11, [.ref q4, .ref q5, .ref q1, .ref q6, .ref q7, .ref q8, .ref q9, .ref q10, .ref q3, .ref q11, .int 0, .int (-1), .int 0, .int 0, .null, .null, .null, .null, .ref (u2 0)])), ((u2 0), .inr (9, [.int 0, .int 0, .int (-1), .int (-1), .int 0, .ref (u2 1), .ref (u2 2)])), (q2, .inl (G.2.1, 8, .inl (fun _ => 0))), ((u2 1), .inl (G.2.1, 8, .inl (fun _ => 0))), (q3, .inr (2, [.int 0, .int 0, .ref q14, .ref q15, .ref q16, .ref q17, .ref q18, .ref q19, .ref q20, .ref q21, .ref q22, .ref q23, .ref q24, .ref q25, .ref q26, .ref q27, .int 0])), ((u2 2), .inr (7, [.ref (u2 3), .int 0, .int 1, .int 3000, .ref (u2 4)])), ((u2 4), .inl (G.2.1, 8192, .inl (upd (fun _ => (-1)) 7 0))), ((u2 3), .inl (G.2.1, 24000, .inl (fun _ => 0)))] H locs := w
  refine lv_aload_n hx hb dX11_first_41 rfl (lv_at hl 0 rfl) ?_
  refine r_get C w 2 rfl fr_X11_340 rfl dX11_first_42 ?_
  refine lv_if_eq (tgt := 51) hx hb dX11_first_45 (by decide) (fun _ => ?_) (fun h => absurd (by decide) h)
  refine lv_iload_n hx hb dX11_first_51 rfl (lv_at hl 2 rfl) ?_
  refine lv_if_ne (tgt := 60) hx hb dX11_first_52 (by decide) (fun h => absurd h0 h) (fun _ => ?_)
  refine lv_aload_n hx hb dX11_first_55 rfl (lv_at hl 0 rfl) ?_
  refine r_get C w 2 rfl fr_X11_344 rfl dX11_first_56 ?_
  exact e_i C hr w (fun k => [(u2 0), (u2 1), (u2 2), (u2 3), (u2 4)].getD k 0) [1, 0, 3, 5, 2, 4, 6, 8, 7] rfl rfl rfl dX11_first_59 (by decide) (by decide)
set_option maxRecDepth 100000 in
set_option maxHeartbeats 4000000 in
theorem k548_first {l : Launch} {s0 : State} {a0 : Array Value} {G : GT} (b0 : B0 l s0 a0 G) (q0 q1 q2 q3 q4 q5 q6 q7 q8 q9 q10 q11 q12 q13 q14 q15 q16 q17 q18 q19 q20 q21 q22 q23 q24 q25 q26 q27 q28 : Nat) (x0 : Int32) (h0 : x0 = 0) (h1 : ¬ 2 < x0) (h2 : ¬ x0 < 0) (sz : Nat) : Kh l s0 G yL_first cL_first 4 (some .int) [(0, 9, 12, 13)] { frames := 5, cells := 5, slots := 32212, locals := 173 } [.ref q0, .int x0, .ref q4] [(q0, .inr (11, [.ref q5, .ref q6, .ref q1, .ref q7, .ref q8, .ref q9, .ref q10, .ref q11, .ref q3, .ref q12, .int 0, .int (-1), .int 0, .int 0, .null, .null, .null, .null, .null])), (q1, .inr (5, [.ref q2, .ref q13, .ref q14, .int 0])), (q2, .inl (G.2.1, 8, .inl (fun _ => 0))), (q3, .inr (2, [.int 0, .int 0, .ref q15, .ref q16, .ref q17, .ref q18, .ref q19, .ref q20, .ref q21, .ref q22, .ref q23, .ref q24, .ref q25, .ref q26, .ref q27, .ref q28, .int 0])), (q4, .inl (G.2.2.1, 1, .inr (.inl (fun _ => 0))))] sz 0 (fun u => [(q0, .inr (11, [.ref q5, .ref q6, .ref q1, .ref q7, .ref q8, .ref q9, .ref q10, .ref q11, .ref q3, .ref q12, .int 0, .int (-1), .int 0, .int 0, .null, .null, .null, .null, .ref (u 0)])), (q1, .inr (5, [.ref q2, .ref q13, .ref q14, .int 0])), (q2, .inl (G.2.1, 8, .inl (fun _ => 0))), (q3, .inr (2, [.int 0, .int 0, .ref q15, .ref q16, .ref q17, .ref q18, .ref q19, .ref q20, .ref q21, .ref q22, .ref q23, .ref q24, .ref q25, .ref q26, .ref q27, .ref q28, .int 0])), (q4, .inl (G.2.2.1, 1, .inr (.inl (fun _ => 0)))), ((u 0), .inr (9, [.int 0, .int 0, .int (-1), .int (-1), .int 0, .ref (u 1), .ref (u 2)])), ((u 1), .inl (G.2.1, 8, .inl (fun _ => 0))), ((u 2), .inr (7, [.ref (u 3), .int 0, .int 1, .int 3000, .ref (u 4)])), ((u 3), .inl (G.2.1, 24000, .inl (fun _ => 0))), ((u 4), .inl (G.2.1, 8192, .inl (upd (fun _ => (-1)) 7 0)))]) := by
  refine Kh.of b0 (own := RL) (nm := "first") [(0, .ref q0), (1, .int x0), (2, .ref q4)] rfl rfl (by decide +kernel) (Nat.le_of_ble_eq_true rfl) rfl ?_
  intro p e s m below meth c A C hr ht H locs w ls hl
  have hx := C.hx
  have hb := C.hb
  refine lv_aload_n hx hb dL_first_0 rfl (lv_at hl 2 rfl) ?_
  refine lv_iconst (v := 0) hx hb dL_first_1 (by decide) ?_
  refine lv_aload_n hx hb dL_first_2 rfl (lv_at hl 0 rfl) ?_
  refine lv_iload_n hx hb dL_first_3 rfl (lv_at hl 1 rfl) ?_
  refine fin_i C w (run_V C w mv_L_132 (k547_first C.b0 q0 q1 q2 q3 q5 q6 q7 q8 q9 q10 q11 q12 q13 q14 q15 q16 q17 q18 q19 q20 q21 q22 q23 q24 q25 q26 q27 q28 x0 h0 h1 h2 H.size) [0, 1, 2, 3] rfl rfl 0 rfl rfl (by decide) rfl hl.1 rfl (Nat.le_of_ble_eq_true rfl) dL_first_4 (cells2 := 5) (slots2 := 32212) (by decide)) [0, 1, 2, 3] [4] rfl rfl (by decide) (cells2 := 5) (slots2 := 32212) (by decide) (fun u1 H locs w => ?_)
  have w : Wd s G A [(q4, .inl (G.2.2.1, 1, .inr (.inl (fun _ => 0)))), (q0, .inr (11, [.ref q5, .ref q6, .ref q1, .ref q7, .ref q8, .ref q9, .ref q10, .ref q11, .ref q3, .ref q12, .int 0, .int (-1), .int 0, .int 0, .null, .null, .null, .null, .ref (u1 0)])), (q1, .inr (5, [.ref q2, .ref q13, .ref q14, .int 0])), (q2, .inl (G.2.1, 8, .inl (fun _ => 0))), (q3, .inr (2, [.int 0, .int 0, .ref q15, .ref q16, .ref q17, .ref q18, .ref q19, .ref q20, .ref q21, .ref q22, .ref q23, .ref q24, .ref q25, .ref q26, .ref q27, .ref q28, .int 0])), ((u1 0), .inr (9, [.int 0, .int 0, .int (-1), .int (-1), .int 0, .ref (u1 1), .ref (u1 2)])), ((u1 1), .inl (G.2.1, 8, .inl (fun _ => 0))), ((u1 2), .inr (7, [.ref (u1 3), .int 0, .int 1, .int 3000, .ref (u1 4)])), ((u1 3), .inl (G.2.1, 24000, .inl (fun _ => 0))), ((u1 4), .inl (G.2.1, 8192, .inl (upd (fun _ => (-1)) 7 0)))] H locs := w
  refine lv_i2l (v := 0) hx hb dL_first_7 (by decide +kernel) ?_
  refine r_last C w 0 rfl (IX.of (k := 0) (by decide +kernel)) (g := (fun _ => 0)) (updL_c _ _) dL_first_8 (ws2 := [(q4, .inl (G.2.2.1, 1, .inr (.inl (fun _ => 0)))), (q0, .inr (11, [.ref q5, .ref q6, .ref q1, .ref q7, .ref q8, .ref q9, .ref q10, .ref q11, .ref q3, .ref q12, .int 0, .int (-1), .int 0, .int 0, .null, .null, .null, .null, .ref (u1 0)])), (q1, .inr (5, [.ref q2, .ref q13, .ref q14, .int 0])), (q2, .inl (G.2.1, 8, .inl (fun _ => 0))), (q3, .inr (2, [.int 0, .int 0, .ref q15, .ref q16, .ref q17, .ref q18, .ref q19, .ref q20, .ref q21, .ref q22, .ref q23, .ref q24, .ref q25, .ref q26, .ref q27, .ref q28, .int 0])), ((u1 0), .inr (9, [.int 0, .int 0, .int (-1), .int (-1), .int 0, .ref (u1 1), .ref (u1 2)])), ((u1 1), .inl (G.2.1, 8, .inl (fun _ => 0))), ((u1 2), .inr (7, [.ref (u1 3), .int 0, .int 1, .int 3000, .ref (u1 4)])), ((u1 3), .inl (G.2.1, 24000, .inl (fun _ => 0))), ((u1 4), .inl (G.2.1, 8192, .inl (upd (fun _ => (-1)) 7 0)))]) rfl (fun H locs w => ?_)
  refine lv_goto (tgt := 15) hx hb dL_first_9 (by decide) ?_
  refine lv_iconst (v := 0) hx hb dL_first_15 (by decide) ?_
  exact e_i C hr w (fun k => [(u1 0), (u1 1), (u1 2), (u1 3), (u1 4)].getD k 0) [1, 2, 3, 4, 0, 5, 6, 7, 8, 9] rfl rfl rfl dL_first_16 (by decide) (by decide)
set_option maxRecDepth 100000 in
set_option maxHeartbeats 4000000 in
theorem k549_first {l : Launch} {s0 : State} {a0 : Array Value} {G : GT} (b0 : B0 l s0 a0 G) (q0 q1 q2 q3 q4 q5 q6 q7 q8 q9 q10 q11 q12 q13 q14 q15 q16 q17 q18 q19 q20 q21 q22 q23 q24 q25 q26 q27 q28 q29 q30 q31 q32 q33 q34 q35 q36 q37 q38 q39 q40 q41 q42 : Nat) (x0 : Int32) (h0 : x0 = 0) (h1 : ¬ 2 < x0) (h2 : ¬ x0 < 0) (sz : Nat) : Ki l s0 G yX12_first cX12_first 4 (some .int) { frames := 2, cells := 0, slots := 0, locals := 48 } [.ref q0, .int x0] [(q0, .inr (12, [.int 0, .int 0, .int 0, .int 0, .int 0, .int 0, .int 0, .int (-1), .ref q9, .ref q8, .ref q10, .int 0, .ref q11, .ref q12, .ref q13, .ref q14, .ref q15, .ref q2, .ref q16, .int 0, .ref q3, .ref q4, .ref q17, .ref q6, .ref q7, .ref q1, .ref q5, .int 0, .int (-1), .int 0, .ref q18, .ref q19, .ref q20, .ref q21, .ref q22, .ref q23, .ref q24, .ref q25, .int 0, .ref q26, .ref q27, .ref q28, .ref q29, .ref q30, .int 0, .ref q31, .ref q32, .ref q33, .ref q34, .int 0, .ref q35, .ref q36, .ref q37, .ref q38, .int 0, .int 0, .ref q39, .ref q40, .ref q41, .ref q42])), (q1, .inl (G.2.1, 4096, .inl (fun _ => 0))), (q2, .inl (G.2.1, 57, .inl (fun _ => 0))), (q3, .inl (G.2.1, 8, .inl (fun _ => 0))), (q4, .inl (G.2.1, 24008, .inl (fun _ => 0))), (q5, .inl (G.2.1, 3000, .inl (fun _ => 0))), (q6, .inl (G.2.1, 3000, .inl (fun _ => 0))), (q7, .inl (G.2.1, 3000, .inl (fun _ => 0))), (q8, .inl (G.2.1, 242, .inl (fun _ => 0)))] sz 0 (fun u => [(q0, .inr (12, [.int 0, .int 0, .int 0, .int 0, .int 0, .int 0, .int 0, .int (-1), .ref q9, .ref q8, .ref q10, .int 0, .ref q11, .ref q12, .ref q13, .ref q14, .ref q15, .ref q2, .ref q16, .int 0, .ref q3, .ref q4, .ref q17, .ref q6, .ref q7, .ref q1, .ref q5, .int 1, .int (-1), .int 0, .ref q18, .ref q19, .ref q20, .ref q21, .ref q22, .ref q23, .ref q24, .ref q25, .int 0, .ref q26, .ref q27, .ref q28, .ref q29, .ref q30, .int 0, .ref q31, .ref q32, .ref q33, .ref q34, .int 0, .ref q35, .ref q36, .ref q37, .ref q38, .int 0, .int 0, .ref q39, .ref q40, .ref q41, .ref q42])), (q1, .inl (G.2.1, 4096, .inl (upd (fun _ => (-1)) 0 0))), (q2, .inl (G.2.1, 57, .inl (fun _ => 0))), (q3, .inl (G.2.1, 8, .inl (fun _ => 0))), (q4, .inl (G.2.1, 24008, .inl (fun _ => 0))), (q5, .inl (G.2.1, 3000, .inl (upd (fun _ => 0) 0 (-1)))), (q6, .inl (G.2.1, 3000, .inl (upd (fun _ => 0) 0 (-1)))), (q7, .inl (G.2.1, 3000, .inl (upd (fun _ => 0) 0 (-1)))), (q8, .inl (G.2.1, 242, .inl (fun _ => 0)))]) := by
  refine Ki.of b0 (own := RX12) (nm := "first") [(0, .ref q0), (1, .int x0)] rfl rfl (by decide +kernel) (Nat.le_of_ble_eq_true rfl) rfl ?_
  intro p e s m below meth c A C hr H locs w ls hl
  have hx := C.hx
  have hb := C.hb
  refine lv_aload_n hx hb dX12_first_0 rfl (lv_at hl 0 rfl) ?_
  refine lv_iconst (v := 0) hx hb dX12_first_1 (by decide) ?_
  refine r_put C w 0 rfl fl_X12_1 (Nat.le_of_ble_eq_true rfl) rfl rfl dX12_first_2 (ws2 := [(q0, .inr (12, [.int 0, .int 0, .int 0, .int 0, .int 0, .int 0, .int 0, .int (-1), .ref q9, .ref q8, .ref q10, .int 0, .ref q11, .ref q12, .ref q13, .ref q14, .ref q15, .ref q2, .ref q16, .int 0, .ref q3, .ref q4, .ref q17, .ref q6, .ref q7, .ref q1, .ref q5, .int 0, .int (-1), .int 0, .ref q18, .ref q19, .ref q20, .ref q21, .ref q22, .ref q23, .ref q24, .ref q25, .int 0, .ref q26, .ref q27, .ref q28, .ref q29, .ref q30, .int 0, .ref q31, .ref q32, .ref q33, .ref q34, .int 0, .ref q35, .ref q36, .ref q37, .ref q38, .int 0, .int 0, .ref q39, .ref q40, .ref q41, .ref q42])), (q1, .inl (G.2.1, 4096, .inl (fun _ => 0))), (q2, .inl (G.2.1, 57, .inl (fun _ => 0))), (q3, .inl (G.2.1, 8, .inl (fun _ => 0))), (q4, .inl (G.2.1, 24008, .inl (fun _ => 0))), (q5, .inl (G.2.1, 3000, .inl (fun _ => 0))), (q6, .inl (G.2.1, 3000, .inl (fun _ => 0))), (q7, .inl (G.2.1, 3000, .inl (fun _ => 0))), (q8, .inl (G.2.1, 242, .inl (fun _ => 0)))]) rfl (fun H locs w => ?_)
  refine lv_aload_n hx hb dX12_first_5 rfl (lv_at hl 0 rfl) ?_
  refine lv_iload_n hx hb dX12_first_6 rfl (lv_at hl 1 rfl) ?_
  refine lv_iconst (v := 0) hx hb dX12_first_7 (by decide) ?_
  refine lv_iconst (v := 2) hx hb dX12_first_8 (by decide) ?_
  refine fin_i C w (run_S C w ms_X12_289 (k177_within C.b0 x0 h1 h2 H.size) [] rfl rfl (by decide) rfl hl.1 rfl (Nat.le_of_ble_eq_true rfl) dX12_first_9 (cells2 := 0) (slots2 := 0) (by decide)) [] [0, 1, 2, 3, 4, 5, 6, 7, 8] rfl rfl (by decide) (cells2 := 0) (slots2 := 0) (by decide) (fun u1 H locs w => ?_)
  have w : Wd s G A [(q0, .inr (12, [.int 0, .int 0, .int 0, .int 0, .int 0, .int 0, .int 0, .int (-1), .ref q9, .ref q8, .ref q10, .int 0, .ref q11, .ref q12, .ref q13, .ref q14, .ref q15, .ref q2, .ref q16, .int 0, .ref q3, .ref q4, .ref q17, .ref q6, .ref q7, .ref q1, .ref q5, .int 0, .int (-1), .int 0, .ref q18, .ref q19, .ref q20, .ref q21, .ref q22, .ref q23, .ref q24, .ref q25, .int 0, .ref q26, .ref q27, .ref q28, .ref q29, .ref q30, .int 0, .ref q31, .ref q32, .ref q33, .ref q34, .int 0, .ref q35, .ref q36, .ref q37, .ref q38, .int 0, .int 0, .ref q39, .ref q40, .ref q41, .ref q42])), (q1, .inl (G.2.1, 4096, .inl (fun _ => 0))), (q2, .inl (G.2.1, 57, .inl (fun _ => 0))), (q3, .inl (G.2.1, 8, .inl (fun _ => 0))), (q4, .inl (G.2.1, 24008, .inl (fun _ => 0))), (q5, .inl (G.2.1, 3000, .inl (fun _ => 0))), (q6, .inl (G.2.1, 3000, .inl (fun _ => 0))), (q7, .inl (G.2.1, 3000, .inl (fun _ => 0))), (q8, .inl (G.2.1, 242, .inl (fun _ => 0)))] H locs := w
  refine lv_iconst (v := 1) hx hb dX12_first_12 (by decide) ?_
  refine fin_i C w (run_V C w mv_X12_267 (k32_may C.b0 q0 q9 q8 q10 q11 q12 q13 q14 q15 q2 q16 q3 q4 q17 q6 q7 q1 q5 q18 q19 q20 q21 q22 q23 q24 q25 q26 q27 q28 q29 q30 q31 q32 q33 q34 q35 q36 q37 q38 q39 q40 q41 q42 H.size) [0] rfl rfl 0 rfl rfl (by decide) rfl hl.1 rfl (Nat.le_of_ble_eq_true rfl) dX12_first_13 (cells2 := 0) (slots2 := 0) (by decide)) [0] [1, 2, 3, 4, 5, 6, 7, 8] rfl rfl (by decide) (cells2 := 0) (slots2 := 0) (by decide) (fun u2 H locs w => ?_)
  have w : Wd s G A [(q1, .inl (G.2.1, 4096, .inl (fun _ => 0))), (q2, .inl (G.2.1, 57, .inl (fun _ => 0))), (q3, .inl (G.2.1, 8, .inl (fun _ => 0))), (q4, .inl (G.2.1, 24008, .inl (fun _ => 0))), (q5, .inl (G.2.1, 3000, .inl (fun _ => 0))), (q6, .inl (G.2.1, 3000, .inl (fun _ => 0))), (q7, .inl (G.2.1, 3000, .inl (fun _ => 0))), (q8, .inl (G.2.1, 242, .inl (fun _ => 0))), (q0, .inr (12, [.int 0, .int 0, .int 0, .int 0, .int 0, .int 0, .int 0, .int (-1), .ref q9, .ref q8, .ref q10, .int 0, .ref q11, .ref q12, .ref q13, .ref q14, .ref q15, .ref q2, .ref q16, .int 0, .ref q3, .ref q4, .ref q17, .ref q6, .ref q7, .ref q1, .ref q5, .int 0, .int (-1), .int 0, .ref q18, .ref q19, .ref q20, .ref q21, .ref q22, .ref q23, .ref q24, .ref q25, .int 0, .ref q26, .ref q27, .ref q28, .ref q29, .ref q30, .int 0, .ref q31, .ref q32, .ref q33, .ref q34, .int 0, .ref q35, .ref q36, .ref q37, .ref q38, .int 0, .int 0, .ref q39, .ref q40, .ref q41, .ref q42]))] H locs := w
  refine lv_if_ne (tgt := 21) hx hb dX12_first_16 (by decide) (fun _ => ?_) (fun h => h.elim (by decide))
  refine lv_iconst (v := 0) hx hb dX12_first_21 (by decide) ?_
  refine lv_istore_n (lv' := [(2, .int 0), (0, .ref q0), (1, .int x0)]) hx hb dX12_first_22 rfl hl (by decide) rfl (fun ls hl => ?_)
  refine lp_fill (h := 23) (N := 4096) (Nv := 4096) (cv := (-1)) (lvr := [(0, .ref q0), (1, .int x0)]) (qo := 8) (qa := 0) C w (lv_sub hl [0, 1, 2] rfl) (by decide) (by decide +kernel) (by decide +kernel) (by decide +kernel) dX12_first_23 dX12_first_24 dX12_first_27 dX12_first_30 dX12_first_31 dX12_first_34 dX12_first_35 dX12_first_36 dX12_first_37 dX12_first_40 fr_X12_62 rfl rfl rfl (by decide) rfl rfl (by decide) (fun H locs ls w hl => ?_)
  have w : Wd s G A [(q1, .inl (G.2.1, 4096, .inl (fun _ => (-1)))), (q2, .inl (G.2.1, 57, .inl (fun _ => 0))), (q3, .inl (G.2.1, 8, .inl (fun _ => 0))), (q4, .inl (G.2.1, 24008, .inl (fun _ => 0))), (q5, .inl (G.2.1, 3000, .inl (fun _ => 0))), (q6, .inl (G.2.1, 3000, .inl (fun _ => 0))), (q7, .inl (G.2.1, 3000, .inl (fun _ => 0))), (q8, .inl (G.2.1, 242, .inl (fun _ => 0))), (q0, .inr (12, [.int 0, .int 0, .int 0, .int 0, .int 0, .int 0, .int 0, .int (-1), .ref q9, .ref q8, .ref q10, .int 0, .ref q11, .ref q12, .ref q13, .ref q14, .ref q15, .ref q2, .ref q16, .int 0, .ref q3, .ref q4, .ref q17, .ref q6, .ref q7, .ref q1, .ref q5, .int 0, .int (-1), .int 0, .ref q18, .ref q19, .ref q20, .ref q21, .ref q22, .ref q23, .ref q24, .ref q25, .int 0, .ref q26, .ref q27, .ref q28, .ref q29, .ref q30, .int 0, .ref q31, .ref q32, .ref q33, .ref q34, .int 0, .ref q35, .ref q36, .ref q37, .ref q38, .int 0, .int 0, .ref q39, .ref q40, .ref q41, .ref q42]))] H locs := w
  refine lv_aload_n hx hb dX12_first_43 rfl (lv_at hl 1 rfl) ?_
  refine lv_iconst (v := 0) hx hb dX12_first_44 (by decide) ?_
  refine r_put C w 8 rfl fl_X12_322 (Nat.le_of_ble_eq_true rfl) rfl rfl dX12_first_45 (ws2 := [(q1, .inl (G.2.1, 4096, .inl (fun _ => (-1)))), (q2, .inl (G.2.1, 57, .inl (fun _ => 0))), (q3, .inl (G.2.1, 8, .inl (fun _ => 0))), (q4, .inl (G.2.1, 24008, .inl (fun _ => 0))), (q5, .inl (G.2.1, 3000, .inl (fun _ => 0))), (q6, .inl (G.2.1, 3000, .inl (fun _ => 0))), (q7, .inl (G.2.1, 3000, .inl (fun _ => 0))), (q8, .inl (G.2.1, 242, .inl (fun _ => 0))), (q0, .inr (12, [.int 0, .int 0, .int 0, .int 0, .int 0, .int 0, .int 0, .int (-1), .ref q9, .ref q8, .ref q10, .int 0, .ref q11, .ref q12, .ref q13, .ref q14, .ref q15, .ref q2, .ref q16, .int 0, .ref q3, .ref q4, .ref q17, .ref q6, .ref q7, .ref q1, .ref q5, .int 0, .int (-1), .int 0, .ref q18, .ref q19, .ref q20, .ref q21, .ref q22, .ref q23, .ref q24, .ref q25, .int 0, .ref q26, .ref q27, .ref q28, .ref q29, .ref q30, .int 0, .ref q31, .ref q32, .ref q33, .ref q34, .int 0, .ref q35, .ref q36, .ref q37, .ref q38, .int 0, .int 0, .ref q39, .ref q40, .ref q41, .ref q42]))]) rfl (fun H locs w => ?_)
  refine lv_aload_n hx hb dX12_first_48 rfl (lv_at hl 1 rfl) ?_
  refine fin_v C w (run_V C w mv_X12_315 (k89_asNow C.b0 q0 q2 q3 q9 q8 q10 q11 q12 q13 q14 q15 q16 q4 q17 q6 q7 q1 q5 q18 q19 q20 q21 q22 q23 q24 q25 q26 q27 q28 q29 q30 q31 q32 q33 q34 q35 q36 q37 q38 q39 q40 q41 q42 H.size) [8, 1, 2] rfl rfl 8 rfl rfl (by decide) rfl hl.1 rfl (Nat.le_of_ble_eq_true rfl) dX12_first_49 (cells2 := 0) (slots2 := 0) (by decide)) [8, 1, 2] [0, 3, 4, 5, 6, 7] rfl rfl (by decide) (cells2 := 0) (slots2 := 0) (by decide) (fun u3 H locs w => ?_)
  have w : Wd s G A [(q1, .inl (G.2.1, 4096, .inl (fun _ => (-1)))), (q4, .inl (G.2.1, 24008, .inl (fun _ => 0))), (q5, .inl (G.2.1, 3000, .inl (fun _ => 0))), (q6, .inl (G.2.1, 3000, .inl (fun _ => 0))), (q7, .inl (G.2.1, 3000, .inl (fun _ => 0))), (q8, .inl (G.2.1, 242, .inl (fun _ => 0))), (q0, .inr (12, [.int 0, .int 0, .int 0, .int 0, .int 0, .int 0, .int 0, .int (-1), .ref q9, .ref q8, .ref q10, .int 0, .ref q11, .ref q12, .ref q13, .ref q14, .ref q15, .ref q2, .ref q16, .int 0, .ref q3, .ref q4, .ref q17, .ref q6, .ref q7, .ref q1, .ref q5, .int 0, .int (-1), .int 0, .ref q18, .ref q19, .ref q20, .ref q21, .ref q22, .ref q23, .ref q24, .ref q25, .int 0, .ref q26, .ref q27, .ref q28, .ref q29, .ref q30, .int 0, .ref q31, .ref q32, .ref q33, .ref q34, .int 0, .ref q35, .ref q36, .ref q37, .ref q38, .int 0, .int 0, .ref q39, .ref q40, .ref q41, .ref q42])), (q2, .inl (G.2.1, 57, .inl (fun _ => 0))), (q3, .inl (G.2.1, 8, .inl (fun _ => 0)))] H locs := w
  refine lv_aload_n hx hb dX12_first_52 rfl (lv_at hl 1 rfl) ?_
  refine lv_aload_n hx hb dX12_first_53 rfl (lv_at hl 1 rfl) ?_
  refine r_get C w 6 rfl fr_X12_47 rfl dX12_first_54 ?_
  refine lv_iconst (v := (-1)) hx hb dX12_first_57 (by decide) ?_
  refine lv_iconst (v := (-1)) hx hb dX12_first_58 (by decide) ?_
  refine fin_i C w (run_V C w mv_X12_329 (k122_come C.b0 q0 q3 q4 q1 q5 q6 q7 q9 q8 q10 q11 q12 q13 q14 q15 q2 q16 q17 q18 q19 q20 q21 q22 q23 q24 q25 q26 q27 q28 q29 q30 q31 q32 q33 q34 q35 q36 q37 q38 q39 q40 q41 q42 H.size) [6, 8, 1, 0, 2, 3, 4] rfl rfl 6 rfl rfl (by decide) rfl hl.1 rfl (Nat.le_of_ble_eq_true rfl) dX12_first_59 (cells2 := 0) (slots2 := 0) (by decide)) [6, 8, 1, 0, 2, 3, 4] [5, 7] rfl rfl (by decide) (cells2 := 0) (slots2 := 0) (by decide) (fun u4 H locs w => ?_)
  have w : Wd s G A [(q8, .inl (G.2.1, 242, .inl (fun _ => 0))), (q2, .inl (G.2.1, 57, .inl (fun _ => 0))), (q0, .inr (12, [.int 0, .int 0, .int 0, .int 0, .int 0, .int 0, .int 0, .int (-1), .ref q9, .ref q8, .ref q10, .int 0, .ref q11, .ref q12, .ref q13, .ref q14, .ref q15, .ref q2, .ref q16, .int 0, .ref q3, .ref q4, .ref q17, .ref q6, .ref q7, .ref q1, .ref q5, .int 1, .int (-1), .int 0, .ref q18, .ref q19, .ref q20, .ref q21, .ref q22, .ref q23, .ref q24, .ref q25, .int 0, .ref q26, .ref q27, .ref q28, .ref q29, .ref q30, .int 0, .ref q31, .ref q32, .ref q33, .ref q34, .int 0, .ref q35, .ref q36, .ref q37, .ref q38, .int 0, .int 0, .ref q39, .ref q40, .ref q41, .ref q42])), (q3, .inl (G.2.1, 8, .inl (fun _ => 0))), (q4, .inl (G.2.1, 24008, .inl (fun _ => 0))), (q1, .inl (G.2.1, 4096, .inl (upd (fun _ => (-1)) 0 0))), (q5, .inl (G.2.1, 3000, .inl (upd (fun _ => 0) 0 (-1)))), (q6, .inl (G.2.1, 3000, .inl (upd (fun _ => 0) 0 (-1)))), (q7, .inl (G.2.1, 3000, .inl (upd (fun _ => 0) 0 (-1))))] H locs := w
  refine lv_pop hx hb dX12_first_62 rfl ?_
  refine lv_iconst (v := 0) hx hb dX12_first_63 (by decide) ?_
  refine lv_istore_n (lv' := [(2, .int 0), (0, .ref q0), (1, .int x0)]) hx hb dX12_first_64 rfl hl (by decide) rfl (fun ls hl => ?_)
  refine lv_iload_n hx hb dX12_first_65 rfl (lv_at hl 0 rfl) ?_
  refine lv_aload_n hx hb dX12_first_66 rfl (lv_at hl 1 rfl) ?_
  refine fin_i C w (run_V C w mv_X12_286 (k123_acts C.b0 q0 q8 q9 q10 q11 q12 q13 q14 q15 q2 q16 q3 q4 q17 q6 q7 q1 q5 q18 q19 q20 q21 q22 q23 q24 q25 q26 q27 q28 q29 q30 q31 q32 q33 q34 q35 q36 q37 q38 q39 q40 q41 q42 H.size) [2, 0] rfl rfl 2 rfl rfl (by decide) rfl hl.1 rfl (Nat.le_of_ble_eq_true rfl) dX12_first_67 (cells2 := 0) (slots2 := 0) (by decide)) [2, 0] [1, 3, 4, 5, 6, 7, 8] rfl rfl (by decide) (cells2 := 0) (slots2 := 0) (by decide) (fun u5 H locs w => ?_)
  have w : Wd s G A [(q2, .inl (G.2.1, 57, .inl (fun _ => 0))), (q3, .inl (G.2.1, 8, .inl (fun _ => 0))), (q4, .inl (G.2.1, 24008, .inl (fun _ => 0))), (q1, .inl (G.2.1, 4096, .inl (upd (fun _ => (-1)) 0 0))), (q5, .inl (G.2.1, 3000, .inl (upd (fun _ => 0) 0 (-1)))), (q6, .inl (G.2.1, 3000, .inl (upd (fun _ => 0) 0 (-1)))), (q7, .inl (G.2.1, 3000, .inl (upd (fun _ => 0) 0 (-1)))), (q0, .inr (12, [.int 0, .int 0, .int 0, .int 0, .int 0, .int 0, .int 0, .int (-1), .ref q9, .ref q8, .ref q10, .int 0, .ref q11, .ref q12, .ref q13, .ref q14, .ref q15, .ref q2, .ref q16, .int 0, .ref q3, .ref q4, .ref q17, .ref q6, .ref q7, .ref q1, .ref q5, .int 1, .int (-1), .int 0, .ref q18, .ref q19, .ref q20, .ref q21, .ref q22, .ref q23, .ref q24, .ref q25, .int 0, .ref q26, .ref q27, .ref q28, .ref q29, .ref q30, .int 0, .ref q31, .ref q32, .ref q33, .ref q34, .int 0, .ref q35, .ref q36, .ref q37, .ref q38, .int 0, .int 0, .ref q39, .ref q40, .ref q41, .ref q42])), (q8, .inl (G.2.1, 242, .inl (fun _ => 0)))] H locs := w
  refine lv_icmp_ge (tgt := 92) hx hb dX12_first_70 (by decide) (fun _ => ?_) (fun h => absurd (by decide) h)
  refine lv_iload_n hx hb dX12_first_92 rfl (lv_at hl 0 rfl) ?_
  refine lv_aload_n hx hb dX12_first_93 rfl (lv_at hl 1 rfl) ?_
  refine fin_i C w (run_V C w mv_X12_286 (k123_acts C.b0 q0 q8 q9 q10 q11 q12 q13 q14 q15 q2 q16 q3 q4 q17 q6 q7 q1 q5 q18 q19 q20 q21 q22 q23 q24 q25 q26 q27 q28 q29 q30 q31 q32 q33 q34 q35 q36 q37 q38 q39 q40 q41 q42 H.size) [7, 8] rfl rfl 7 rfl rfl (by decide) rfl hl.1 rfl (Nat.le_of_ble_eq_true rfl) dX12_first_94 (cells2 := 0) (slots2 := 0) (by decide)) [7, 8] [0, 1, 2, 3, 4, 5, 6] rfl rfl (by decide) (cells2 := 0) (slots2 := 0) (by decide) (fun u6 H locs w => ?_)
  have w : Wd s G A [(q2, .inl (G.2.1, 57, .inl (fun _ => 0))), (q3, .inl (G.2.1, 8, .inl (fun _ => 0))), (q4, .inl (G.2.1, 24008, .inl (fun _ => 0))), (q1, .inl (G.2.1, 4096, .inl (upd (fun _ => (-1)) 0 0))), (q5, .inl (G.2.1, 3000, .inl (upd (fun _ => 0) 0 (-1)))), (q6, .inl (G.2.1, 3000, .inl (upd (fun _ => 0) 0 (-1)))), (q7, .inl (G.2.1, 3000, .inl (upd (fun _ => 0) 0 (-1)))), (q0, .inr (12, [.int 0, .int 0, .int 0, .int 0, .int 0, .int 0, .int 0, .int (-1), .ref q9, .ref q8, .ref q10, .int 0, .ref q11, .ref q12, .ref q13, .ref q14, .ref q15, .ref q2, .ref q16, .int 0, .ref q3, .ref q4, .ref q17, .ref q6, .ref q7, .ref q1, .ref q5, .int 1, .int (-1), .int 0, .ref q18, .ref q19, .ref q20, .ref q21, .ref q22, .ref q23, .ref q24, .ref q25, .int 0, .ref q26, .ref q27, .ref q28, .ref q29, .ref q30, .int 0, .ref q31, .ref q32, .ref q33, .ref q34, .int 0, .ref q35, .ref q36, .ref q37, .ref q38, .int 0, .int 0, .ref q39, .ref q40, .ref q41, .ref q42])), (q8, .inl (G.2.1, 242, .inl (fun _ => 0)))] H locs := w
  refine lv_icmp_ne (tgt := 115) hx hb dX12_first_97 (by decide) (fun h => absurd (by decide) h) (fun _ => ?_)
  refine lv_iload_n hx hb dX12_first_100 rfl (lv_at hl 2 rfl) ?_
  refine lv_if_ne (tgt := 113) hx hb dX12_first_101 (by decide) (fun h => absurd h0 h) (fun _ => ?_)
  refine lv_aload_n hx hb dX12_first_104 rfl (lv_at hl 1 rfl) ?_
  refine r_get C w 7 rfl fr_X12_322 rfl dX12_first_105 ?_
  refine lv_iconst (v := 1) hx hb dX12_first_108 (by decide) ?_
  refine lv_isub hx hb dX12_first_109 ?_
  refine z_i (v := 0) (by decide +kernel) ?_
  refine lv_goto (tgt := 114) hx hb dX12_first_110 (by decide) ?_
  exact e_i C hr w (fun _ => 0) [7, 3, 0, 1, 2, 4, 5, 6, 8] rfl rfl rfl dX12_first_114 (by decide) (by decide)
set_option maxRecDepth 100000 in
set_option maxHeartbeats 4000000 in
theorem k550_first {l : Launch} {s0 : State} {a0 : Array Value} {G : GT} (b0 : B0 l s0 a0 G) (q0 q1 q2 q3 q4 q5 q6 q7 q8 q9 q10 q11 q12 q13 q14 q15 q16 q17 q18 q19 q20 q21 q22 q23 q24 q25 q26 q27 : Nat) (x0 : Int32) (h0 : ¬ x0 = 0) (h1 : ¬ 2 < x0) (h2 : ¬ x0 < 0) (sz : Nat) : Ki l s0 G yX11_first cX11_first 3 (some .int) { frames := 4, cells := 5, slots := 32212, locals := 151 } [.ref q0, .int x0] [(q0, .inr (11, [.ref q4, .ref q5, .ref q1, .ref q6, .ref q7, .ref q8, .ref q9, .ref q10, .ref q3, .ref q11, .int 0, .int (-1), .int 0, .int 0, .null, .null, .null, .null, .null])), (q1, .inr (5, [.ref q2, .ref q12, .ref q13, .int 0])), (q2, .inl (G.2.1, 8, .inl (fun _ => 0))), (q3, .inr (2, [.int 0, .int 0, .ref q14, .ref q15, .ref q16, .ref q17, .ref q18, .ref q19, .ref q20, .ref q21, .ref q22, .ref q23, .ref q24, .ref q25, .ref q26, .ref q27, .int 0]))] sz (-1) (fun u => [(q0, .inr (11, [.ref q4, .ref q5, .ref q1, .ref q6, .ref q7, .ref q8, .ref q9, .ref q10, .ref q3, .ref q11, .int 0, .int (-1), .int 0, .int 0, .null, .null, .null, .null, .ref (u 0)])), (q1, .inr (5, [.ref q2, .ref q12, .ref q13, .int 0])), (q2, .inl (G.2.1, 8, .inl (fun _ => 0))), (q3, .inr (2, [.int 0, .int 0, .ref q14, .ref q15, .ref q16, .ref q17, .ref q18, .ref q19, .ref q20, .ref q21, .ref q22, .ref q23, .ref q24, .ref q25, .ref q26, .ref q27, .int 0])), ((u 0), .inr (9, [.int 0, .int 0, .int (-1), .int (-1), .int 0, .ref (u 1), .ref (u 2)])), ((u 1), .inl (G.2.1, 8, .inl (fun _ => 0))), ((u 2), .inr (7, [.ref (u 3), .int 0, .int 1, .int 3000, .ref (u 4)])), ((u 3), .inl (G.2.1, 24000, .inl (fun _ => 0))), ((u 4), .inl (G.2.1, 8192, .inl (upd (fun _ => (-1)) 7 0)))]) := by
  refine Ki.of b0 (own := RX11) (nm := "first") [(0, .ref q0), (1, .int x0)] rfl rfl (by decide +kernel) (Nat.le_of_ble_eq_true rfl) rfl ?_
  intro p e s m below meth c A C hr H locs w ls hl
  have hx := C.hx
  have hb := C.hb
  refine lv_iload_n hx hb dX11_first_0 rfl (lv_at hl 1 rfl) ?_
  refine lv_iconst (v := 0) hx hb dX11_first_1 (by decide) ?_
  refine lv_iconst (v := 2) hx hb dX11_first_2 (by decide) ?_
  refine fin_v C w (run_S C w ms_X11_72 (k165_needWithin C.b0 x0 h1 h2 H.size) [] rfl rfl (by decide) rfl hl.1 rfl (Nat.le_of_ble_eq_true rfl) dX11_first_3 (cells2 := 0) (slots2 := 0) (by decide)) [] [0, 1, 2, 3] rfl rfl (by decide) (cells2 := 0) (slots2 := 0) (by decide) (fun u1 H locs w => ?_)
  have w : Wd s G A [(q0, .inr (11, [.ref q4, .ref q5, .ref q1, .ref q6, .ref q7, .ref q8, .ref q9, .ref q10, .ref q3, .ref q11, .int 0, .int (-1), .int 0, .int 0, .null, .null, .null, .null, .null])), (q1, .inr (5, [.ref q2, .ref q12, .ref q13, .int 0])), (q2, .inl (G.2.1, 8, .inl (fun _ => 0))), (q3, .inr (2, [.int 0, .int 0, .ref q14, .ref q15, .ref q16, .ref q17, .ref q18, .ref q19, .ref q20, .ref q21, .ref q22, .ref q23, .ref q24, .ref q25, .ref q26, .ref q27, .int 0]))] H locs := w
  refine lv_aload_n hx hb dX11_first_6 rfl (lv_at hl 0 rfl) ?_
  refine fin_r C w (run_V C w mv_X11_314 (k499_walker C.b0 q0 q4 q5 q1 q6 q7 q8 q9 q10 q3 q11 H.size) [0] rfl rfl 0 rfl rfl (by decide) rfl hl.1 rfl (Nat.le_of_ble_eq_true rfl) dX11_first_7 (cells2 := 5) (slots2 := 32212) (by decide)) [0] [1, 2, 3] rfl rfl (by decide) (cells2 := 5) (slots2 := 32212) (by decide) (fun u2 H locs w => ?_)
  have w : Wd s G A [(q1, .inr (5, [.ref q2, .ref q12, .ref q13, .int 0])), (q2, .inl (G.2.1, 8, .inl (fun _ => 0))), (q3, .inr (2, [.int 0, .int 0, .ref q14, .ref q15, .ref q16, .ref q17, .ref q18, .ref q19, .ref q20, .ref q21, .ref q22, .ref q23, .ref q24, .ref q25, .ref q26, .ref q27, .int 0])), (q0, .inr (11, [.ref q4, .ref q5, .ref q1, .ref q6, .ref q7, .ref q8, .ref q9, .ref q10, .ref q3, .ref q11, .int 0, .int (-1), .int 0, .int 0, .null, .null, .null, .null, .ref (u2 0)])), ((u2 0), .inr (9, [.int (-1), .int 0, .int 0, .int 0, .int 0, .ref (u2 1), .ref (u2 2)])), ((u2 1), .inl (G.2.1, 8, .inl (fun _ => 0))), ((u2 2), .inr (7, [.ref (u2 3), .int 0, .int 0, .int 3000, .ref (u2 4)])), ((u2 3), .inl (G.2.1, 24000, .inl (fun _ => 0))), ((u2 4), .inl (G.2.1, 8192, .inl (fun _ => 0)))] H locs := w
  refine lv_astore_n (lv' := [(2, .ref (u2 0)), (0, .ref q0), (1, .int x0)]) hx hb dX11_first_10 rfl hl (by decide) rfl (fun ls hl => ?_)
  refine lv_aload_n hx hb dX11_first_11 rfl (lv_at hl 0 rfl) ?_
  refine r_get C w 4 rfl fr_X11_335 rfl dX11_first_12 ?_
  refine lv_aload_n hx hb dX11_first_15 rfl (lv_at hl 1 rfl) ?_
  refine r_get C w 3 rfl fr_X11_95 rfl dX11_first_16 ?_
  refine lv_icmp_eq (tgt := 41) hx hb dX11_first_19 (by decide) (fun h => absurd h (by decide)) (fun _ => ?_)
  refine lv_aload_n hx hb dX11_first_22 rfl (lv_at hl 0 rfl) ?_
  refine lv_aload_n hx hb dX11_first_23 rfl (lv_at hl 1 rfl) ?_
  refine r_get C w 3 rfl fr_X11_54 rfl dX11_first_24 ?_
  refine lv_aload_n hx hb dX11_first_27 rfl (lv_at hl 1 rfl) ?_
  refine r_get C w 3 rfl fr_X11_23 rfl dX11_first_28 ?_
  refine r_get C w 0 rfl fr_X11_129 rfl dX11_first_31 ?_
  refine lv_aload_n hx hb dX11_first_34 rfl (lv_at hl 1 rfl) ?_
  refine r_get C w 3 rfl fr_X11_95 rfl dX11_first_35 ?_
  refine fin_v C w (run_V C w mv_X11_336 (k546_leastFirst C.b0 (u2 0) q2 (u2 1) q3 (u2 2) (u2 4) (u2 3) q14 q15 q16 q17 q18 q19 q20 q21 q22 q23 q24 q25 q26 q27 H.size) [4, 1, 5, 2, 6, 8, 7] rfl rfl 4 rfl rfl (by decide) rfl hl.1 rfl (Nat.le_of_ble_eq_true rfl) dX11_first_38 (cells2 := 5) (slots2 := 32212) (by decide)) [4, 1, 5, 2, 6, 8, 7] [0, 3] rfl rfl (by decide) (cells2 := 5) (slots2 := 32212) (by decide) (fun u3 H locs w => ?_)
  have w : Wd s G A [(q1, .inr (5, [.ref q2, .ref q12, .ref q13, .int 0])), (q0, .inr (11, [.ref q4, .ref q5, .ref q1, .ref q6, .ref q7, .ref q8, .ref q9, .ref q10, .ref q3, .ref q11, .int 0, .int (-1), .int 0, .int 0, .null, .null, .null, .null, .ref (u2 0)])), ((u2 0), .inr (9, [.int 0, .int 0, .int (-1), .int (-1), .int 0, .ref (u2 1), .ref (u2 2)])), (q2, .inl (G.2.1, 8, .inl (fun _ => 0))), ((u2 1), .inl (G.2.1, 8, .inl (fun _ => 0))), (q3, .inr (2, [.int 0, .int 0, .ref q14, .ref q15, .ref q16, .ref q17, .ref q18, .ref q19, .ref q20, .ref q21, .ref q22, .ref q23, .ref q24, .ref q25, .ref q26, .ref q27, .int 0])), ((u2 2), .inr (7, [.ref (u2 3), .int 0, .int 1, .int 3000, .ref (u2 4)])), ((u2 4), .inl (G.2.1, 8192, .inl (upd (fun _ => (-1)) 7 0))), ((u2 3), .inl (G.2.1, 24000, .inl (fun _ => 0)))] H locs := w
  refine lv_aload_n hx hb dX11_first_41 rfl (lv_at hl 0 rfl) ?_
  refine r_get C w 2 rfl fr_X11_340 rfl dX11_first_42 ?_
  refine lv_if_eq (tgt := 51) hx hb dX11_first_45 (by decide) (fun _ => ?_) (fun h => absurd (by decide) h)
  refine lv_iload_n hx hb dX11_first_51 rfl (lv_at hl 2 rfl) ?_
  refine lv_if_ne (tgt := 60) hx hb dX11_first_52 (by decide) (fun _ => ?_) (fun h => h.elim h0)
  refine lv_iload_n hx hb dX11_first_60 rfl (lv_at hl 2 rfl) ?_
  refine lv_iconst (v := 1) hx hb dX11_first_61 (by decide) ?_
  refine lv_icmp_ne (tgt := 72) hx hb dX11_first_62 (by decide) (fun hf4 => ?_) (fun hf4 => ?_)
  · refine lv_aload_n hx hb dX11_first_72 rfl (lv_at hl 0 rfl) ?_
    refine r_get C w 2 rfl fr_X11_350 rfl dX11_first_73 ?_
    exact e_i C hr w (fun k => [(u2 0), (u2 1), (u2 2), (u2 3), (u2 4)].getD k 0) [1, 0, 3, 5, 2, 4, 6, 8, 7] rfl rfl rfl dX11_first_76 (by decide) (by decide)
  · refine lv_aload_n hx hb dX11_first_65 rfl (lv_at hl 0 rfl) ?_
    refine r_get C w 2 rfl fr_X11_347 rfl dX11_first_66 ?_
    refine lv_goto (tgt := 76) hx hb dX11_first_69 (by decide) ?_
    exact e_i C hr w (fun k => [(u2 0), (u2 1), (u2 2), (u2 3), (u2 4)].getD k 0) [1, 0, 3, 5, 2, 4, 6, 8, 7] rfl rfl rfl dX11_first_76 (by decide) (by decide)
set_option maxRecDepth 100000 in
set_option maxHeartbeats 4000000 in
theorem k551_first {l : Launch} {s0 : State} {a0 : Array Value} {G : GT} (b0 : B0 l s0 a0 G) (q0 q1 q2 q3 q4 q5 q6 q7 q8 q9 q10 q11 q12 q13 q14 q15 q16 q17 q18 q19 q20 q21 q22 q23 q24 q25 q26 q27 q28 : Nat) (x0 : Int32) (h0 : ¬ x0 = 0) (h1 : ¬ 2 < x0) (h2 : ¬ x0 < 0) (sz : Nat) : Kh l s0 G yL_first cL_first 4 (some .int) [(0, 9, 12, 13)] { frames := 5, cells := 5, slots := 32212, locals := 173 } [.ref q0, .int x0, .ref q4] [(q0, .inr (11, [.ref q5, .ref q6, .ref q1, .ref q7, .ref q8, .ref q9, .ref q10, .ref q11, .ref q3, .ref q12, .int 0, .int (-1), .int 0, .int 0, .null, .null, .null, .null, .null])), (q1, .inr (5, [.ref q2, .ref q13, .ref q14, .int 0])), (q2, .inl (G.2.1, 8, .inl (fun _ => 0))), (q3, .inr (2, [.int 0, .int 0, .ref q15, .ref q16, .ref q17, .ref q18, .ref q19, .ref q20, .ref q21, .ref q22, .ref q23, .ref q24, .ref q25, .ref q26, .ref q27, .ref q28, .int 0])), (q4, .inl (G.2.2.1, 1, .inr (.inl (fun _ => 0))))] sz 0 (fun u => [(q0, .inr (11, [.ref q5, .ref q6, .ref q1, .ref q7, .ref q8, .ref q9, .ref q10, .ref q11, .ref q3, .ref q12, .int 0, .int (-1), .int 0, .int 0, .null, .null, .null, .null, .ref (u 0)])), (q1, .inr (5, [.ref q2, .ref q13, .ref q14, .int 0])), (q2, .inl (G.2.1, 8, .inl (fun _ => 0))), (q3, .inr (2, [.int 0, .int 0, .ref q15, .ref q16, .ref q17, .ref q18, .ref q19, .ref q20, .ref q21, .ref q22, .ref q23, .ref q24, .ref q25, .ref q26, .ref q27, .ref q28, .int 0])), (q4, .inl (G.2.2.1, 1, .inr (.inl (vp_updL (fun _ => 0) 0 (-1))))), ((u 0), .inr (9, [.int 0, .int 0, .int (-1), .int (-1), .int 0, .ref (u 1), .ref (u 2)])), ((u 1), .inl (G.2.1, 8, .inl (fun _ => 0))), ((u 2), .inr (7, [.ref (u 3), .int 0, .int 1, .int 3000, .ref (u 4)])), ((u 3), .inl (G.2.1, 24000, .inl (fun _ => 0))), ((u 4), .inl (G.2.1, 8192, .inl (upd (fun _ => (-1)) 7 0)))]) := by
  refine Kh.of b0 (own := RL) (nm := "first") [(0, .ref q0), (1, .int x0), (2, .ref q4)] rfl rfl (by decide +kernel) (Nat.le_of_ble_eq_true rfl) rfl ?_
  intro p e s m below meth c A C hr ht H locs w ls hl
  have hx := C.hx
  have hb := C.hb
  refine lv_aload_n hx hb dL_first_0 rfl (lv_at hl 2 rfl) ?_
  refine lv_iconst (v := 0) hx hb dL_first_1 (by decide) ?_
  refine lv_aload_n hx hb dL_first_2 rfl (lv_at hl 0 rfl) ?_
  refine lv_iload_n hx hb dL_first_3 rfl (lv_at hl 1 rfl) ?_
  refine fin_i C w (run_V C w mv_L_132 (k550_first C.b0 q0 q1 q2 q3 q5 q6 q7 q8 q9 q10 q11 q12 q13 q14 q15 q16 q17 q18 q19 q20 q21 q22 q23 q24 q25 q26 q27 q28 x0 h0 h1 h2 H.size) [0, 1, 2, 3] rfl rfl 0 rfl rfl (by decide) rfl hl.1 rfl (Nat.le_of_ble_eq_true rfl) dL_first_4 (cells2 := 5) (slots2 := 32212) (by decide)) [0, 1, 2, 3] [4] rfl rfl (by decide) (cells2 := 5) (slots2 := 32212) (by decide) (fun u1 H locs w => ?_)
  have w : Wd s G A [(q4, .inl (G.2.2.1, 1, .inr (.inl (fun _ => 0)))), (q0, .inr (11, [.ref q5, .ref q6, .ref q1, .ref q7, .ref q8, .ref q9, .ref q10, .ref q11, .ref q3, .ref q12, .int 0, .int (-1), .int 0, .int 0, .null, .null, .null, .null, .ref (u1 0)])), (q1, .inr (5, [.ref q2, .ref q13, .ref q14, .int 0])), (q2, .inl (G.2.1, 8, .inl (fun _ => 0))), (q3, .inr (2, [.int 0, .int 0, .ref q15, .ref q16, .ref q17, .ref q18, .ref q19, .ref q20, .ref q21, .ref q22, .ref q23, .ref q24, .ref q25, .ref q26, .ref q27, .ref q28, .int 0])), ((u1 0), .inr (9, [.int 0, .int 0, .int (-1), .int (-1), .int 0, .ref (u1 1), .ref (u1 2)])), ((u1 1), .inl (G.2.1, 8, .inl (fun _ => 0))), ((u1 2), .inr (7, [.ref (u1 3), .int 0, .int 1, .int 3000, .ref (u1 4)])), ((u1 3), .inl (G.2.1, 24000, .inl (fun _ => 0))), ((u1 4), .inl (G.2.1, 8192, .inl (upd (fun _ => (-1)) 7 0)))] H locs := w
  refine lv_i2l (v := (-1)) hx hb dL_first_7 (by decide +kernel) ?_
  refine r_last C w 0 rfl (IX.of (k := 0) (by decide +kernel)) (g := (vp_updL (fun _ => 0) 0 (-1))) rfl dL_first_8 (ws2 := [(q4, .inl (G.2.2.1, 1, .inr (.inl (vp_updL (fun _ => 0) 0 (-1))))), (q0, .inr (11, [.ref q5, .ref q6, .ref q1, .ref q7, .ref q8, .ref q9, .ref q10, .ref q11, .ref q3, .ref q12, .int 0, .int (-1), .int 0, .int 0, .null, .null, .null, .null, .ref (u1 0)])), (q1, .inr (5, [.ref q2, .ref q13, .ref q14, .int 0])), (q2, .inl (G.2.1, 8, .inl (fun _ => 0))), (q3, .inr (2, [.int 0, .int 0, .ref q15, .ref q16, .ref q17, .ref q18, .ref q19, .ref q20, .ref q21, .ref q22, .ref q23, .ref q24, .ref q25, .ref q26, .ref q27, .ref q28, .int 0])), ((u1 0), .inr (9, [.int 0, .int 0, .int (-1), .int (-1), .int 0, .ref (u1 1), .ref (u1 2)])), ((u1 1), .inl (G.2.1, 8, .inl (fun _ => 0))), ((u1 2), .inr (7, [.ref (u1 3), .int 0, .int 1, .int 3000, .ref (u1 4)])), ((u1 3), .inl (G.2.1, 24000, .inl (fun _ => 0))), ((u1 4), .inl (G.2.1, 8192, .inl (upd (fun _ => (-1)) 7 0)))]) rfl (fun H locs w => ?_)
  refine lv_goto (tgt := 15) hx hb dL_first_9 (by decide) ?_
  refine lv_iconst (v := 0) hx hb dL_first_15 (by decide) ?_
  exact e_i C hr w (fun k => [(u1 0), (u1 1), (u1 2), (u1 3), (u1 4)].getD k 0) [1, 2, 3, 4, 0, 5, 6, 7, 8, 9] rfl rfl rfl dL_first_16 (by decide) (by decide)
set_option maxRecDepth 100000 in
set_option maxHeartbeats 4000000 in
theorem k552_first {l : Launch} {s0 : State} {a0 : Array Value} {G : GT} (b0 : B0 l s0 a0 G) (q0 q1 q2 q3 q4 q5 q6 q7 q8 q9 q10 q11 q12 q13 q14 q15 q16 q17 q18 q19 q20 q21 q22 q23 q24 q25 q26 q27 q28 q29 q30 q31 q32 q33 q34 q35 q36 q37 q38 q39 q40 q41 q42 : Nat) (x0 : Int32) (h0 : ¬ x0 = 0) (h1 : ¬ 2 < x0) (h2 : ¬ x0 < 0) (sz : Nat) : Ki l s0 G yX12_first cX12_first 4 (some .int) { frames := 2, cells := 0, slots := 0, locals := 48 } [.ref q0, .int x0] [(q0, .inr (12, [.int 0, .int 0, .int 0, .int 0, .int 0, .int 0, .int 0, .int (-1), .ref q9, .ref q8, .ref q10, .int 0, .ref q11, .ref q12, .ref q13, .ref q14, .ref q15, .ref q2, .ref q16, .int 0, .ref q3, .ref q4, .ref q17, .ref q6, .ref q7, .ref q1, .ref q5, .int 0, .int (-1), .int 0, .ref q18, .ref q19, .ref q20, .ref q21, .ref q22, .ref q23, .ref q24, .ref q25, .int 0, .ref q26, .ref q27, .ref q28, .ref q29, .ref q30, .int 0, .ref q31, .ref q32, .ref q33, .ref q34, .int 0, .ref q35, .ref q36, .ref q37, .ref q38, .int 0, .int 0, .ref q39, .ref q40, .ref q41, .ref q42])), (q1, .inl (G.2.1, 4096, .inl (fun _ => 0))), (q2, .inl (G.2.1, 57, .inl (fun _ => 0))), (q3, .inl (G.2.1, 8, .inl (fun _ => 0))), (q4, .inl (G.2.1, 24008, .inl (fun _ => 0))), (q5, .inl (G.2.1, 3000, .inl (fun _ => 0))), (q6, .inl (G.2.1, 3000, .inl (fun _ => 0))), (q7, .inl (G.2.1, 3000, .inl (fun _ => 0))), (q8, .inl (G.2.1, 242, .inl (fun _ => 0)))] sz (-1) (fun u => [(q0, .inr (12, [.int 0, .int 0, .int 0, .int 0, .int 0, .int 0, .int 0, .int (-1), .ref q9, .ref q8, .ref q10, .int 0, .ref q11, .ref q12, .ref q13, .ref q14, .ref q15, .ref q2, .ref q16, .int 0, .ref q3, .ref q4, .ref q17, .ref q6, .ref q7, .ref q1, .ref q5, .int 1, .int (-1), .int 0, .ref q18, .ref q19, .ref q20, .ref q21, .ref q22, .ref q23, .ref q24, .ref q25, .int 0, .ref q26, .ref q27, .ref q28, .ref q29, .ref q30, .int 0, .ref q31, .ref q32, .ref q33, .ref q34, .int 0, .ref q35, .ref q36, .ref q37, .ref q38, .int 0, .int 0, .ref q39, .ref q40, .ref q41, .ref q42])), (q1, .inl (G.2.1, 4096, .inl (upd (fun _ => (-1)) 0 0))), (q2, .inl (G.2.1, 57, .inl (fun _ => 0))), (q3, .inl (G.2.1, 8, .inl (fun _ => 0))), (q4, .inl (G.2.1, 24008, .inl (fun _ => 0))), (q5, .inl (G.2.1, 3000, .inl (upd (fun _ => 0) 0 (-1)))), (q6, .inl (G.2.1, 3000, .inl (upd (fun _ => 0) 0 (-1)))), (q7, .inl (G.2.1, 3000, .inl (upd (fun _ => 0) 0 (-1)))), (q8, .inl (G.2.1, 242, .inl (fun _ => 0)))]) := by
  refine Ki.of b0 (own := RX12) (nm := "first") [(0, .ref q0), (1, .int x0)] rfl rfl (by decide +kernel) (Nat.le_of_ble_eq_true rfl) rfl ?_
  intro p e s m below meth c A C hr H locs w ls hl
  have hx := C.hx
  have hb := C.hb
  refine lv_aload_n hx hb dX12_first_0 rfl (lv_at hl 0 rfl) ?_
  refine lv_iconst (v := 0) hx hb dX12_first_1 (by decide) ?_
  refine r_put C w 0 rfl fl_X12_1 (Nat.le_of_ble_eq_true rfl) rfl rfl dX12_first_2 (ws2 := [(q0, .inr (12, [.int 0, .int 0, .int 0, .int 0, .int 0, .int 0, .int 0, .int (-1), .ref q9, .ref q8, .ref q10, .int 0, .ref q11, .ref q12, .ref q13, .ref q14, .ref q15, .ref q2, .ref q16, .int 0, .ref q3, .ref q4, .ref q17, .ref q6, .ref q7, .ref q1, .ref q5, .int 0, .int (-1), .int 0, .ref q18, .ref q19, .ref q20, .ref q21, .ref q22, .ref q23, .ref q24, .ref q25, .int 0, .ref q26, .ref q27, .ref q28, .ref q29, .ref q30, .int 0, .ref q31, .ref q32, .ref q33, .ref q34, .int 0, .ref q35, .ref q36, .ref q37, .ref q38, .int 0, .int 0, .ref q39, .ref q40, .ref q41, .ref q42])), (q1, .inl (G.2.1, 4096, .inl (fun _ => 0))), (q2, .inl (G.2.1, 57, .inl (fun _ => 0))), (q3, .inl (G.2.1, 8, .inl (fun _ => 0))), (q4, .inl (G.2.1, 24008, .inl (fun _ => 0))), (q5, .inl (G.2.1, 3000, .inl (fun _ => 0))), (q6, .inl (G.2.1, 3000, .inl (fun _ => 0))), (q7, .inl (G.2.1, 3000, .inl (fun _ => 0))), (q8, .inl (G.2.1, 242, .inl (fun _ => 0)))]) rfl (fun H locs w => ?_)
  refine lv_aload_n hx hb dX12_first_5 rfl (lv_at hl 0 rfl) ?_
  refine lv_iload_n hx hb dX12_first_6 rfl (lv_at hl 1 rfl) ?_
  refine lv_iconst (v := 0) hx hb dX12_first_7 (by decide) ?_
  refine lv_iconst (v := 2) hx hb dX12_first_8 (by decide) ?_
  refine fin_i C w (run_S C w ms_X12_289 (k177_within C.b0 x0 h1 h2 H.size) [] rfl rfl (by decide) rfl hl.1 rfl (Nat.le_of_ble_eq_true rfl) dX12_first_9 (cells2 := 0) (slots2 := 0) (by decide)) [] [0, 1, 2, 3, 4, 5, 6, 7, 8] rfl rfl (by decide) (cells2 := 0) (slots2 := 0) (by decide) (fun u1 H locs w => ?_)
  have w : Wd s G A [(q0, .inr (12, [.int 0, .int 0, .int 0, .int 0, .int 0, .int 0, .int 0, .int (-1), .ref q9, .ref q8, .ref q10, .int 0, .ref q11, .ref q12, .ref q13, .ref q14, .ref q15, .ref q2, .ref q16, .int 0, .ref q3, .ref q4, .ref q17, .ref q6, .ref q7, .ref q1, .ref q5, .int 0, .int (-1), .int 0, .ref q18, .ref q19, .ref q20, .ref q21, .ref q22, .ref q23, .ref q24, .ref q25, .int 0, .ref q26, .ref q27, .ref q28, .ref q29, .ref q30, .int 0, .ref q31, .ref q32, .ref q33, .ref q34, .int 0, .ref q35, .ref q36, .ref q37, .ref q38, .int 0, .int 0, .ref q39, .ref q40, .ref q41, .ref q42])), (q1, .inl (G.2.1, 4096, .inl (fun _ => 0))), (q2, .inl (G.2.1, 57, .inl (fun _ => 0))), (q3, .inl (G.2.1, 8, .inl (fun _ => 0))), (q4, .inl (G.2.1, 24008, .inl (fun _ => 0))), (q5, .inl (G.2.1, 3000, .inl (fun _ => 0))), (q6, .inl (G.2.1, 3000, .inl (fun _ => 0))), (q7, .inl (G.2.1, 3000, .inl (fun _ => 0))), (q8, .inl (G.2.1, 242, .inl (fun _ => 0)))] H locs := w
  refine lv_iconst (v := 1) hx hb dX12_first_12 (by decide) ?_
  refine fin_i C w (run_V C w mv_X12_267 (k32_may C.b0 q0 q9 q8 q10 q11 q12 q13 q14 q15 q2 q16 q3 q4 q17 q6 q7 q1 q5 q18 q19 q20 q21 q22 q23 q24 q25 q26 q27 q28 q29 q30 q31 q32 q33 q34 q35 q36 q37 q38 q39 q40 q41 q42 H.size) [0] rfl rfl 0 rfl rfl (by decide) rfl hl.1 rfl (Nat.le_of_ble_eq_true rfl) dX12_first_13 (cells2 := 0) (slots2 := 0) (by decide)) [0] [1, 2, 3, 4, 5, 6, 7, 8] rfl rfl (by decide) (cells2 := 0) (slots2 := 0) (by decide) (fun u2 H locs w => ?_)
  have w : Wd s G A [(q1, .inl (G.2.1, 4096, .inl (fun _ => 0))), (q2, .inl (G.2.1, 57, .inl (fun _ => 0))), (q3, .inl (G.2.1, 8, .inl (fun _ => 0))), (q4, .inl (G.2.1, 24008, .inl (fun _ => 0))), (q5, .inl (G.2.1, 3000, .inl (fun _ => 0))), (q6, .inl (G.2.1, 3000, .inl (fun _ => 0))), (q7, .inl (G.2.1, 3000, .inl (fun _ => 0))), (q8, .inl (G.2.1, 242, .inl (fun _ => 0))), (q0, .inr (12, [.int 0, .int 0, .int 0, .int 0, .int 0, .int 0, .int 0, .int (-1), .ref q9, .ref q8, .ref q10, .int 0, .ref q11, .ref q12, .ref q13, .ref q14, .ref q15, .ref q2, .ref q16, .int 0, .ref q3, .ref q4, .ref q17, .ref q6, .ref q7, .ref q1, .ref q5, .int 0, .int (-1), .int 0, .ref q18, .ref q19, .ref q20, .ref q21, .ref q22, .ref q23, .ref q24, .ref q25, .int 0, .ref q26, .ref q27, .ref q28, .ref q29, .ref q30, .int 0, .ref q31, .ref q32, .ref q33, .ref q34, .int 0, .ref q35, .ref q36, .ref q37, .ref q38, .int 0, .int 0, .ref q39, .ref q40, .ref q41, .ref q42]))] H locs := w
  refine lv_if_ne (tgt := 21) hx hb dX12_first_16 (by decide) (fun _ => ?_) (fun h => h.elim (by decide))
  refine lv_iconst (v := 0) hx hb dX12_first_21 (by decide) ?_
  refine lv_istore_n (lv' := [(2, .int 0), (0, .ref q0), (1, .int x0)]) hx hb dX12_first_22 rfl hl (by decide) rfl (fun ls hl => ?_)
  refine lp_fill (h := 23) (N := 4096) (Nv := 4096) (cv := (-1)) (lvr := [(0, .ref q0), (1, .int x0)]) (qo := 8) (qa := 0) C w (lv_sub hl [0, 1, 2] rfl) (by decide) (by decide +kernel) (by decide +kernel) (by decide +kernel) dX12_first_23 dX12_first_24 dX12_first_27 dX12_first_30 dX12_first_31 dX12_first_34 dX12_first_35 dX12_first_36 dX12_first_37 dX12_first_40 fr_X12_62 rfl rfl rfl (by decide) rfl rfl (by decide) (fun H locs ls w hl => ?_)
  have w : Wd s G A [(q1, .inl (G.2.1, 4096, .inl (fun _ => (-1)))), (q2, .inl (G.2.1, 57, .inl (fun _ => 0))), (q3, .inl (G.2.1, 8, .inl (fun _ => 0))), (q4, .inl (G.2.1, 24008, .inl (fun _ => 0))), (q5, .inl (G.2.1, 3000, .inl (fun _ => 0))), (q6, .inl (G.2.1, 3000, .inl (fun _ => 0))), (q7, .inl (G.2.1, 3000, .inl (fun _ => 0))), (q8, .inl (G.2.1, 242, .inl (fun _ => 0))), (q0, .inr (12, [.int 0, .int 0, .int 0, .int 0, .int 0, .int 0, .int 0, .int (-1), .ref q9, .ref q8, .ref q10, .int 0, .ref q11, .ref q12, .ref q13, .ref q14, .ref q15, .ref q2, .ref q16, .int 0, .ref q3, .ref q4, .ref q17, .ref q6, .ref q7, .ref q1, .ref q5, .int 0, .int (-1), .int 0, .ref q18, .ref q19, .ref q20, .ref q21, .ref q22, .ref q23, .ref q24, .ref q25, .int 0, .ref q26, .ref q27, .ref q28, .ref q29, .ref q30, .int 0, .ref q31, .ref q32, .ref q33, .ref q34, .int 0, .ref q35, .ref q36, .ref q37, .ref q38, .int 0, .int 0, .ref q39, .ref q40, .ref q41, .ref q42]))] H locs := w
  refine lv_aload_n hx hb dX12_first_43 rfl (lv_at hl 1 rfl) ?_
  refine lv_iconst (v := 0) hx hb dX12_first_44 (by decide) ?_
  refine r_put C w 8 rfl fl_X12_322 (Nat.le_of_ble_eq_true rfl) rfl rfl dX12_first_45 (ws2 := [(q1, .inl (G.2.1, 4096, .inl (fun _ => (-1)))), (q2, .inl (G.2.1, 57, .inl (fun _ => 0))), (q3, .inl (G.2.1, 8, .inl (fun _ => 0))), (q4, .inl (G.2.1, 24008, .inl (fun _ => 0))), (q5, .inl (G.2.1, 3000, .inl (fun _ => 0))), (q6, .inl (G.2.1, 3000, .inl (fun _ => 0))), (q7, .inl (G.2.1, 3000, .inl (fun _ => 0))), (q8, .inl (G.2.1, 242, .inl (fun _ => 0))), (q0, .inr (12, [.int 0, .int 0, .int 0, .int 0, .int 0, .int 0, .int 0, .int (-1), .ref q9, .ref q8, .ref q10, .int 0, .ref q11, .ref q12, .ref q13, .ref q14, .ref q15, .ref q2, .ref q16, .int 0, .ref q3, .ref q4, .ref q17, .ref q6, .ref q7, .ref q1, .ref q5, .int 0, .int (-1), .int 0, .ref q18, .ref q19, .ref q20, .ref q21, .ref q22, .ref q23, .ref q24, .ref q25, .int 0, .ref q26, .ref q27, .ref q28, .ref q29, .ref q30, .int 0, .ref q31, .ref q32, .ref q33, .ref q34, .int 0, .ref q35, .ref q36, .ref q37, .ref q38, .int 0, .int 0, .ref q39, .ref q40, .ref q41, .ref q42]))]) rfl (fun H locs w => ?_)
  refine lv_aload_n hx hb dX12_first_48 rfl (lv_at hl 1 rfl) ?_
  refine fin_v C w (run_V C w mv_X12_315 (k89_asNow C.b0 q0 q2 q3 q9 q8 q10 q11 q12 q13 q14 q15 q16 q4 q17 q6 q7 q1 q5 q18 q19 q20 q21 q22 q23 q24 q25 q26 q27 q28 q29 q30 q31 q32 q33 q34 q35 q36 q37 q38 q39 q40 q41 q42 H.size) [8, 1, 2] rfl rfl 8 rfl rfl (by decide) rfl hl.1 rfl (Nat.le_of_ble_eq_true rfl) dX12_first_49 (cells2 := 0) (slots2 := 0) (by decide)) [8, 1, 2] [0, 3, 4, 5, 6, 7] rfl rfl (by decide) (cells2 := 0) (slots2 := 0) (by decide) (fun u3 H locs w => ?_)
  have w : Wd s G A [(q1, .inl (G.2.1, 4096, .inl (fun _ => (-1)))), (q4, .inl (G.2.1, 24008, .inl (fun _ => 0))), (q5, .inl (G.2.1, 3000, .inl (fun _ => 0))), (q6, .inl (G.2.1, 3000, .inl (fun _ => 0))), (q7, .inl (G.2.1, 3000, .inl (fun _ => 0))), (q8, .inl (G.2.1, 242, .inl (fun _ => 0))), (q0, .inr (12, [.int 0, .int 0, .int 0, .int 0, .int 0, .int 0, .int 0, .int (-1), .ref q9, .ref q8, .ref q10, .int 0, .ref q11, .ref q12, .ref q13, .ref q14, .ref q15, .ref q2, .ref q16, .int 0, .ref q3, .ref q4, .ref q17, .ref q6, .ref q7, .ref q1, .ref q5, .int 0, .int (-1), .int 0, .ref q18, .ref q19, .ref q20, .ref q21, .ref q22, .ref q23, .ref q24, .ref q25, .int 0, .ref q26, .ref q27, .ref q28, .ref q29, .ref q30, .int 0, .ref q31, .ref q32, .ref q33, .ref q34, .int 0, .ref q35, .ref q36, .ref q37, .ref q38, .int 0, .int 0, .ref q39, .ref q40, .ref q41, .ref q42])), (q2, .inl (G.2.1, 57, .inl (fun _ => 0))), (q3, .inl (G.2.1, 8, .inl (fun _ => 0)))] H locs := w
  refine lv_aload_n hx hb dX12_first_52 rfl (lv_at hl 1 rfl) ?_
  refine lv_aload_n hx hb dX12_first_53 rfl (lv_at hl 1 rfl) ?_
  refine r_get C w 6 rfl fr_X12_47 rfl dX12_first_54 ?_
  refine lv_iconst (v := (-1)) hx hb dX12_first_57 (by decide) ?_
  refine lv_iconst (v := (-1)) hx hb dX12_first_58 (by decide) ?_
  refine fin_i C w (run_V C w mv_X12_329 (k122_come C.b0 q0 q3 q4 q1 q5 q6 q7 q9 q8 q10 q11 q12 q13 q14 q15 q2 q16 q17 q18 q19 q20 q21 q22 q23 q24 q25 q26 q27 q28 q29 q30 q31 q32 q33 q34 q35 q36 q37 q38 q39 q40 q41 q42 H.size) [6, 8, 1, 0, 2, 3, 4] rfl rfl 6 rfl rfl (by decide) rfl hl.1 rfl (Nat.le_of_ble_eq_true rfl) dX12_first_59 (cells2 := 0) (slots2 := 0) (by decide)) [6, 8, 1, 0, 2, 3, 4] [5, 7] rfl rfl (by decide) (cells2 := 0) (slots2 := 0) (by decide) (fun u4 H locs w => ?_)
  have w : Wd s G A [(q8, .inl (G.2.1, 242, .inl (fun _ => 0))), (q2, .inl (G.2.1, 57, .inl (fun _ => 0))), (q0, .inr (12, [.int 0, .int 0, .int 0, .int 0, .int 0, .int 0, .int 0, .int (-1), .ref q9, .ref q8, .ref q10, .int 0, .ref q11, .ref q12, .ref q13, .ref q14, .ref q15, .ref q2, .ref q16, .int 0, .ref q3, .ref q4, .ref q17, .ref q6, .ref q7, .ref q1, .ref q5, .int 1, .int (-1), .int 0, .ref q18, .ref q19, .ref q20, .ref q21, .ref q22, .ref q23, .ref q24, .ref q25, .int 0, .ref q26, .ref q27, .ref q28, .ref q29, .ref q30, .int 0, .ref q31, .ref q32, .ref q33, .ref q34, .int 0, .ref q35, .ref q36, .ref q37, .ref q38, .int 0, .int 0, .ref q39, .ref q40, .ref q41, .ref q42])), (q3, .inl (G.2.1, 8, .inl (fun _ => 0))), (q4, .inl (G.2.1, 24008, .inl (fun _ => 0))), (q1, .inl (G.2.1, 4096, .inl (upd (fun _ => (-1)) 0 0))), (q5, .inl (G.2.1, 3000, .inl (upd (fun _ => 0) 0 (-1)))), (q6, .inl (G.2.1, 3000, .inl (upd (fun _ => 0) 0 (-1)))), (q7, .inl (G.2.1, 3000, .inl (upd (fun _ => 0) 0 (-1))))] H locs := w
  refine lv_pop hx hb dX12_first_62 rfl ?_
  refine lv_iconst (v := 0) hx hb dX12_first_63 (by decide) ?_
  refine lv_istore_n (lv' := [(2, .int 0), (0, .ref q0), (1, .int x0)]) hx hb dX12_first_64 rfl hl (by decide) rfl (fun ls hl => ?_)
  refine lv_iload_n hx hb dX12_first_65 rfl (lv_at hl 0 rfl) ?_
  refine lv_aload_n hx hb dX12_first_66 rfl (lv_at hl 1 rfl) ?_
  refine fin_i C w (run_V C w mv_X12_286 (k123_acts C.b0 q0 q8 q9 q10 q11 q12 q13 q14 q15 q2 q16 q3 q4 q17 q6 q7 q1 q5 q18 q19 q20 q21 q22 q23 q24 q25 q26 q27 q28 q29 q30 q31 q32 q33 q34 q35 q36 q37 q38 q39 q40 q41 q42 H.size) [2, 0] rfl rfl 2 rfl rfl (by decide) rfl hl.1 rfl (Nat.le_of_ble_eq_true rfl) dX12_first_67 (cells2 := 0) (slots2 := 0) (by decide)) [2, 0] [1, 3, 4, 5, 6, 7, 8] rfl rfl (by decide) (cells2 := 0) (slots2 := 0) (by decide) (fun u5 H locs w => ?_)
  have w : Wd s G A [(q2, .inl (G.2.1, 57, .inl (fun _ => 0))), (q3, .inl (G.2.1, 8, .inl (fun _ => 0))), (q4, .inl (G.2.1, 24008, .inl (fun _ => 0))), (q1, .inl (G.2.1, 4096, .inl (upd (fun _ => (-1)) 0 0))), (q5, .inl (G.2.1, 3000, .inl (upd (fun _ => 0) 0 (-1)))), (q6, .inl (G.2.1, 3000, .inl (upd (fun _ => 0) 0 (-1)))), (q7, .inl (G.2.1, 3000, .inl (upd (fun _ => 0) 0 (-1)))), (q0, .inr (12, [.int 0, .int 0, .int 0, .int 0, .int 0, .int 0, .int 0, .int (-1), .ref q9, .ref q8, .ref q10, .int 0, .ref q11, .ref q12, .ref q13, .ref q14, .ref q15, .ref q2, .ref q16, .int 0, .ref q3, .ref q4, .ref q17, .ref q6, .ref q7, .ref q1, .ref q5, .int 1, .int (-1), .int 0, .ref q18, .ref q19, .ref q20, .ref q21, .ref q22, .ref q23, .ref q24, .ref q25, .int 0, .ref q26, .ref q27, .ref q28, .ref q29, .ref q30, .int 0, .ref q31, .ref q32, .ref q33, .ref q34, .int 0, .ref q35, .ref q36, .ref q37, .ref q38, .int 0, .int 0, .ref q39, .ref q40, .ref q41, .ref q42])), (q8, .inl (G.2.1, 242, .inl (fun _ => 0)))] H locs := w
  refine lv_icmp_ge (tgt := 92) hx hb dX12_first_70 (by decide) (fun _ => ?_) (fun h => absurd (by decide) h)
  refine lv_iload_n hx hb dX12_first_92 rfl (lv_at hl 0 rfl) ?_
  refine lv_aload_n hx hb dX12_first_93 rfl (lv_at hl 1 rfl) ?_
  refine fin_i C w (run_V C w mv_X12_286 (k123_acts C.b0 q0 q8 q9 q10 q11 q12 q13 q14 q15 q2 q16 q3 q4 q17 q6 q7 q1 q5 q18 q19 q20 q21 q22 q23 q24 q25 q26 q27 q28 q29 q30 q31 q32 q33 q34 q35 q36 q37 q38 q39 q40 q41 q42 H.size) [7, 8] rfl rfl 7 rfl rfl (by decide) rfl hl.1 rfl (Nat.le_of_ble_eq_true rfl) dX12_first_94 (cells2 := 0) (slots2 := 0) (by decide)) [7, 8] [0, 1, 2, 3, 4, 5, 6] rfl rfl (by decide) (cells2 := 0) (slots2 := 0) (by decide) (fun u6 H locs w => ?_)
  have w : Wd s G A [(q2, .inl (G.2.1, 57, .inl (fun _ => 0))), (q3, .inl (G.2.1, 8, .inl (fun _ => 0))), (q4, .inl (G.2.1, 24008, .inl (fun _ => 0))), (q1, .inl (G.2.1, 4096, .inl (upd (fun _ => (-1)) 0 0))), (q5, .inl (G.2.1, 3000, .inl (upd (fun _ => 0) 0 (-1)))), (q6, .inl (G.2.1, 3000, .inl (upd (fun _ => 0) 0 (-1)))), (q7, .inl (G.2.1, 3000, .inl (upd (fun _ => 0) 0 (-1)))), (q0, .inr (12, [.int 0, .int 0, .int 0, .int 0, .int 0, .int 0, .int 0, .int (-1), .ref q9, .ref q8, .ref q10, .int 0, .ref q11, .ref q12, .ref q13, .ref q14, .ref q15, .ref q2, .ref q16, .int 0, .ref q3, .ref q4, .ref q17, .ref q6, .ref q7, .ref q1, .ref q5, .int 1, .int (-1), .int 0, .ref q18, .ref q19, .ref q20, .ref q21, .ref q22, .ref q23, .ref q24, .ref q25, .int 0, .ref q26, .ref q27, .ref q28, .ref q29, .ref q30, .int 0, .ref q31, .ref q32, .ref q33, .ref q34, .int 0, .ref q35, .ref q36, .ref q37, .ref q38, .int 0, .int 0, .ref q39, .ref q40, .ref q41, .ref q42])), (q8, .inl (G.2.1, 242, .inl (fun _ => 0)))] H locs := w
  refine lv_icmp_ne (tgt := 115) hx hb dX12_first_97 (by decide) (fun h => absurd (by decide) h) (fun _ => ?_)
  refine lv_iload_n hx hb dX12_first_100 rfl (lv_at hl 2 rfl) ?_
  refine lv_if_ne (tgt := 113) hx hb dX12_first_101 (by decide) (fun _ => ?_) (fun h => h.elim h0)
  refine lv_iconst (v := (-1)) hx hb dX12_first_113 (by decide) ?_
  exact e_i C hr w (fun _ => 0) [7, 3, 0, 1, 2, 4, 5, 6, 8] rfl rfl rfl dX12_first_114 (by decide) (by decide)
set_option maxRecDepth 100000 in
set_option maxHeartbeats 4000000 in
theorem k553_countLikeRows {l : Launch} {s0 : State} {a0 : Array Value} {G : GT} (b0 : B0 l s0 a0 G) (q0 q1 q2 q3 q4 q5 q6 q7 q8 q9 q10 q11 q12 q13 q14 q15 q16 q17 q18 q19 : Nat) (sz : Nat) : Ki l s0 G yX4_countLikeRows cX4_countLikeRows 7 (some .int) { frames := 0, cells := 0, slots := 0, locals := 0 } [.ref q0, .ref q1] [(q0, .inr (4, [.ref q2, .ref q3, .ref q4, .ref q5, .null])), (q1, .inr (2, [.int 0, .int 0, .ref q6, .ref q7, .ref q8, .ref q9, .ref q10, .ref q11, .ref q12, .ref q13, .ref q14, .ref q15, .ref q16, .ref q17, .ref q18, .ref q19, .int 0]))] sz 0 (fun u => [(q0, .inr (4, [.ref q2, .ref q3, .ref q4, .ref q5, .ref q1])), (q1, .inr (2, [.int 0, .int 0, .ref q6, .ref q7, .ref q8, .ref q9, .ref q10, .ref q11, .ref q12, .ref q13, .ref q14, .ref q15, .ref q16, .ref q17, .ref q18, .ref q19, .int 0]))]) := by
  refine Ki.of b0 (own := RX4) (nm := "countLikeRows") [(0, .ref q0), (1, .ref q1)] rfl rfl (by decide +kernel) (Nat.le_of_ble_eq_true rfl) rfl ?_
  intro p e s m below meth c A C hr H locs w ls hl
  have hx := C.hx
  have hb := C.hb
  refine lv_aload_n hx hb dX4_countLikeRows_0 rfl (lv_at hl 0 rfl) ?_
  refine lv_aload_n hx hb dX4_countLikeRows_1 rfl (lv_at hl 1 rfl) ?_
  refine r_put C w 0 rfl fl_X4_89 (Nat.le_of_ble_eq_true rfl) rfl rfl dX4_countLikeRows_2 (ws2 := [(q0, .inr (4, [.ref q2, .ref q3, .ref q4, .ref q5, .ref q1])), (q1, .inr (2, [.int 0, .int 0, .ref q6, .ref q7, .ref q8, .ref q9, .ref q10, .ref q11, .ref q12, .ref q13, .ref q14, .ref q15, .ref q16, .ref q17, .ref q18, .ref q19, .int 0]))]) rfl (fun H locs w => ?_)
  refine lv_aload_n hx hb dX4_countLikeRows_5 rfl (lv_at hl 0 rfl) ?_
  refine r_get C w 0 rfl fr_X4_89 rfl dX4_countLikeRows_6 ?_
  refine r_get C w 1 rfl fr_X4_24 rfl dX4_countLikeRows_9 ?_
  refine lv_if_ne (tgt := 17) hx hb dX4_countLikeRows_12 (by decide) (fun h => absurd (by decide) h) (fun _ => ?_)
  refine lv_iconst (v := 0) hx hb dX4_countLikeRows_15 (by decide) ?_
  exact e_i C hr w (fun _ => 0) [0, 1] rfl rfl rfl dX4_countLikeRows_16 (by decide) (by decide)
set_option maxRecDepth 100000 in
set_option maxHeartbeats 4000000 in
theorem k554_alike {l : Launch} {s0 : State} {a0 : Array Value} {G : GT} (b0 : B0 l s0 a0 G) (q0 q1 q2 q3 q4 q5 q6 q7 q8 q9 q10 q11 q12 q13 q14 q15 q16 q17 q18 q19 q20 q21 q22 q23 q24 q25 q26 q27 q28 : Nat) (sz : Nat) : Ki l s0 G yX11_alike cX11_alike 1 (some .int) { frames := 1, cells := 0, slots := 0, locals := 26 } [.ref q0] [(q0, .inr (11, [.ref q3, .ref q4, .ref q5, .ref q6, .ref q7, .ref q8, .ref q1, .ref q9, .ref q2, .ref q10, .int 0, .int (-1), .int 0, .int 0, .null, .null, .null, .null, .null])), (q1, .inr (4, [.ref q11, .ref q12, .ref q13, .ref q14, .null])), (q2, .inr (2, [.int 0, .int 0, .ref q15, .ref q16, .ref q17, .ref q18, .ref q19, .ref q20, .ref q21, .ref q22, .ref q23, .ref q24, .ref q25, .ref q26, .ref q27, .ref q28, .int 0]))] sz 0 (fun u => [(q0, .inr (11, [.ref q3, .ref q4, .ref q5, .ref q6, .ref q7, .ref q8, .ref q1, .ref q9, .ref q2, .ref q10, .int 0, .int (-1), .int 0, .int 0, .null, .null, .null, .null, .null])), (q1, .inr (4, [.ref q11, .ref q12, .ref q13, .ref q14, .ref q2])), (q2, .inr (2, [.int 0, .int 0, .ref q15, .ref q16, .ref q17, .ref q18, .ref q19, .ref q20, .ref q21, .ref q22, .ref q23, .ref q24, .ref q25, .ref q26, .ref q27, .ref q28, .int 0]))]) := by
  refine Ki.of b0 (own := RX11) (nm := "alike") [(0, .ref q0)] rfl rfl (by decide +kernel) (Nat.le_of_ble_eq_true rfl) rfl ?_
  intro p e s m below meth c A C hr H locs w ls hl
  have hx := C.hx
  have hb := C.hb
  refine lv_aload_n hx hb dX11_alike_0 rfl (lv_at hl 0 rfl) ?_
  refine r_get C w 0 rfl fr_X11_44 rfl dX11_alike_1 ?_
  refine lv_aload_n hx hb dX11_alike_4 rfl (lv_at hl 0 rfl) ?_
  refine r_get C w 0 rfl fr_X11_54 rfl dX11_alike_5 ?_
  refine fin_i C w (run_V C w mv_X11_353 (k553_countLikeRows C.b0 q1 q2 q11 q12 q13 q14 q15 q16 q17 q18 q19 q20 q21 q22 q23 q24 q25 q26 q27 q28 H.size) [1, 2] rfl rfl 1 rfl rfl (by decide) rfl hl.1 rfl (Nat.le_of_ble_eq_true rfl) dX11_alike_8 (cells2 := 0) (slots2 := 0) (by decide)) [1, 2] [0] rfl rfl (by decide) (cells2 := 0) (slots2 := 0) (by decide) (fun u1 H locs w => ?_)
  have w : Wd s G A [(q0, .inr (11, [.ref q3, .ref q4, .ref q5, .ref q6, .ref q7, .ref q8, .ref q1, .ref q9, .ref q2, .ref q10, .int 0, .int (-1), .int 0, .int 0, .null, .null, .null, .null, .null])), (q1, .inr (4, [.ref q11, .ref q12, .ref q13, .ref q14, .ref q2])), (q2, .inr (2, [.int 0, .int 0, .ref q15, .ref q16, .ref q17, .ref q18, .ref q19, .ref q20, .ref q21, .ref q22, .ref q23, .ref q24, .ref q25, .ref q26, .ref q27, .ref q28, .int 0]))] H locs := w
  exact e_i C hr w (fun _ => 0) [0, 1, 2] rfl rfl rfl dX11_alike_11 (by decide) (by decide)
set_option maxRecDepth 100000 in
set_option maxHeartbeats 4000000 in
theorem k555_alike {l : Launch} {s0 : State} {a0 : Array Value} {G : GT} (b0 : B0 l s0 a0 G) (q0 q1 q2 q3 q4 q5 q6 q7 q8 q9 q10 q11 q12 q13 q14 q15 q16 q17 q18 q19 q20 q21 q22 q23 q24 q25 q26 q27 q28 q29 q30 q31 q32 q33 q34 q35 q36 q37 q38 q39 q40 q41 q42 : Nat) (sz : Nat) : Ki l s0 G yX12_alike cX12_alike 1 (some .int) { frames := 1, cells := 0, slots := 0, locals := 20 } [.ref q0] [(q0, .inr (12, [.int 0, .int 0, .int 0, .int 0, .int 0, .int 0, .int 0, .int (-1), .ref q2, .ref q1, .ref q3, .int 0, .ref q4, .ref q5, .ref q6, .ref q7, .ref q8, .ref q9, .ref q10, .int 0, .ref q11, .ref q12, .ref q13, .ref q14, .ref q15, .ref q16, .ref q17, .int 0, .int (-1), .int 0, .ref q18, .ref q19, .ref q20, .ref q21, .ref q22, .ref q23, .ref q24, .ref q25, .int 0, .ref q26, .ref q27, .ref q28, .ref q29, .ref q30, .int 0, .ref q31, .ref q32, .ref q33, .ref q34, .int 0, .ref q35, .ref q36, .ref q37, .ref q38, .int 0, .int 0, .ref q39, .ref q40, .ref q41, .ref q42])), (q1, .inl (G.2.1, 242, .inl (fun _ => 0)))] sz 0 (fun u => [(q0, .inr (12, [.int 0, .int 0, .int 0, .int 0, .int 0, .int 0, .int 0, .int (-1), .ref q2, .ref q1, .ref q3, .int 0, .ref q4, .ref q5, .ref q6, .ref q7, .ref q8, .ref q9, .ref q10, .int 0, .ref q11, .ref q12, .ref q13, .ref q14, .ref q15, .ref q16, .ref q17, .int 0, .int (-1), .int 0, .ref q18, .ref q19, .ref q20, .ref q21, .ref q22, .ref q23, .ref q24, .ref q25, .int 0, .ref q26, .ref q27, .ref q28, .ref q29, .ref q30, .int 0, .ref q31, .ref q32, .ref q33, .ref q34, .int 0, .ref q35, .ref q36, .ref q37, .ref q38, .int 0, .int 0, .ref q39, .ref q40, .ref q41, .ref q42])), (q1, .inl (G.2.1, 242, .inl (fun _ => 0)))]) := by
  refine Ki.of b0 (own := RX12) (nm := "alike") [(0, .ref q0)] rfl rfl (by decide +kernel) (Nat.le_of_ble_eq_true rfl) rfl ?_
  intro p e s m below meth c A C hr H locs w ls hl
  have hx := C.hx
  have hb := C.hb
  refine lv_aload_n hx hb dX12_alike_0 rfl (lv_at hl 0 rfl) ?_
  refine lv_iconst (v := 0) hx hb dX12_alike_1 (by decide) ?_
  refine r_put C w 0 rfl fl_X12_1 (Nat.le_of_ble_eq_true rfl) rfl rfl dX12_alike_2 (ws2 := [(q0, .inr (12, [.int 0, .int 0, .int 0, .int 0, .int 0, .int 0, .int 0, .int (-1), .ref q2, .ref q1, .ref q3, .int 0, .ref q4, .ref q5, .ref q6, .ref q7, .ref q8, .ref q9, .ref q10, .int 0, .ref q11, .ref q12, .ref q13, .ref q14, .ref q15, .ref q16, .ref q17, .int 0, .int (-1), .int 0, .ref q18, .ref q19, .ref q20, .ref q21, .ref q22, .ref q23, .ref q24, .ref q25, .int 0, .ref q26, .ref q27, .ref q28, .ref q29, .ref q30, .int 0, .ref q31, .ref q32, .ref q33, .ref q34, .int 0, .ref q35, .ref q36, .ref q37, .ref q38, .int 0, .int 0, .ref q39, .ref q40, .ref q41, .ref q42])), (q1, .inl (G.2.1, 242, .inl (fun _ => 0)))]) rfl (fun H locs w => ?_)
  refine lv_aload_n hx hb dX12_alike_5 rfl (lv_at hl 0 rfl) ?_
  refine fin_i C w (run_V C w mv_X12_280 (k57_places C.b0 q0 q1 q2 q3 q4 q5 q6 q7 q8 q9 q10 q11 q12 q13 q14 q15 q16 q17 q18 q19 q20 q21 q22 q23 q24 q25 q26 q27 q28 q29 q30 q31 q32 q33 q34 q35 q36 q37 q38 q39 q40 q41 q42 H.size) [0, 1] rfl rfl 0 rfl rfl (by decide) rfl hl.1 rfl (Nat.le_of_ble_eq_true rfl) dX12_alike_6 (cells2 := 0) (slots2 := 0) (by decide)) [0, 1] [] rfl rfl (by decide) (cells2 := 0) (slots2 := 0) (by decide) (fun u1 H locs w => ?_)
  have w : Wd s G A [(q0, .inr (12, [.int 0, .int 0, .int 0, .int 0, .int 0, .int 0, .int 0, .int (-1), .ref q2, .ref q1, .ref q3, .int 0, .ref q4, .ref q5, .ref q6, .ref q7, .ref q8, .ref q9, .ref q10, .int 0, .ref q11, .ref q12, .ref q13, .ref q14, .ref q15, .ref q16, .ref q17, .int 0, .int (-1), .int 0, .ref q18, .ref q19, .ref q20, .ref q21, .ref q22, .ref q23, .ref q24, .ref q25, .int 0, .ref q26, .ref q27, .ref q28, .ref q29, .ref q30, .int 0, .ref q31, .ref q32, .ref q33, .ref q34, .int 0, .ref q35, .ref q36, .ref q37, .ref q38, .int 0, .int 0, .ref q39, .ref q40, .ref q41, .ref q42])), (q1, .inl (G.2.1, 242, .inl (fun _ => 0)))] H locs := w
  refine lv_if_ne (tgt := 16) hx hb dX12_alike_9 (by decide) (fun h => absurd (by decide) h) (fun _ => ?_)
  refine lv_iconst (v := 0) hx hb dX12_alike_12 (by decide) ?_
  refine lv_goto (tgt := 22) hx hb dX12_alike_13 (by decide) ?_
  exact e_i C hr w (fun _ => 0) [0, 1] rfl rfl rfl dX12_alike_22 (by decide) (by decide)
set_option maxRecDepth 100000 in
set_option maxHeartbeats 4000000 in
theorem k556_copyFrom {l : Launch} {s0 : State} {a0 : Array Value} {G : GT} (b0 : B0 l s0 a0 G) (q0 q1 q2 q3 q4 q5 q6 q7 : Nat) (sz : Nat) : Kv l s0 G yX5_copyFrom cX5_copyFrom 2 none { frames := 1, cells := 0, slots := 0, locals := 100 } [.ref q1, .ref q0] [(q0, .inr (5, [.ref q2, .ref q4, .ref q6, .int 0])), (q1, .inr (5, [.ref q3, .ref q5, .ref q7, .int 0])), (q2, .inl (G.2.1, 8, .inl (fun _ => 0))), (q3, .inl (G.2.1, 8, .inl (fun _ => 0))), (q4, .inl (G.2.1, 8, .inl (fun _ => 0))), (q5, .inl (G.2.1, 8, .inl (fun _ => 0))), (q6, .inl (G.2.1, 40, .inl (fun _ => 0))), (q7, .inl (G.2.1, 40, .inl (fun _ => 0)))] sz (fun u => [(q0, .inr (5, [.ref q2, .ref q4, .ref q6, .int 0])), (q1, .inr (5, [.ref q3, .ref q5, .ref q7, .int 0])), (q2, .inl (G.2.1, 8, .inl (fun _ => 0))), (q3, .inl (G.2.1, 8, .inl (fun _ => 0))), (q4, .inl (G.2.1, 8, .inl (fun _ => 0))), (q5, .inl (G.2.1, 8, .inl (fun _ => 0))), (q6, .inl (G.2.1, 40, .inl (fun _ => 0))), (q7, .inl (G.2.1, 40, .inl (fun _ => 0)))]) := by
  refine Kv.of b0 (own := RX5) (nm := "copyFrom") [(0, .ref q1), (1, .ref q0)] rfl rfl (by decide +kernel) (Nat.le_of_ble_eq_true rfl) rfl ?_
  intro p e s m below meth c A C hr H locs w ls hl
  have hx := C.hx
  have hb := C.hb
  refine lv_aload_n hx hb dX5_copyFrom_0 rfl (lv_at hl 1 rfl) ?_
  refine r_get C w 0 rfl fr_X5_9 rfl dX5_copyFrom_1 ?_
  refine lv_iconst (v := 0) hx hb dX5_copyFrom_4 (by decide) ?_
  refine lv_aload_n hx hb dX5_copyFrom_5 rfl (lv_at hl 0 rfl) ?_
  refine r_get C w 1 rfl fr_X5_9 rfl dX5_copyFrom_6 ?_
  refine lv_iconst (v := 0) hx hb dX5_copyFrom_9 (by decide) ?_
  refine lv_bipush (v := 8) hx hb dX5_copyFrom_10 (by decide) ?_
  refine r_copyI C w 2 3 rfl rfl (sp' := 0) (dp' := 0) (n' := 8) (by decide +kernel) cp_X5_26 hl.1 (cpy_c _ _ _ _) (by decide) (Nat.le_of_ble_eq_true rfl) dX5_copyFrom_12 (ws2 := [(q0, .inr (5, [.ref q2, .ref q4, .ref q6, .int 0])), (q1, .inr (5, [.ref q3, .ref q5, .ref q7, .int 0])), (q2, .inl (G.2.1, 8, .inl (fun _ => 0))), (q3, .inl (G.2.1, 8, .inl (fun _ => 0))), (q4, .inl (G.2.1, 8, .inl (fun _ => 0))), (q5, .inl (G.2.1, 8, .inl (fun _ => 0))), (q6, .inl (G.2.1, 40, .inl (fun _ => 0))), (q7, .inl (G.2.1, 40, .inl (fun _ => 0)))]) rfl (fun H locs w => ?_)
  refine lv_aload_n hx hb dX5_copyFrom_15 rfl (lv_at hl 1 rfl) ?_
  refine r_get C w 0 rfl fr_X5_15 rfl dX5_copyFrom_16 ?_
  refine lv_iconst (v := 0) hx hb dX5_copyFrom_19 (by decide) ?_
  refine lv_aload_n hx hb dX5_copyFrom_20 rfl (lv_at hl 0 rfl) ?_
  refine r_get C w 1 rfl fr_X5_15 rfl dX5_copyFrom_21 ?_
  refine lv_iconst (v := 0) hx hb dX5_copyFrom_24 (by decide) ?_
  refine lv_bipush (v := 8) hx hb dX5_copyFrom_25 (by decide) ?_
  refine r_copyI C w 4 5 rfl rfl (sp' := 0) (dp' := 0) (n' := 8) (by decide +kernel) cp_X5_26 hl.1 (cpy_c _ _ _ _) (by decide) (Nat.le_of_ble_eq_true rfl) dX5_copyFrom_27 (ws2 := [(q0, .inr (5, [.ref q2, .ref q4, .ref q6, .int 0])), (q1, .inr (5, [.ref q3, .ref q5, .ref q7, .int 0])), (q2, .inl (G.2.1, 8, .inl (fun _ => 0))), (q3, .inl (G.2.1, 8, .inl (fun _ => 0))), (q4, .inl (G.2.1, 8, .inl (fun _ => 0))), (q5, .inl (G.2.1, 8, .inl (fun _ => 0))), (q6, .inl (G.2.1, 40, .inl (fun _ => 0))), (q7, .inl (G.2.1, 40, .inl (fun _ => 0)))]) rfl (fun H locs w => ?_)
  refine lv_aload_n hx hb dX5_copyFrom_30 rfl (lv_at hl 1 rfl) ?_
  refine r_get C w 0 rfl fr_X5_18 rfl dX5_copyFrom_31 ?_
  refine lv_iconst (v := 0) hx hb dX5_copyFrom_34 (by decide) ?_
  refine lv_aload_n hx hb dX5_copyFrom_35 rfl (lv_at hl 0 rfl) ?_
  refine r_get C w 1 rfl fr_X5_18 rfl dX5_copyFrom_36 ?_
  refine lv_iconst (v := 0) hx hb dX5_copyFrom_39 (by decide) ?_
  refine lv_bipush (v := 40) hx hb dX5_copyFrom_40 (by decide) ?_
  refine r_copyI C w 6 7 rfl rfl (sp' := 0) (dp' := 0) (n' := 40) (by decide +kernel) cp_X5_26 hl.1 (cpy_c _ _ _ _) (by decide) (Nat.le_of_ble_eq_true rfl) dX5_copyFrom_42 (ws2 := [(q0, .inr (5, [.ref q2, .ref q4, .ref q6, .int 0])), (q1, .inr (5, [.ref q3, .ref q5, .ref q7, .int 0])), (q2, .inl (G.2.1, 8, .inl (fun _ => 0))), (q3, .inl (G.2.1, 8, .inl (fun _ => 0))), (q4, .inl (G.2.1, 8, .inl (fun _ => 0))), (q5, .inl (G.2.1, 8, .inl (fun _ => 0))), (q6, .inl (G.2.1, 40, .inl (fun _ => 0))), (q7, .inl (G.2.1, 40, .inl (fun _ => 0)))]) rfl (fun H locs w => ?_)
  refine lv_aload_n hx hb dX5_copyFrom_45 rfl (lv_at hl 0 rfl) ?_
  refine lv_aload_n hx hb dX5_copyFrom_46 rfl (lv_at hl 1 rfl) ?_
  refine r_get C w 0 rfl fr_X5_38 rfl dX5_copyFrom_47 ?_
  refine r_put C w 1 rfl fl_X5_38 (Nat.le_of_ble_eq_true rfl) rfl rfl dX5_copyFrom_50 (ws2 := [(q0, .inr (5, [.ref q2, .ref q4, .ref q6, .int 0])), (q1, .inr (5, [.ref q3, .ref q5, .ref q7, .int 0])), (q2, .inl (G.2.1, 8, .inl (fun _ => 0))), (q3, .inl (G.2.1, 8, .inl (fun _ => 0))), (q4, .inl (G.2.1, 8, .inl (fun _ => 0))), (q5, .inl (G.2.1, 8, .inl (fun _ => 0))), (q6, .inl (G.2.1, 40, .inl (fun _ => 0))), (q7, .inl (G.2.1, 40, .inl (fun _ => 0)))]) rfl (fun H locs w => ?_)
  exact e_v C hr w (fun _ => 0) [0, 1, 2, 3, 4, 5, 6, 7] rfl rfl dX5_copyFrom_53 (by decide) (by decide)
set_option maxRecDepth 100000 in
set_option maxHeartbeats 4000000 in
theorem k557_image {l : Launch} {s0 : State} {a0 : Array Value} {G : GT} (b0 : B0 l s0 a0 G) (q0 q1 q2 q3 q4 q5 q6 q7 q8 q9 q10 q11 q12 q13 q14 q15 q16 q17 q18 q19 : Nat) (sz : Nat) : Ki l s0 G yX11_image cX11_image 1 (some .int) { frames := 2, cells := 0, slots := 0, locals := 121 } [.ref q0] [(q0, .inr (11, [.ref q10, .ref q11, .ref q3, .ref q1, .ref q12, .ref q13, .ref q14, .ref q15, .ref q16, .ref q17, .int 0, .int (-1), .int 0, .int 0, .null, .null, .null, .null, .null])), (q1, .inl (G.2.2.2.2, 3, .inr (.inr (.inr (.inr (va_up (va_up (va_up (fun _ => none) 0 (some q2)) 1 (some q18)) 2 (some q19))))))), (q2, .inr (5, [.ref q5, .ref q7, .ref q9, .int 0])), (q3, .inr (5, [.ref q4, .ref q6, .ref q8, .int 0])), (q4, .inl (G.2.1, 8, .inl (fun _ => 0))), (q5, .inl (G.2.1, 8, .inl (fun _ => 0))), (q6, .inl (G.2.1, 8, .inl (fun _ => 0))), (q7, .inl (G.2.1, 8, .inl (fun _ => 0))), (q8, .inl (G.2.1, 40, .inl (fun _ => 0))), (q9, .inl (G.2.1, 40, .inl (fun _ => 0)))] sz 1 (fun u => [(q0, .inr (11, [.ref q10, .ref q11, .ref q3, .ref q1, .ref q12, .ref q13, .ref q14, .ref q15, .ref q16, .ref q17, .int 0, .int (-1), .int 1, .int 0, .null, .null, .null, .null, .null])), (q1, .inl (G.2.2.2.2, 3, .inr (.inr (.inr (.inr (va_up (va_up (va_up (fun _ => none) 0 (some q2)) 1 (some q18)) 2 (some q19))))))), (q2, .inr (5, [.ref q5, .ref q7, .ref q9, .int 0])), (q3, .inr (5, [.ref q4, .ref q6, .ref q8, .int 0])), (q4, .inl (G.2.1, 8, .inl (fun _ => 0))), (q5, .inl (G.2.1, 8, .inl (fun _ => 0))), (q6, .inl (G.2.1, 8, .inl (fun _ => 0))), (q7, .inl (G.2.1, 8, .inl (fun _ => 0))), (q8, .inl (G.2.1, 40, .inl (fun _ => 0))), (q9, .inl (G.2.1, 40, .inl (fun _ => 0)))]) := by
  refine Ki.of b0 (own := RX11) (nm := "image") [(0, .ref q0)] rfl rfl (by decide +kernel) (Nat.le_of_ble_eq_true rfl) rfl ?_
  intro p e s m below meth c A C hr H locs w ls hl
  have hx := C.hx
  have hb := C.hb
  refine lv_aload_n hx hb dX11_image_0 rfl (lv_at hl 0 rfl) ?_
  refine r_get C w 0 rfl fr_X11_88 rfl dX11_image_1 ?_
  refine lv_iconst (v := 3) hx hb dX11_image_4 (by decide) ?_
  refine lv_icmp_lt (tgt := 10) hx hb dX11_image_5 (by decide) (fun _ => ?_) (fun h => absurd (by decide) h)
  refine lv_aload_n hx hb dX11_image_10 rfl (lv_at hl 0 rfl) ?_
  refine r_get C w 0 rfl fr_X11_27 rfl dX11_image_11 ?_
  refine lv_aload_n hx hb dX11_image_14 rfl (lv_at hl 0 rfl) ?_
  refine r_get C w 0 rfl fr_X11_88 rfl dX11_image_15 ?_
  refine r_aald C w 1 rfl (IX.of (k := 0) (by decide +kernel)) (v := .ref q2) rfl dX11_image_18 ?_
  refine lv_aload_n hx hb dX11_image_19 rfl (lv_at hl 0 rfl) ?_
  refine r_get C w 0 rfl fr_X11_23 rfl dX11_image_20 ?_
  refine fin_v C w (run_V C w mv_X11_356 (k556_copyFrom C.b0 q3 q2 q4 q5 q6 q7 q8 q9 H.size) [3, 2, 4, 5, 6, 7, 8, 9] rfl rfl 2 rfl rfl (by decide) rfl hl.1 rfl (Nat.le_of_ble_eq_true rfl) dX11_image_23 (cells2 := 0) (slots2 := 0) (by decide)) [3, 2, 4, 5, 6, 7, 8, 9] [0, 1] rfl rfl (by decide) (cells2 := 0) (slots2 := 0) (by decide) (fun u1 H locs w => ?_)
  have w : Wd s G A [(q0, .inr (11, [.ref q10, .ref q11, .ref q3, .ref q1, .ref q12, .ref q13, .ref q14, .ref q15, .ref q16, .ref q17, .int 0, .int (-1), .int 0, .int 0, .null, .null, .null, .null, .null])), (q1, .inl (G.2.2.2.2, 3, .inr (.inr (.inr (.inr (va_up (va_up (va_up (fun _ => none) 0 (some q2)) 1 (some q18)) 2 (some q19))))))), (q3, .inr (5, [.ref q4, .ref q6, .ref q8, .int 0])), (q2, .inr (5, [.ref q5, .ref q7, .ref q9, .int 0])), (q4, .inl (G.2.1, 8, .inl (fun _ => 0))), (q5, .inl (G.2.1, 8, .inl (fun _ => 0))), (q6, .inl (G.2.1, 8, .inl (fun _ => 0))), (q7, .inl (G.2.1, 8, .inl (fun _ => 0))), (q8, .inl (G.2.1, 40, .inl (fun _ => 0))), (q9, .inl (G.2.1, 40, .inl (fun _ => 0)))] H locs := w
  refine lv_aload_n hx hb dX11_image_26 rfl (lv_at hl 0 rfl) ?_
  refine lv_dup hx hb dX11_image_27 rfl ?_
  refine r_get C w 0 rfl fr_X11_88 rfl dX11_image_28 ?_
  refine lv_iconst (v := 1) hx hb dX11_image_31 (by decide) ?_
  refine lv_iadd hx hb dX11_image_32 ?_
  refine z_i (v := 1) (by decide +kernel) ?_
  refine r_put C w 0 rfl fl_X11_88 (Nat.le_of_ble_eq_true rfl) rfl rfl dX11_image_33 (ws2 := [(q0, .inr (11, [.ref q10, .ref q11, .ref q3, .ref q1, .ref q12, .ref q13, .ref q14, .ref q15, .ref q16, .ref q17, .int 0, .int (-1), .int 1, .int 0, .null, .null, .null, .null, .null])), (q1, .inl (G.2.2.2.2, 3, .inr (.inr (.inr (.inr (va_up (va_up (va_up (fun _ => none) 0 (some q2)) 1 (some q18)) 2 (some q19))))))), (q3, .inr (5, [.ref q4, .ref q6, .ref q8, .int 0])), (q2, .inr (5, [.ref q5, .ref q7, .ref q9, .int 0])), (q4, .inl (G.2.1, 8, .inl (fun _ => 0))), (q5, .inl (G.2.1, 8, .inl (fun _ => 0))), (q6, .inl (G.2.1, 8, .inl (fun _ => 0))), (q7, .inl (G.2.1, 8, .inl (fun _ => 0))), (q8, .inl (G.2.1, 40, .inl (fun _ => 0))), (q9, .inl (G.2.1, 40, .inl (fun _ => 0)))]) rfl (fun H locs w => ?_)
  refine lv_aload_n hx hb dX11_image_36 rfl (lv_at hl 0 rfl) ?_
  refine r_get C w 0 rfl fr_X11_88 rfl dX11_image_37 ?_
  exact e_i C hr w (fun _ => 0) [0, 1, 3, 2, 4, 5, 6, 7, 8, 9] rfl rfl rfl dX11_image_40 (by decide) (by decide)
set_option maxRecDepth 100000 in
set_option maxHeartbeats 4000000 in
theorem k558_image {l : Launch} {s0 : State} {a0 : Array Value} {G : GT} (b0 : B0 l s0 a0 G) (q0 q1 q2 q3 q4 q5 q6 q7 q8 q9 q10 q11 q12 q13 q14 q15 q16 q17 q18 q19 q20 q21 q22 q23 q24 q25 q26 q27 q28 q29 q30 q31 q32 q33 q34 q35 q36 q37 q38 q39 q40 q41 q42 : Nat) (sz : Nat) : Ki l s0 G yX12_image cX12_image 2 (some .int) { frames := 0, cells := 0, slots := 0, locals := 0 } [.ref q0] [(q0, .inr (12, [.int 0, .int 0, .int 0, .int 0, .int 0, .int 0, .int 0, .int (-1), .ref q3, .ref q4, .ref q5, .int 0, .ref q6, .ref q7, .ref q8, .ref q9, .ref q10, .ref q1, .ref q2, .int 0, .ref q11, .ref q12, .ref q13, .ref q14, .ref q15, .ref q16, .ref q17, .int 0, .int (-1), .int 0, .ref q18, .ref q19, .ref q20, .ref q21, .ref q22, .ref q23, .ref q24, .ref q25, .int 0, .ref q26, .ref q27, .ref q28, .ref q29, .ref q30, .int 0, .ref q31, .ref q32, .ref q33, .ref q34, .int 0, .ref q35, .ref q36, .ref q37, .ref q38, .int 0, .int 0, .ref q39, .ref q40, .ref q41, .ref q42])), (q1, .inl (G.2.1, 57, .inl (fun _ => 0))), (q2, .inl (G.2.1, 171, .inl (fun _ => 0)))] sz 1 (fun u => [(q0, .inr (12, [.int 0, .int 0, .int 0, .int 0, .int 0, .int 0, .int 0, .int (-1), .ref q3, .ref q4, .ref q5, .int 0, .ref q6, .ref q7, .ref q8, .ref q9, .ref q10, .ref q1, .ref q2, .int 1, .ref q11, .ref q12, .ref q13, .ref q14, .ref q15, .ref q16, .ref q17, .int 0, .int (-1), .int 0, .ref q18, .ref q19, .ref q20, .ref q21, .ref q22, .ref q23, .ref q24, .ref q25, .int 0, .ref q26, .ref q27, .ref q28, .ref q29, .ref q30, .int 0, .ref q31, .ref q32, .ref q33, .ref q34, .int 0, .ref q35, .ref q36, .ref q37, .ref q38, .int 0, .int 0, .ref q39, .ref q40, .ref q41, .ref q42])), (q1, .inl (G.2.1, 57, .inl (fun _ => 0))), (q2, .inl (G.2.1, 171, .inl (fun _ => 0)))]) := by
  refine Ki.of b0 (own := RX12) (nm := "image") [(0, .ref q0)] rfl rfl (by decide +kernel) (Nat.le_of_ble_eq_true rfl) rfl ?_
  intro p e s m below meth c A C hr H locs w ls hl
  have hx := C.hx
  have hb := C.hb
  refine lv_aload_n hx hb dX12_image_0 rfl (lv_at hl 0 rfl) ?_
  refine lv_iconst (v := 0) hx hb dX12_image_1 (by decide) ?_
  refine r_put C w 0 rfl fl_X12_1 (Nat.le_of_ble_eq_true rfl) rfl rfl dX12_image_2 (ws2 := [(q0, .inr (12, [.int 0, .int 0, .int 0, .int 0, .int 0, .int 0, .int 0, .int (-1), .ref q3, .ref q4, .ref q5, .int 0, .ref q6, .ref q7, .ref q8, .ref q9, .ref q10, .ref q1, .ref q2, .int 0, .ref q11, .ref q12, .ref q13, .ref q14, .ref q15, .ref q16, .ref q17, .int 0, .int (-1), .int 0, .ref q18, .ref q19, .ref q20, .ref q21, .ref q22, .ref q23, .ref q24, .ref q25, .int 0, .ref q26, .ref q27, .ref q28, .ref q29, .ref q30, .int 0, .ref q31, .ref q32, .ref q33, .ref q34, .int 0, .ref q35, .ref q36, .ref q37, .ref q38, .int 0, .int 0, .ref q39, .ref q40, .ref q41, .ref q42])), (q1, .inl (G.2.1, 57, .inl (fun _ => 0))), (q2, .inl (G.2.1, 171, .inl (fun _ => 0)))]) rfl (fun H locs w => ?_)
  refine lv_aload_n hx hb dX12_image_5 rfl (lv_at hl 0 rfl) ?_
  refine r_get C w 0 rfl fr_X12_283 rfl dX12_image_6 ?_
  refine lv_iconst (v := 3) hx hb dX12_image_9 (by decide) ?_
  refine lv_icmp_ne (tgt := 15) hx hb dX12_image_10 (by decide) (fun _ => ?_) (fun h => h.elim (by decide))
  refine lv_iconst (v := 0) hx hb dX12_image_15 (by decide) ?_
  refine lv_istore_n (lv' := [(1, .int 0), (0, .ref q0)]) hx hb dX12_image_16 rfl hl (by decide) rfl (fun ls hl => ?_)
  refine lv_iload_n hx hb dX12_image_17 rfl (lv_at hl 0 rfl) ?_
  refine lv_bipush (v := 57) hx hb dX12_image_18 (by decide) ?_
  refine lv_icmp_ge (tgt := 49) hx hb dX12_image_20 (by decide) (fun h => absurd h (by decide)) (fun _ => ?_)
  refine lv_aload_n hx hb dX12_image_23 rfl (lv_at hl 1 rfl) ?_
  refine r_get C w 0 rfl fr_X12_44 rfl dX12_image_24 ?_
  refine lv_bipush (v := 57) hx hb dX12_image_27 (by decide) ?_
  refine lv_aload_n hx hb dX12_image_29 rfl (lv_at hl 1 rfl) ?_
  refine r_get C w 0 rfl fr_X12_283 rfl dX12_image_30 ?_
  refine lv_imul hx hb dX12_image_33 ?_
  refine z_i (v := 0) (by decide +kernel) ?_
  refine lv_iload_n hx hb dX12_image_34 rfl (lv_at hl 0 rfl) ?_
  refine lv_iadd hx hb dX12_image_35 ?_
  refine z_i (v := 0) (by decide +kernel) ?_
  refine lv_aload_n hx hb dX12_image_36 rfl (lv_at hl 1 rfl) ?_
  refine r_get C w 0 rfl fr_X12_41 rfl dX12_image_37 ?_
  refine lv_iload_n hx hb dX12_image_40 rfl (lv_at hl 0 rfl) ?_
  refine r_iald C w 1 rfl (IX.of (k := 0) (by decide +kernel)) (v := 0) rfl dX12_image_41 ?_
  refine r_iast C w 2 rfl (IX.of (k := 0) (by decide +kernel)) (g := (fun _ => 0)) (upd_c _ _) dX12_image_42 (ws2 := [(q0, .inr (12, [.int 0, .int 0, .int 0, .int 0, .int 0, .int 0, .int 0, .int (-1), .ref q3, .ref q4, .ref q5, .int 0, .ref q6, .ref q7, .ref q8, .ref q9, .ref q10, .ref q1, .ref q2, .int 0, .ref q11, .ref q12, .ref q13, .ref q14, .ref q15, .ref q16, .ref q17, .int 0, .int (-1), .int 0, .ref q18, .ref q19, .ref q20, .ref q21, .ref q22, .ref q23, .ref q24, .ref q25, .int 0, .ref q26, .ref q27, .ref q28, .ref q29, .ref q30, .int 0, .ref q31, .ref q32, .ref q33, .ref q34, .int 0, .ref q35, .ref q36, .ref q37, .ref q38, .int 0, .int 0, .ref q39, .ref q40, .ref q41, .ref q42])), (q1, .inl (G.2.1, 57, .inl (fun _ => 0))), (q2, .inl (G.2.1, 171, .inl (fun _ => 0)))]) rfl (fun H locs w => ?_)
  refine lv_iinc (v := 1) (lv' := [(1, .int 1), (0, .ref q0)]) hx hb dX12_image_43 hl (k := 0) rfl (by decide +kernel) (by decide) rfl (fun ls hl => ?_)
  refine lv_goto (tgt := 17) hx hb dX12_image_46 (by decide) ?_
  refine lv_iload_n hx hb dX12_image_17 rfl (lv_at hl 0 rfl) ?_
  refine lv_bipush (v := 57) hx hb dX12_image_18 (by decide) ?_
  refine lv_icmp_ge (tgt := 49) hx hb dX12_image_20 (by decide) (fun h => absurd h (by decide)) (fun _ => ?_)
  refine lv_aload_n hx hb dX12_image_23 rfl (lv_at hl 1 rfl) ?_
  refine r_get C w 0 rfl fr_X12_44 rfl dX12_image_24 ?_
  refine lv_bipush (v := 57) hx hb dX12_image_27 (by decide) ?_
  refine lv_aload_n hx hb dX12_image_29 rfl (lv_at hl 1 rfl) ?_
  refine r_get C w 0 rfl fr_X12_283 rfl dX12_image_30 ?_
  refine lv_imul hx hb dX12_image_33 ?_
  refine z_i (v := 0) (by decide +kernel) ?_
  refine lv_iload_n hx hb dX12_image_34 rfl (lv_at hl 0 rfl) ?_
  refine lv_iadd hx hb dX12_image_35 ?_
  refine z_i (v := 1) (by decide +kernel) ?_
  refine lv_aload_n hx hb dX12_image_36 rfl (lv_at hl 1 rfl) ?_
  refine r_get C w 0 rfl fr_X12_41 rfl dX12_image_37 ?_
  refine lv_iload_n hx hb dX12_image_40 rfl (lv_at hl 0 rfl) ?_
  refine r_iald C w 1 rfl (IX.of (k := 1) (by decide +kernel)) (v := 0) rfl dX12_image_41 ?_
  refine r_iast C w 2 rfl (IX.of (k := 1) (by decide +kernel)) (g := (fun _ => 0)) (upd_c _ _) dX12_image_42 (ws2 := [(q0, .inr (12, [.int 0, .int 0, .int 0, .int 0, .int 0, .int 0, .int 0, .int (-1), .ref q3, .ref q4, .ref q5, .int 0, .ref q6, .ref q7, .ref q8, .ref q9, .ref q10, .ref q1, .ref q2, .int 0, .ref q11, .ref q12, .ref q13, .ref q14, .ref q15, .ref q16, .ref q17, .int 0, .int (-1), .int 0, .ref q18, .ref q19, .ref q20, .ref q21, .ref q22, .ref q23, .ref q24, .ref q25, .int 0, .ref q26, .ref q27, .ref q28, .ref q29, .ref q30, .int 0, .ref q31, .ref q32, .ref q33, .ref q34, .int 0, .ref q35, .ref q36, .ref q37, .ref q38, .int 0, .int 0, .ref q39, .ref q40, .ref q41, .ref q42])), (q1, .inl (G.2.1, 57, .inl (fun _ => 0))), (q2, .inl (G.2.1, 171, .inl (fun _ => 0)))]) rfl (fun H locs w => ?_)
  refine lv_iinc (v := 2) (lv' := [(1, .int 2), (0, .ref q0)]) hx hb dX12_image_43 hl (k := 0) rfl (by decide +kernel) (by decide) rfl (fun ls hl => ?_)
  refine lv_goto (tgt := 17) hx hb dX12_image_46 (by decide) ?_
  refine lv_iload_n hx hb dX12_image_17 rfl (lv_at hl 0 rfl) ?_
  refine lv_bipush (v := 57) hx hb dX12_image_18 (by decide) ?_
  refine lv_icmp_ge (tgt := 49) hx hb dX12_image_20 (by decide) (fun h => absurd h (by decide)) (fun _ => ?_)
  refine lv_aload_n hx hb dX12_image_23 rfl (lv_at hl 1 rfl) ?_
  refine r_get C w 0 rfl fr_X12_44 rfl dX12_image_24 ?_
  refine lv_bipush (v := 57) hx hb dX12_image_27 (by decide) ?_
  refine lv_aload_n hx hb dX12_image_29 rfl (lv_at hl 1 rfl) ?_
  refine r_get C w 0 rfl fr_X12_283 rfl dX12_image_30 ?_
  refine lv_imul hx hb dX12_image_33 ?_
  refine z_i (v := 0) (by decide +kernel) ?_
  refine lv_iload_n hx hb dX12_image_34 rfl (lv_at hl 0 rfl) ?_
  refine lv_iadd hx hb dX12_image_35 ?_
  refine z_i (v := 2) (by decide +kernel) ?_
  refine lv_aload_n hx hb dX12_image_36 rfl (lv_at hl 1 rfl) ?_
  refine r_get C w 0 rfl fr_X12_41 rfl dX12_image_37 ?_
  refine lv_iload_n hx hb dX12_image_40 rfl (lv_at hl 0 rfl) ?_
  refine r_iald C w 1 rfl (IX.of (k := 2) (by decide +kernel)) (v := 0) rfl dX12_image_41 ?_
  refine r_iast C w 2 rfl (IX.of (k := 2) (by decide +kernel)) (g := (fun _ => 0)) (upd_c _ _) dX12_image_42 (ws2 := [(q0, .inr (12, [.int 0, .int 0, .int 0, .int 0, .int 0, .int 0, .int 0, .int (-1), .ref q3, .ref q4, .ref q5, .int 0, .ref q6, .ref q7, .ref q8, .ref q9, .ref q10, .ref q1, .ref q2, .int 0, .ref q11, .ref q12, .ref q13, .ref q14, .ref q15, .ref q16, .ref q17, .int 0, .int (-1), .int 0, .ref q18, .ref q19, .ref q20, .ref q21, .ref q22, .ref q23, .ref q24, .ref q25, .int 0, .ref q26, .ref q27, .ref q28, .ref q29, .ref q30, .int 0, .ref q31, .ref q32, .ref q33, .ref q34, .int 0, .ref q35, .ref q36, .ref q37, .ref q38, .int 0, .int 0, .ref q39, .ref q40, .ref q41, .ref q42])), (q1, .inl (G.2.1, 57, .inl (fun _ => 0))), (q2, .inl (G.2.1, 171, .inl (fun _ => 0)))]) rfl (fun H locs w => ?_)
  refine lv_iinc (v := 3) (lv' := [(1, .int 3), (0, .ref q0)]) hx hb dX12_image_43 hl (k := 0) rfl (by decide +kernel) (by decide) rfl (fun ls hl => ?_)
  refine lv_goto (tgt := 17) hx hb dX12_image_46 (by decide) ?_
  refine lv_iload_n hx hb dX12_image_17 rfl (lv_at hl 0 rfl) ?_
  refine lv_bipush (v := 57) hx hb dX12_image_18 (by decide) ?_
  refine lv_icmp_ge (tgt := 49) hx hb dX12_image_20 (by decide) (fun h => absurd h (by decide)) (fun _ => ?_)
  refine lv_aload_n hx hb dX12_image_23 rfl (lv_at hl 1 rfl) ?_
  refine r_get C w 0 rfl fr_X12_44 rfl dX12_image_24 ?_
  refine lv_bipush (v := 57) hx hb dX12_image_27 (by decide) ?_
  refine lv_aload_n hx hb dX12_image_29 rfl (lv_at hl 1 rfl) ?_
  refine r_get C w 0 rfl fr_X12_283 rfl dX12_image_30 ?_
  refine lv_imul hx hb dX12_image_33 ?_
  refine z_i (v := 0) (by decide +kernel) ?_
  refine lv_iload_n hx hb dX12_image_34 rfl (lv_at hl 0 rfl) ?_
  refine lv_iadd hx hb dX12_image_35 ?_
  refine z_i (v := 3) (by decide +kernel) ?_
  refine lv_aload_n hx hb dX12_image_36 rfl (lv_at hl 1 rfl) ?_
  refine r_get C w 0 rfl fr_X12_41 rfl dX12_image_37 ?_
  refine lv_iload_n hx hb dX12_image_40 rfl (lv_at hl 0 rfl) ?_
  refine r_iald C w 1 rfl (IX.of (k := 3) (by decide +kernel)) (v := 0) rfl dX12_image_41 ?_
  refine r_iast C w 2 rfl (IX.of (k := 3) (by decide +kernel)) (g := (fun _ => 0)) (upd_c _ _) dX12_image_42 (ws2 := [(q0, .inr (12, [.int 0, .int 0, .int 0, .int 0, .int 0, .int 0, .int 0, .int (-1), .ref q3, .ref q4, .ref q5, .int 0, .ref q6, .ref q7, .ref q8, .ref q9, .ref q10, .ref q1, .ref q2, .int 0, .ref q11, .ref q12, .ref q13, .ref q14, .ref q15, .ref q16, .ref q17, .int 0, .int (-1), .int 0, .ref q18, .ref q19, .ref q20, .ref q21, .ref q22, .ref q23, .ref q24, .ref q25, .int 0, .ref q26, .ref q27, .ref q28, .ref q29, .ref q30, .int 0, .ref q31, .ref q32, .ref q33, .ref q34, .int 0, .ref q35, .ref q36, .ref q37, .ref q38, .int 0, .int 0, .ref q39, .ref q40, .ref q41, .ref q42])), (q1, .inl (G.2.1, 57, .inl (fun _ => 0))), (q2, .inl (G.2.1, 171, .inl (fun _ => 0)))]) rfl (fun H locs w => ?_)
  refine lv_iinc (v := 4) (lv' := [(1, .int 4), (0, .ref q0)]) hx hb dX12_image_43 hl (k := 0) rfl (by decide +kernel) (by decide) rfl (fun ls hl => ?_)
  refine lv_goto (tgt := 17) hx hb dX12_image_46 (by decide) ?_
  refine lv_iload_n hx hb dX12_image_17 rfl (lv_at hl 0 rfl) ?_
  refine lv_bipush (v := 57) hx hb dX12_image_18 (by decide) ?_
  refine lv_icmp_ge (tgt := 49) hx hb dX12_image_20 (by decide) (fun h => absurd h (by decide)) (fun _ => ?_)
  refine lv_aload_n hx hb dX12_image_23 rfl (lv_at hl 1 rfl) ?_
  refine r_get C w 0 rfl fr_X12_44 rfl dX12_image_24 ?_
  refine lv_bipush (v := 57) hx hb dX12_image_27 (by decide) ?_
  refine lv_aload_n hx hb dX12_image_29 rfl (lv_at hl 1 rfl) ?_
  refine r_get C w 0 rfl fr_X12_283 rfl dX12_image_30 ?_
  refine lv_imul hx hb dX12_image_33 ?_
  refine z_i (v := 0) (by decide +kernel) ?_
  refine lv_iload_n hx hb dX12_image_34 rfl (lv_at hl 0 rfl) ?_
  refine lv_iadd hx hb dX12_image_35 ?_
  refine z_i (v := 4) (by decide +kernel) ?_
  refine lv_aload_n hx hb dX12_image_36 rfl (lv_at hl 1 rfl) ?_
  refine r_get C w 0 rfl fr_X12_41 rfl dX12_image_37 ?_
  refine lv_iload_n hx hb dX12_image_40 rfl (lv_at hl 0 rfl) ?_
  refine r_iald C w 1 rfl (IX.of (k := 4) (by decide +kernel)) (v := 0) rfl dX12_image_41 ?_
  refine r_iast C w 2 rfl (IX.of (k := 4) (by decide +kernel)) (g := (fun _ => 0)) (upd_c _ _) dX12_image_42 (ws2 := [(q0, .inr (12, [.int 0, .int 0, .int 0, .int 0, .int 0, .int 0, .int 0, .int (-1), .ref q3, .ref q4, .ref q5, .int 0, .ref q6, .ref q7, .ref q8, .ref q9, .ref q10, .ref q1, .ref q2, .int 0, .ref q11, .ref q12, .ref q13, .ref q14, .ref q15, .ref q16, .ref q17, .int 0, .int (-1), .int 0, .ref q18, .ref q19, .ref q20, .ref q21, .ref q22, .ref q23, .ref q24, .ref q25, .int 0, .ref q26, .ref q27, .ref q28, .ref q29, .ref q30, .int 0, .ref q31, .ref q32, .ref q33, .ref q34, .int 0, .ref q35, .ref q36, .ref q37, .ref q38, .int 0, .int 0, .ref q39, .ref q40, .ref q41, .ref q42])), (q1, .inl (G.2.1, 57, .inl (fun _ => 0))), (q2, .inl (G.2.1, 171, .inl (fun _ => 0)))]) rfl (fun H locs w => ?_)
  refine lv_iinc (v := 5) (lv' := [(1, .int 5), (0, .ref q0)]) hx hb dX12_image_43 hl (k := 0) rfl (by decide +kernel) (by decide) rfl (fun ls hl => ?_)
  refine lv_goto (tgt := 17) hx hb dX12_image_46 (by decide) ?_
  refine lv_iload_n hx hb dX12_image_17 rfl (lv_at hl 0 rfl) ?_
  refine lv_bipush (v := 57) hx hb dX12_image_18 (by decide) ?_
  refine lv_icmp_ge (tgt := 49) hx hb dX12_image_20 (by decide) (fun h => absurd h (by decide)) (fun _ => ?_)
  refine lv_aload_n hx hb dX12_image_23 rfl (lv_at hl 1 rfl) ?_
  refine r_get C w 0 rfl fr_X12_44 rfl dX12_image_24 ?_
  refine lv_bipush (v := 57) hx hb dX12_image_27 (by decide) ?_
  refine lv_aload_n hx hb dX12_image_29 rfl (lv_at hl 1 rfl) ?_
  refine r_get C w 0 rfl fr_X12_283 rfl dX12_image_30 ?_
  refine lv_imul hx hb dX12_image_33 ?_
  refine z_i (v := 0) (by decide +kernel) ?_
  refine lv_iload_n hx hb dX12_image_34 rfl (lv_at hl 0 rfl) ?_
  refine lv_iadd hx hb dX12_image_35 ?_
  refine z_i (v := 5) (by decide +kernel) ?_
  refine lv_aload_n hx hb dX12_image_36 rfl (lv_at hl 1 rfl) ?_
  refine r_get C w 0 rfl fr_X12_41 rfl dX12_image_37 ?_
  refine lv_iload_n hx hb dX12_image_40 rfl (lv_at hl 0 rfl) ?_
  refine r_iald C w 1 rfl (IX.of (k := 5) (by decide +kernel)) (v := 0) rfl dX12_image_41 ?_
  refine r_iast C w 2 rfl (IX.of (k := 5) (by decide +kernel)) (g := (fun _ => 0)) (upd_c _ _) dX12_image_42 (ws2 := [(q0, .inr (12, [.int 0, .int 0, .int 0, .int 0, .int 0, .int 0, .int 0, .int (-1), .ref q3, .ref q4, .ref q5, .int 0, .ref q6, .ref q7, .ref q8, .ref q9, .ref q10, .ref q1, .ref q2, .int 0, .ref q11, .ref q12, .ref q13, .ref q14, .ref q15, .ref q16, .ref q17, .int 0, .int (-1), .int 0, .ref q18, .ref q19, .ref q20, .ref q21, .ref q22, .ref q23, .ref q24, .ref q25, .int 0, .ref q26, .ref q27, .ref q28, .ref q29, .ref q30, .int 0, .ref q31, .ref q32, .ref q33, .ref q34, .int 0, .ref q35, .ref q36, .ref q37, .ref q38, .int 0, .int 0, .ref q39, .ref q40, .ref q41, .ref q42])), (q1, .inl (G.2.1, 57, .inl (fun _ => 0))), (q2, .inl (G.2.1, 171, .inl (fun _ => 0)))]) rfl (fun H locs w => ?_)
  refine lv_iinc (v := 6) (lv' := [(1, .int 6), (0, .ref q0)]) hx hb dX12_image_43 hl (k := 0) rfl (by decide +kernel) (by decide) rfl (fun ls hl => ?_)
  refine lv_goto (tgt := 17) hx hb dX12_image_46 (by decide) ?_
  refine lv_iload_n hx hb dX12_image_17 rfl (lv_at hl 0 rfl) ?_
  refine lv_bipush (v := 57) hx hb dX12_image_18 (by decide) ?_
  refine lv_icmp_ge (tgt := 49) hx hb dX12_image_20 (by decide) (fun h => absurd h (by decide)) (fun _ => ?_)
  refine lv_aload_n hx hb dX12_image_23 rfl (lv_at hl 1 rfl) ?_
  refine r_get C w 0 rfl fr_X12_44 rfl dX12_image_24 ?_
  refine lv_bipush (v := 57) hx hb dX12_image_27 (by decide) ?_
  refine lv_aload_n hx hb dX12_image_29 rfl (lv_at hl 1 rfl) ?_
  refine r_get C w 0 rfl fr_X12_283 rfl dX12_image_30 ?_
  refine lv_imul hx hb dX12_image_33 ?_
  refine z_i (v := 0) (by decide +kernel) ?_
  refine lv_iload_n hx hb dX12_image_34 rfl (lv_at hl 0 rfl) ?_
  refine lv_iadd hx hb dX12_image_35 ?_
  refine z_i (v := 6) (by decide +kernel) ?_
  refine lv_aload_n hx hb dX12_image_36 rfl (lv_at hl 1 rfl) ?_
  refine r_get C w 0 rfl fr_X12_41 rfl dX12_image_37 ?_
  refine lv_iload_n hx hb dX12_image_40 rfl (lv_at hl 0 rfl) ?_
  refine r_iald C w 1 rfl (IX.of (k := 6) (by decide +kernel)) (v := 0) rfl dX12_image_41 ?_
  refine r_iast C w 2 rfl (IX.of (k := 6) (by decide +kernel)) (g := (fun _ => 0)) (upd_c _ _) dX12_image_42 (ws2 := [(q0, .inr (12, [.int 0, .int 0, .int 0, .int 0, .int 0, .int 0, .int 0, .int (-1), .ref q3, .ref q4, .ref q5, .int 0, .ref q6, .ref q7, .ref q8, .ref q9, .ref q10, .ref q1, .ref q2, .int 0, .ref q11, .ref q12, .ref q13, .ref q14, .ref q15, .ref q16, .ref q17, .int 0, .int (-1), .int 0, .ref q18, .ref q19, .ref q20, .ref q21, .ref q22, .ref q23, .ref q24, .ref q25, .int 0, .ref q26, .ref q27, .ref q28, .ref q29, .ref q30, .int 0, .ref q31, .ref q32, .ref q33, .ref q34, .int 0, .ref q35, .ref q36, .ref q37, .ref q38, .int 0, .int 0, .ref q39, .ref q40, .ref q41, .ref q42])), (q1, .inl (G.2.1, 57, .inl (fun _ => 0))), (q2, .inl (G.2.1, 171, .inl (fun _ => 0)))]) rfl (fun H locs w => ?_)
  refine lv_iinc (v := 7) (lv' := [(1, .int 7), (0, .ref q0)]) hx hb dX12_image_43 hl (k := 0) rfl (by decide +kernel) (by decide) rfl (fun ls hl => ?_)
  refine lv_goto (tgt := 17) hx hb dX12_image_46 (by decide) ?_
  refine lv_iload_n hx hb dX12_image_17 rfl (lv_at hl 0 rfl) ?_
  refine lv_bipush (v := 57) hx hb dX12_image_18 (by decide) ?_
  refine lv_icmp_ge (tgt := 49) hx hb dX12_image_20 (by decide) (fun h => absurd h (by decide)) (fun _ => ?_)
  refine lv_aload_n hx hb dX12_image_23 rfl (lv_at hl 1 rfl) ?_
  refine r_get C w 0 rfl fr_X12_44 rfl dX12_image_24 ?_
  refine lv_bipush (v := 57) hx hb dX12_image_27 (by decide) ?_
  refine lv_aload_n hx hb dX12_image_29 rfl (lv_at hl 1 rfl) ?_
  refine r_get C w 0 rfl fr_X12_283 rfl dX12_image_30 ?_
  refine lv_imul hx hb dX12_image_33 ?_
  refine z_i (v := 0) (by decide +kernel) ?_
  refine lv_iload_n hx hb dX12_image_34 rfl (lv_at hl 0 rfl) ?_
  refine lv_iadd hx hb dX12_image_35 ?_
  refine z_i (v := 7) (by decide +kernel) ?_
  refine lv_aload_n hx hb dX12_image_36 rfl (lv_at hl 1 rfl) ?_
  refine r_get C w 0 rfl fr_X12_41 rfl dX12_image_37 ?_
  refine lv_iload_n hx hb dX12_image_40 rfl (lv_at hl 0 rfl) ?_
  refine r_iald C w 1 rfl (IX.of (k := 7) (by decide +kernel)) (v := 0) rfl dX12_image_41 ?_
  refine r_iast C w 2 rfl (IX.of (k := 7) (by decide +kernel)) (g := (fun _ => 0)) (upd_c _ _) dX12_image_42 (ws2 := [(q0, .inr (12, [.int 0, .int 0, .int 0, .int 0, .int 0, .int 0, .int 0, .int (-1), .ref q3, .ref q4, .ref q5, .int 0, .ref q6, .ref q7, .ref q8, .ref q9, .ref q10, .ref q1, .ref q2, .int 0, .ref q11, .ref q12, .ref q13, .ref q14, .ref q15, .ref q16, .ref q17, .int 0, .int (-1), .int 0, .ref q18, .ref q19, .ref q20, .ref q21, .ref q22, .ref q23, .ref q24, .ref q25, .int 0, .ref q26, .ref q27, .ref q28, .ref q29, .ref q30, .int 0, .ref q31, .ref q32, .ref q33, .ref q34, .int 0, .ref q35, .ref q36, .ref q37, .ref q38, .int 0, .int 0, .ref q39, .ref q40, .ref q41, .ref q42])), (q1, .inl (G.2.1, 57, .inl (fun _ => 0))), (q2, .inl (G.2.1, 171, .inl (fun _ => 0)))]) rfl (fun H locs w => ?_)
  refine lv_iinc (v := 8) (lv' := [(1, .int 8), (0, .ref q0)]) hx hb dX12_image_43 hl (k := 0) rfl (by decide +kernel) (by decide) rfl (fun ls hl => ?_)
  refine lv_goto (tgt := 17) hx hb dX12_image_46 (by decide) ?_
  refine lv_iload_n hx hb dX12_image_17 rfl (lv_at hl 0 rfl) ?_
  refine lv_bipush (v := 57) hx hb dX12_image_18 (by decide) ?_
  refine lv_icmp_ge (tgt := 49) hx hb dX12_image_20 (by decide) (fun h => absurd h (by decide)) (fun _ => ?_)
  refine lv_aload_n hx hb dX12_image_23 rfl (lv_at hl 1 rfl) ?_
  refine r_get C w 0 rfl fr_X12_44 rfl dX12_image_24 ?_
  refine lv_bipush (v := 57) hx hb dX12_image_27 (by decide) ?_
  refine lv_aload_n hx hb dX12_image_29 rfl (lv_at hl 1 rfl) ?_
  refine r_get C w 0 rfl fr_X12_283 rfl dX12_image_30 ?_
  refine lv_imul hx hb dX12_image_33 ?_
  refine z_i (v := 0) (by decide +kernel) ?_
  refine lv_iload_n hx hb dX12_image_34 rfl (lv_at hl 0 rfl) ?_
  refine lv_iadd hx hb dX12_image_35 ?_
  refine z_i (v := 8) (by decide +kernel) ?_
  refine lv_aload_n hx hb dX12_image_36 rfl (lv_at hl 1 rfl) ?_
  refine r_get C w 0 rfl fr_X12_41 rfl dX12_image_37 ?_
  refine lv_iload_n hx hb dX12_image_40 rfl (lv_at hl 0 rfl) ?_
  refine r_iald C w 1 rfl (IX.of (k := 8) (by decide +kernel)) (v := 0) rfl dX12_image_41 ?_
  refine r_iast C w 2 rfl (IX.of (k := 8) (by decide +kernel)) (g := (fun _ => 0)) (upd_c _ _) dX12_image_42 (ws2 := [(q0, .inr (12, [.int 0, .int 0, .int 0, .int 0, .int 0, .int 0, .int 0, .int (-1), .ref q3, .ref q4, .ref q5, .int 0, .ref q6, .ref q7, .ref q8, .ref q9, .ref q10, .ref q1, .ref q2, .int 0, .ref q11, .ref q12, .ref q13, .ref q14, .ref q15, .ref q16, .ref q17, .int 0, .int (-1), .int 0, .ref q18, .ref q19, .ref q20, .ref q21, .ref q22, .ref q23, .ref q24, .ref q25, .int 0, .ref q26, .ref q27, .ref q28, .ref q29, .ref q30, .int 0, .ref q31, .ref q32, .ref q33, .ref q34, .int 0, .ref q35, .ref q36, .ref q37, .ref q38, .int 0, .int 0, .ref q39, .ref q40, .ref q41, .ref q42])), (q1, .inl (G.2.1, 57, .inl (fun _ => 0))), (q2, .inl (G.2.1, 171, .inl (fun _ => 0)))]) rfl (fun H locs w => ?_)
  refine lv_iinc (v := 9) (lv' := [(1, .int 9), (0, .ref q0)]) hx hb dX12_image_43 hl (k := 0) rfl (by decide +kernel) (by decide) rfl (fun ls hl => ?_)
  refine lv_goto (tgt := 17) hx hb dX12_image_46 (by decide) ?_
  refine lv_iload_n hx hb dX12_image_17 rfl (lv_at hl 0 rfl) ?_
  refine lv_bipush (v := 57) hx hb dX12_image_18 (by decide) ?_
  refine lv_icmp_ge (tgt := 49) hx hb dX12_image_20 (by decide) (fun h => absurd h (by decide)) (fun _ => ?_)
  refine lv_aload_n hx hb dX12_image_23 rfl (lv_at hl 1 rfl) ?_
  refine r_get C w 0 rfl fr_X12_44 rfl dX12_image_24 ?_
  refine lv_bipush (v := 57) hx hb dX12_image_27 (by decide) ?_
  refine lv_aload_n hx hb dX12_image_29 rfl (lv_at hl 1 rfl) ?_
  refine r_get C w 0 rfl fr_X12_283 rfl dX12_image_30 ?_
  refine lv_imul hx hb dX12_image_33 ?_
  refine z_i (v := 0) (by decide +kernel) ?_
  refine lv_iload_n hx hb dX12_image_34 rfl (lv_at hl 0 rfl) ?_
  refine lv_iadd hx hb dX12_image_35 ?_
  refine z_i (v := 9) (by decide +kernel) ?_
  refine lv_aload_n hx hb dX12_image_36 rfl (lv_at hl 1 rfl) ?_
  refine r_get C w 0 rfl fr_X12_41 rfl dX12_image_37 ?_
  refine lv_iload_n hx hb dX12_image_40 rfl (lv_at hl 0 rfl) ?_
  refine r_iald C w 1 rfl (IX.of (k := 9) (by decide +kernel)) (v := 0) rfl dX12_image_41 ?_
  refine r_iast C w 2 rfl (IX.of (k := 9) (by decide +kernel)) (g := (fun _ => 0)) (upd_c _ _) dX12_image_42 (ws2 := [(q0, .inr (12, [.int 0, .int 0, .int 0, .int 0, .int 0, .int 0, .int 0, .int (-1), .ref q3, .ref q4, .ref q5, .int 0, .ref q6, .ref q7, .ref q8, .ref q9, .ref q10, .ref q1, .ref q2, .int 0, .ref q11, .ref q12, .ref q13, .ref q14, .ref q15, .ref q16, .ref q17, .int 0, .int (-1), .int 0, .ref q18, .ref q19, .ref q20, .ref q21, .ref q22, .ref q23, .ref q24, .ref q25, .int 0, .ref q26, .ref q27, .ref q28, .ref q29, .ref q30, .int 0, .ref q31, .ref q32, .ref q33, .ref q34, .int 0, .ref q35, .ref q36, .ref q37, .ref q38, .int 0, .int 0, .ref q39, .ref q40, .ref q41, .ref q42])), (q1, .inl (G.2.1, 57, .inl (fun _ => 0))), (q2, .inl (G.2.1, 171, .inl (fun _ => 0)))]) rfl (fun H locs w => ?_)
  refine lv_iinc (v := 10) (lv' := [(1, .int 10), (0, .ref q0)]) hx hb dX12_image_43 hl (k := 0) rfl (by decide +kernel) (by decide) rfl (fun ls hl => ?_)
  refine lv_goto (tgt := 17) hx hb dX12_image_46 (by decide) ?_
  refine lv_iload_n hx hb dX12_image_17 rfl (lv_at hl 0 rfl) ?_
  refine lv_bipush (v := 57) hx hb dX12_image_18 (by decide) ?_
  refine lv_icmp_ge (tgt := 49) hx hb dX12_image_20 (by decide) (fun h => absurd h (by decide)) (fun _ => ?_)
  refine lv_aload_n hx hb dX12_image_23 rfl (lv_at hl 1 rfl) ?_
  refine r_get C w 0 rfl fr_X12_44 rfl dX12_image_24 ?_
  refine lv_bipush (v := 57) hx hb dX12_image_27 (by decide) ?_
  refine lv_aload_n hx hb dX12_image_29 rfl (lv_at hl 1 rfl) ?_
  refine r_get C w 0 rfl fr_X12_283 rfl dX12_image_30 ?_
  refine lv_imul hx hb dX12_image_33 ?_
  refine z_i (v := 0) (by decide +kernel) ?_
  refine lv_iload_n hx hb dX12_image_34 rfl (lv_at hl 0 rfl) ?_
  refine lv_iadd hx hb dX12_image_35 ?_
  refine z_i (v := 10) (by decide +kernel) ?_
  refine lv_aload_n hx hb dX12_image_36 rfl (lv_at hl 1 rfl) ?_
  refine r_get C w 0 rfl fr_X12_41 rfl dX12_image_37 ?_
  refine lv_iload_n hx hb dX12_image_40 rfl (lv_at hl 0 rfl) ?_
  refine r_iald C w 1 rfl (IX.of (k := 10) (by decide +kernel)) (v := 0) rfl dX12_image_41 ?_
  refine r_iast C w 2 rfl (IX.of (k := 10) (by decide +kernel)) (g := (fun _ => 0)) (upd_c _ _) dX12_image_42 (ws2 := [(q0, .inr (12, [.int 0, .int 0, .int 0, .int 0, .int 0, .int 0, .int 0, .int (-1), .ref q3, .ref q4, .ref q5, .int 0, .ref q6, .ref q7, .ref q8, .ref q9, .ref q10, .ref q1, .ref q2, .int 0, .ref q11, .ref q12, .ref q13, .ref q14, .ref q15, .ref q16, .ref q17, .int 0, .int (-1), .int 0, .ref q18, .ref q19, .ref q20, .ref q21, .ref q22, .ref q23, .ref q24, .ref q25, .int 0, .ref q26, .ref q27, .ref q28, .ref q29, .ref q30, .int 0, .ref q31, .ref q32, .ref q33, .ref q34, .int 0, .ref q35, .ref q36, .ref q37, .ref q38, .int 0, .int 0, .ref q39, .ref q40, .ref q41, .ref q42])), (q1, .inl (G.2.1, 57, .inl (fun _ => 0))), (q2, .inl (G.2.1, 171, .inl (fun _ => 0)))]) rfl (fun H locs w => ?_)
  refine lv_iinc (v := 11) (lv' := [(1, .int 11), (0, .ref q0)]) hx hb dX12_image_43 hl (k := 0) rfl (by decide +kernel) (by decide) rfl (fun ls hl => ?_)
  refine lv_goto (tgt := 17) hx hb dX12_image_46 (by decide) ?_
  refine lv_iload_n hx hb dX12_image_17 rfl (lv_at hl 0 rfl) ?_
  refine lv_bipush (v := 57) hx hb dX12_image_18 (by decide) ?_
  refine lv_icmp_ge (tgt := 49) hx hb dX12_image_20 (by decide) (fun h => absurd h (by decide)) (fun _ => ?_)
  refine lv_aload_n hx hb dX12_image_23 rfl (lv_at hl 1 rfl) ?_
  refine r_get C w 0 rfl fr_X12_44 rfl dX12_image_24 ?_
  refine lv_bipush (v := 57) hx hb dX12_image_27 (by decide) ?_
  refine lv_aload_n hx hb dX12_image_29 rfl (lv_at hl 1 rfl) ?_
  refine r_get C w 0 rfl fr_X12_283 rfl dX12_image_30 ?_
  refine lv_imul hx hb dX12_image_33 ?_
  refine z_i (v := 0) (by decide +kernel) ?_
  refine lv_iload_n hx hb dX12_image_34 rfl (lv_at hl 0 rfl) ?_
  refine lv_iadd hx hb dX12_image_35 ?_
  refine z_i (v := 11) (by decide +kernel) ?_
  refine lv_aload_n hx hb dX12_image_36 rfl (lv_at hl 1 rfl) ?_
  refine r_get C w 0 rfl fr_X12_41 rfl dX12_image_37 ?_
  refine lv_iload_n hx hb dX12_image_40 rfl (lv_at hl 0 rfl) ?_
  refine r_iald C w 1 rfl (IX.of (k := 11) (by decide +kernel)) (v := 0) rfl dX12_image_41 ?_
  refine r_iast C w 2 rfl (IX.of (k := 11) (by decide +kernel)) (g := (fun _ => 0)) (upd_c _ _) dX12_image_42 (ws2 := [(q0, .inr (12, [.int 0, .int 0, .int 0, .int 0, .int 0, .int 0, .int 0, .int (-1), .ref q3, .ref q4, .ref q5, .int 0, .ref q6, .ref q7, .ref q8, .ref q9, .ref q10, .ref q1, .ref q2, .int 0, .ref q11, .ref q12, .ref q13, .ref q14, .ref q15, .ref q16, .ref q17, .int 0, .int (-1), .int 0, .ref q18, .ref q19, .ref q20, .ref q21, .ref q22, .ref q23, .ref q24, .ref q25, .int 0, .ref q26, .ref q27, .ref q28, .ref q29, .ref q30, .int 0, .ref q31, .ref q32, .ref q33, .ref q34, .int 0, .ref q35, .ref q36, .ref q37, .ref q38, .int 0, .int 0, .ref q39, .ref q40, .ref q41, .ref q42])), (q1, .inl (G.2.1, 57, .inl (fun _ => 0))), (q2, .inl (G.2.1, 171, .inl (fun _ => 0)))]) rfl (fun H locs w => ?_)
  refine lv_iinc (v := 12) (lv' := [(1, .int 12), (0, .ref q0)]) hx hb dX12_image_43 hl (k := 0) rfl (by decide +kernel) (by decide) rfl (fun ls hl => ?_)
  refine lv_goto (tgt := 17) hx hb dX12_image_46 (by decide) ?_
  refine lv_iload_n hx hb dX12_image_17 rfl (lv_at hl 0 rfl) ?_
  refine lv_bipush (v := 57) hx hb dX12_image_18 (by decide) ?_
  refine lv_icmp_ge (tgt := 49) hx hb dX12_image_20 (by decide) (fun h => absurd h (by decide)) (fun _ => ?_)
  refine lv_aload_n hx hb dX12_image_23 rfl (lv_at hl 1 rfl) ?_
  refine r_get C w 0 rfl fr_X12_44 rfl dX12_image_24 ?_
  refine lv_bipush (v := 57) hx hb dX12_image_27 (by decide) ?_
  refine lv_aload_n hx hb dX12_image_29 rfl (lv_at hl 1 rfl) ?_
  refine r_get C w 0 rfl fr_X12_283 rfl dX12_image_30 ?_
  refine lv_imul hx hb dX12_image_33 ?_
  refine z_i (v := 0) (by decide +kernel) ?_
  refine lv_iload_n hx hb dX12_image_34 rfl (lv_at hl 0 rfl) ?_
  refine lv_iadd hx hb dX12_image_35 ?_
  refine z_i (v := 12) (by decide +kernel) ?_
  refine lv_aload_n hx hb dX12_image_36 rfl (lv_at hl 1 rfl) ?_
  refine r_get C w 0 rfl fr_X12_41 rfl dX12_image_37 ?_
  refine lv_iload_n hx hb dX12_image_40 rfl (lv_at hl 0 rfl) ?_
  refine r_iald C w 1 rfl (IX.of (k := 12) (by decide +kernel)) (v := 0) rfl dX12_image_41 ?_
  refine r_iast C w 2 rfl (IX.of (k := 12) (by decide +kernel)) (g := (fun _ => 0)) (upd_c _ _) dX12_image_42 (ws2 := [(q0, .inr (12, [.int 0, .int 0, .int 0, .int 0, .int 0, .int 0, .int 0, .int (-1), .ref q3, .ref q4, .ref q5, .int 0, .ref q6, .ref q7, .ref q8, .ref q9, .ref q10, .ref q1, .ref q2, .int 0, .ref q11, .ref q12, .ref q13, .ref q14, .ref q15, .ref q16, .ref q17, .int 0, .int (-1), .int 0, .ref q18, .ref q19, .ref q20, .ref q21, .ref q22, .ref q23, .ref q24, .ref q25, .int 0, .ref q26, .ref q27, .ref q28, .ref q29, .ref q30, .int 0, .ref q31, .ref q32, .ref q33, .ref q34, .int 0, .ref q35, .ref q36, .ref q37, .ref q38, .int 0, .int 0, .ref q39, .ref q40, .ref q41, .ref q42])), (q1, .inl (G.2.1, 57, .inl (fun _ => 0))), (q2, .inl (G.2.1, 171, .inl (fun _ => 0)))]) rfl (fun H locs w => ?_)
  refine lv_iinc (v := 13) (lv' := [(1, .int 13), (0, .ref q0)]) hx hb dX12_image_43 hl (k := 0) rfl (by decide +kernel) (by decide) rfl (fun ls hl => ?_)
  refine lv_goto (tgt := 17) hx hb dX12_image_46 (by decide) ?_
  refine lv_iload_n hx hb dX12_image_17 rfl (lv_at hl 0 rfl) ?_
  refine lv_bipush (v := 57) hx hb dX12_image_18 (by decide) ?_
  refine lv_icmp_ge (tgt := 49) hx hb dX12_image_20 (by decide) (fun h => absurd h (by decide)) (fun _ => ?_)
  refine lv_aload_n hx hb dX12_image_23 rfl (lv_at hl 1 rfl) ?_
  refine r_get C w 0 rfl fr_X12_44 rfl dX12_image_24 ?_
  refine lv_bipush (v := 57) hx hb dX12_image_27 (by decide) ?_
  refine lv_aload_n hx hb dX12_image_29 rfl (lv_at hl 1 rfl) ?_
  refine r_get C w 0 rfl fr_X12_283 rfl dX12_image_30 ?_
  refine lv_imul hx hb dX12_image_33 ?_
  refine z_i (v := 0) (by decide +kernel) ?_
  refine lv_iload_n hx hb dX12_image_34 rfl (lv_at hl 0 rfl) ?_
  refine lv_iadd hx hb dX12_image_35 ?_
  refine z_i (v := 13) (by decide +kernel) ?_
  refine lv_aload_n hx hb dX12_image_36 rfl (lv_at hl 1 rfl) ?_
  refine r_get C w 0 rfl fr_X12_41 rfl dX12_image_37 ?_
  refine lv_iload_n hx hb dX12_image_40 rfl (lv_at hl 0 rfl) ?_
  refine r_iald C w 1 rfl (IX.of (k := 13) (by decide +kernel)) (v := 0) rfl dX12_image_41 ?_
  refine r_iast C w 2 rfl (IX.of (k := 13) (by decide +kernel)) (g := (fun _ => 0)) (upd_c _ _) dX12_image_42 (ws2 := [(q0, .inr (12, [.int 0, .int 0, .int 0, .int 0, .int 0, .int 0, .int 0, .int (-1), .ref q3, .ref q4, .ref q5, .int 0, .ref q6, .ref q7, .ref q8, .ref q9, .ref q10, .ref q1, .ref q2, .int 0, .ref q11, .ref q12, .ref q13, .ref q14, .ref q15, .ref q16, .ref q17, .int 0, .int (-1), .int 0, .ref q18, .ref q19, .ref q20, .ref q21, .ref q22, .ref q23, .ref q24, .ref q25, .int 0, .ref q26, .ref q27, .ref q28, .ref q29, .ref q30, .int 0, .ref q31, .ref q32, .ref q33, .ref q34, .int 0, .ref q35, .ref q36, .ref q37, .ref q38, .int 0, .int 0, .ref q39, .ref q40, .ref q41, .ref q42])), (q1, .inl (G.2.1, 57, .inl (fun _ => 0))), (q2, .inl (G.2.1, 171, .inl (fun _ => 0)))]) rfl (fun H locs w => ?_)
  refine lv_iinc (v := 14) (lv' := [(1, .int 14), (0, .ref q0)]) hx hb dX12_image_43 hl (k := 0) rfl (by decide +kernel) (by decide) rfl (fun ls hl => ?_)
  refine lv_goto (tgt := 17) hx hb dX12_image_46 (by decide) ?_
  refine lv_iload_n hx hb dX12_image_17 rfl (lv_at hl 0 rfl) ?_
  refine lv_bipush (v := 57) hx hb dX12_image_18 (by decide) ?_
  refine lv_icmp_ge (tgt := 49) hx hb dX12_image_20 (by decide) (fun h => absurd h (by decide)) (fun _ => ?_)
  refine lv_aload_n hx hb dX12_image_23 rfl (lv_at hl 1 rfl) ?_
  refine r_get C w 0 rfl fr_X12_44 rfl dX12_image_24 ?_
  refine lv_bipush (v := 57) hx hb dX12_image_27 (by decide) ?_
  refine lv_aload_n hx hb dX12_image_29 rfl (lv_at hl 1 rfl) ?_
  refine r_get C w 0 rfl fr_X12_283 rfl dX12_image_30 ?_
  refine lv_imul hx hb dX12_image_33 ?_
  refine z_i (v := 0) (by decide +kernel) ?_
  refine lv_iload_n hx hb dX12_image_34 rfl (lv_at hl 0 rfl) ?_
  refine lv_iadd hx hb dX12_image_35 ?_
  refine z_i (v := 14) (by decide +kernel) ?_
  refine lv_aload_n hx hb dX12_image_36 rfl (lv_at hl 1 rfl) ?_
  refine r_get C w 0 rfl fr_X12_41 rfl dX12_image_37 ?_
  refine lv_iload_n hx hb dX12_image_40 rfl (lv_at hl 0 rfl) ?_
  refine r_iald C w 1 rfl (IX.of (k := 14) (by decide +kernel)) (v := 0) rfl dX12_image_41 ?_
  refine r_iast C w 2 rfl (IX.of (k := 14) (by decide +kernel)) (g := (fun _ => 0)) (upd_c _ _) dX12_image_42 (ws2 := [(q0, .inr (12, [.int 0, .int 0, .int 0, .int 0, .int 0, .int 0, .int 0, .int (-1), .ref q3, .ref q4, .ref q5, .int 0, .ref q6, .ref q7, .ref q8, .ref q9, .ref q10, .ref q1, .ref q2, .int 0, .ref q11, .ref q12, .ref q13, .ref q14, .ref q15, .ref q16, .ref q17, .int 0, .int (-1), .int 0, .ref q18, .ref q19, .ref q20, .ref q21, .ref q22, .ref q23, .ref q24, .ref q25, .int 0, .ref q26, .ref q27, .ref q28, .ref q29, .ref q30, .int 0, .ref q31, .ref q32, .ref q33, .ref q34, .int 0, .ref q35, .ref q36, .ref q37, .ref q38, .int 0, .int 0, .ref q39, .ref q40, .ref q41, .ref q42])), (q1, .inl (G.2.1, 57, .inl (fun _ => 0))), (q2, .inl (G.2.1, 171, .inl (fun _ => 0)))]) rfl (fun H locs w => ?_)
  refine lv_iinc (v := 15) (lv' := [(1, .int 15), (0, .ref q0)]) hx hb dX12_image_43 hl (k := 0) rfl (by decide +kernel) (by decide) rfl (fun ls hl => ?_)
  refine lv_goto (tgt := 17) hx hb dX12_image_46 (by decide) ?_
  refine lv_iload_n hx hb dX12_image_17 rfl (lv_at hl 0 rfl) ?_
  refine lv_bipush (v := 57) hx hb dX12_image_18 (by decide) ?_
  refine lv_icmp_ge (tgt := 49) hx hb dX12_image_20 (by decide) (fun h => absurd h (by decide)) (fun _ => ?_)
  refine lv_aload_n hx hb dX12_image_23 rfl (lv_at hl 1 rfl) ?_
  refine r_get C w 0 rfl fr_X12_44 rfl dX12_image_24 ?_
  refine lv_bipush (v := 57) hx hb dX12_image_27 (by decide) ?_
  refine lv_aload_n hx hb dX12_image_29 rfl (lv_at hl 1 rfl) ?_
  refine r_get C w 0 rfl fr_X12_283 rfl dX12_image_30 ?_
  refine lv_imul hx hb dX12_image_33 ?_
  refine z_i (v := 0) (by decide +kernel) ?_
  refine lv_iload_n hx hb dX12_image_34 rfl (lv_at hl 0 rfl) ?_
  refine lv_iadd hx hb dX12_image_35 ?_
  refine z_i (v := 15) (by decide +kernel) ?_
  refine lv_aload_n hx hb dX12_image_36 rfl (lv_at hl 1 rfl) ?_
  refine r_get C w 0 rfl fr_X12_41 rfl dX12_image_37 ?_
  refine lv_iload_n hx hb dX12_image_40 rfl (lv_at hl 0 rfl) ?_
  refine r_iald C w 1 rfl (IX.of (k := 15) (by decide +kernel)) (v := 0) rfl dX12_image_41 ?_
  refine r_iast C w 2 rfl (IX.of (k := 15) (by decide +kernel)) (g := (fun _ => 0)) (upd_c _ _) dX12_image_42 (ws2 := [(q0, .inr (12, [.int 0, .int 0, .int 0, .int 0, .int 0, .int 0, .int 0, .int (-1), .ref q3, .ref q4, .ref q5, .int 0, .ref q6, .ref q7, .ref q8, .ref q9, .ref q10, .ref q1, .ref q2, .int 0, .ref q11, .ref q12, .ref q13, .ref q14, .ref q15, .ref q16, .ref q17, .int 0, .int (-1), .int 0, .ref q18, .ref q19, .ref q20, .ref q21, .ref q22, .ref q23, .ref q24, .ref q25, .int 0, .ref q26, .ref q27, .ref q28, .ref q29, .ref q30, .int 0, .ref q31, .ref q32, .ref q33, .ref q34, .int 0, .ref q35, .ref q36, .ref q37, .ref q38, .int 0, .int 0, .ref q39, .ref q40, .ref q41, .ref q42])), (q1, .inl (G.2.1, 57, .inl (fun _ => 0))), (q2, .inl (G.2.1, 171, .inl (fun _ => 0)))]) rfl (fun H locs w => ?_)
  refine lv_iinc (v := 16) (lv' := [(1, .int 16), (0, .ref q0)]) hx hb dX12_image_43 hl (k := 0) rfl (by decide +kernel) (by decide) rfl (fun ls hl => ?_)
  refine lv_goto (tgt := 17) hx hb dX12_image_46 (by decide) ?_
  refine lv_iload_n hx hb dX12_image_17 rfl (lv_at hl 0 rfl) ?_
  refine lv_bipush (v := 57) hx hb dX12_image_18 (by decide) ?_
  refine lv_icmp_ge (tgt := 49) hx hb dX12_image_20 (by decide) (fun h => absurd h (by decide)) (fun _ => ?_)
  refine lv_aload_n hx hb dX12_image_23 rfl (lv_at hl 1 rfl) ?_
  refine r_get C w 0 rfl fr_X12_44 rfl dX12_image_24 ?_
  refine lv_bipush (v := 57) hx hb dX12_image_27 (by decide) ?_
  refine lv_aload_n hx hb dX12_image_29 rfl (lv_at hl 1 rfl) ?_
  refine r_get C w 0 rfl fr_X12_283 rfl dX12_image_30 ?_
  refine lv_imul hx hb dX12_image_33 ?_
  refine z_i (v := 0) (by decide +kernel) ?_
  refine lv_iload_n hx hb dX12_image_34 rfl (lv_at hl 0 rfl) ?_
  refine lv_iadd hx hb dX12_image_35 ?_
  refine z_i (v := 16) (by decide +kernel) ?_
  refine lv_aload_n hx hb dX12_image_36 rfl (lv_at hl 1 rfl) ?_
  refine r_get C w 0 rfl fr_X12_41 rfl dX12_image_37 ?_
  refine lv_iload_n hx hb dX12_image_40 rfl (lv_at hl 0 rfl) ?_
  refine r_iald C w 1 rfl (IX.of (k := 16) (by decide +kernel)) (v := 0) rfl dX12_image_41 ?_
  refine r_iast C w 2 rfl (IX.of (k := 16) (by decide +kernel)) (g := (fun _ => 0)) (upd_c _ _) dX12_image_42 (ws2 := [(q0, .inr (12, [.int 0, .int 0, .int 0, .int 0, .int 0, .int 0, .int 0, .int (-1), .ref q3, .ref q4, .ref q5, .int 0, .ref q6, .ref q7, .ref q8, .ref q9, .ref q10, .ref q1, .ref q2, .int 0, .ref q11, .ref q12, .ref q13, .ref q14, .ref q15, .ref q16, .ref q17, .int 0, .int (-1), .int 0, .ref q18, .ref q19, .ref q20, .ref q21, .ref q22, .ref q23, .ref q24, .ref q25, .int 0, .ref q26, .ref q27, .ref q28, .ref q29, .ref q30, .int 0, .ref q31, .ref q32, .ref q33, .ref q34, .int 0, .ref q35, .ref q36, .ref q37, .ref q38, .int 0, .int 0, .ref q39, .ref q40, .ref q41, .ref q42])), (q1, .inl (G.2.1, 57, .inl (fun _ => 0))), (q2, .inl (G.2.1, 171, .inl (fun _ => 0)))]) rfl (fun H locs w => ?_)
  refine lv_iinc (v := 17) (lv' := [(1, .int 17), (0, .ref q0)]) hx hb dX12_image_43 hl (k := 0) rfl (by decide +kernel) (by decide) rfl (fun ls hl => ?_)
  refine lv_goto (tgt := 17) hx hb dX12_image_46 (by decide) ?_
  refine lv_iload_n hx hb dX12_image_17 rfl (lv_at hl 0 rfl) ?_
  refine lv_bipush (v := 57) hx hb dX12_image_18 (by decide) ?_
  refine lv_icmp_ge (tgt := 49) hx hb dX12_image_20 (by decide) (fun h => absurd h (by decide)) (fun _ => ?_)
  refine lv_aload_n hx hb dX12_image_23 rfl (lv_at hl 1 rfl) ?_
  refine r_get C w 0 rfl fr_X12_44 rfl dX12_image_24 ?_
  refine lv_bipush (v := 57) hx hb dX12_image_27 (by decide) ?_
  refine lv_aload_n hx hb dX12_image_29 rfl (lv_at hl 1 rfl) ?_
  refine r_get C w 0 rfl fr_X12_283 rfl dX12_image_30 ?_
  refine lv_imul hx hb dX12_image_33 ?_
  refine z_i (v := 0) (by decide +kernel) ?_
  refine lv_iload_n hx hb dX12_image_34 rfl (lv_at hl 0 rfl) ?_
  refine lv_iadd hx hb dX12_image_35 ?_
  refine z_i (v := 17) (by decide +kernel) ?_
  refine lv_aload_n hx hb dX12_image_36 rfl (lv_at hl 1 rfl) ?_
  refine r_get C w 0 rfl fr_X12_41 rfl dX12_image_37 ?_
  refine lv_iload_n hx hb dX12_image_40 rfl (lv_at hl 0 rfl) ?_
  refine r_iald C w 1 rfl (IX.of (k := 17) (by decide +kernel)) (v := 0) rfl dX12_image_41 ?_
  refine r_iast C w 2 rfl (IX.of (k := 17) (by decide +kernel)) (g := (fun _ => 0)) (upd_c _ _) dX12_image_42 (ws2 := [(q0, .inr (12, [.int 0, .int 0, .int 0, .int 0, .int 0, .int 0, .int 0, .int (-1), .ref q3, .ref q4, .ref q5, .int 0, .ref q6, .ref q7, .ref q8, .ref q9, .ref q10, .ref q1, .ref q2, .int 0, .ref q11, .ref q12, .ref q13, .ref q14, .ref q15, .ref q16, .ref q17, .int 0, .int (-1), .int 0, .ref q18, .ref q19, .ref q20, .ref q21, .ref q22, .ref q23, .ref q24, .ref q25, .int 0, .ref q26, .ref q27, .ref q28, .ref q29, .ref q30, .int 0, .ref q31, .ref q32, .ref q33, .ref q34, .int 0, .ref q35, .ref q36, .ref q37, .ref q38, .int 0, .int 0, .ref q39, .ref q40, .ref q41, .ref q42])), (q1, .inl (G.2.1, 57, .inl (fun _ => 0))), (q2, .inl (G.2.1, 171, .inl (fun _ => 0)))]) rfl (fun H locs w => ?_)
  refine lv_iinc (v := 18) (lv' := [(1, .int 18), (0, .ref q0)]) hx hb dX12_image_43 hl (k := 0) rfl (by decide +kernel) (by decide) rfl (fun ls hl => ?_)
  refine lv_goto (tgt := 17) hx hb dX12_image_46 (by decide) ?_
  refine lv_iload_n hx hb dX12_image_17 rfl (lv_at hl 0 rfl) ?_
  refine lv_bipush (v := 57) hx hb dX12_image_18 (by decide) ?_
  refine lv_icmp_ge (tgt := 49) hx hb dX12_image_20 (by decide) (fun h => absurd h (by decide)) (fun _ => ?_)
  refine lv_aload_n hx hb dX12_image_23 rfl (lv_at hl 1 rfl) ?_
  refine r_get C w 0 rfl fr_X12_44 rfl dX12_image_24 ?_
  refine lv_bipush (v := 57) hx hb dX12_image_27 (by decide) ?_
  refine lv_aload_n hx hb dX12_image_29 rfl (lv_at hl 1 rfl) ?_
  refine r_get C w 0 rfl fr_X12_283 rfl dX12_image_30 ?_
  refine lv_imul hx hb dX12_image_33 ?_
  refine z_i (v := 0) (by decide +kernel) ?_
  refine lv_iload_n hx hb dX12_image_34 rfl (lv_at hl 0 rfl) ?_
  refine lv_iadd hx hb dX12_image_35 ?_
  refine z_i (v := 18) (by decide +kernel) ?_
  refine lv_aload_n hx hb dX12_image_36 rfl (lv_at hl 1 rfl) ?_
  refine r_get C w 0 rfl fr_X12_41 rfl dX12_image_37 ?_
  refine lv_iload_n hx hb dX12_image_40 rfl (lv_at hl 0 rfl) ?_
  refine r_iald C w 1 rfl (IX.of (k := 18) (by decide +kernel)) (v := 0) rfl dX12_image_41 ?_
  refine r_iast C w 2 rfl (IX.of (k := 18) (by decide +kernel)) (g := (fun _ => 0)) (upd_c _ _) dX12_image_42 (ws2 := [(q0, .inr (12, [.int 0, .int 0, .int 0, .int 0, .int 0, .int 0, .int 0, .int (-1), .ref q3, .ref q4, .ref q5, .int 0, .ref q6, .ref q7, .ref q8, .ref q9, .ref q10, .ref q1, .ref q2, .int 0, .ref q11, .ref q12, .ref q13, .ref q14, .ref q15, .ref q16, .ref q17, .int 0, .int (-1), .int 0, .ref q18, .ref q19, .ref q20, .ref q21, .ref q22, .ref q23, .ref q24, .ref q25, .int 0, .ref q26, .ref q27, .ref q28, .ref q29, .ref q30, .int 0, .ref q31, .ref q32, .ref q33, .ref q34, .int 0, .ref q35, .ref q36, .ref q37, .ref q38, .int 0, .int 0, .ref q39, .ref q40, .ref q41, .ref q42])), (q1, .inl (G.2.1, 57, .inl (fun _ => 0))), (q2, .inl (G.2.1, 171, .inl (fun _ => 0)))]) rfl (fun H locs w => ?_)
  refine lv_iinc (v := 19) (lv' := [(1, .int 19), (0, .ref q0)]) hx hb dX12_image_43 hl (k := 0) rfl (by decide +kernel) (by decide) rfl (fun ls hl => ?_)
  refine lv_goto (tgt := 17) hx hb dX12_image_46 (by decide) ?_
  refine lv_iload_n hx hb dX12_image_17 rfl (lv_at hl 0 rfl) ?_
  refine lv_bipush (v := 57) hx hb dX12_image_18 (by decide) ?_
  refine lv_icmp_ge (tgt := 49) hx hb dX12_image_20 (by decide) (fun h => absurd h (by decide)) (fun _ => ?_)
  refine lv_aload_n hx hb dX12_image_23 rfl (lv_at hl 1 rfl) ?_
  refine r_get C w 0 rfl fr_X12_44 rfl dX12_image_24 ?_
  refine lv_bipush (v := 57) hx hb dX12_image_27 (by decide) ?_
  refine lv_aload_n hx hb dX12_image_29 rfl (lv_at hl 1 rfl) ?_
  refine r_get C w 0 rfl fr_X12_283 rfl dX12_image_30 ?_
  refine lv_imul hx hb dX12_image_33 ?_
  refine z_i (v := 0) (by decide +kernel) ?_
  refine lv_iload_n hx hb dX12_image_34 rfl (lv_at hl 0 rfl) ?_
  refine lv_iadd hx hb dX12_image_35 ?_
  refine z_i (v := 19) (by decide +kernel) ?_
  refine lv_aload_n hx hb dX12_image_36 rfl (lv_at hl 1 rfl) ?_
  refine r_get C w 0 rfl fr_X12_41 rfl dX12_image_37 ?_
  refine lv_iload_n hx hb dX12_image_40 rfl (lv_at hl 0 rfl) ?_
  refine r_iald C w 1 rfl (IX.of (k := 19) (by decide +kernel)) (v := 0) rfl dX12_image_41 ?_
  refine r_iast C w 2 rfl (IX.of (k := 19) (by decide +kernel)) (g := (fun _ => 0)) (upd_c _ _) dX12_image_42 (ws2 := [(q0, .inr (12, [.int 0, .int 0, .int 0, .int 0, .int 0, .int 0, .int 0, .int (-1), .ref q3, .ref q4, .ref q5, .int 0, .ref q6, .ref q7, .ref q8, .ref q9, .ref q10, .ref q1, .ref q2, .int 0, .ref q11, .ref q12, .ref q13, .ref q14, .ref q15, .ref q16, .ref q17, .int 0, .int (-1), .int 0, .ref q18, .ref q19, .ref q20, .ref q21, .ref q22, .ref q23, .ref q24, .ref q25, .int 0, .ref q26, .ref q27, .ref q28, .ref q29, .ref q30, .int 0, .ref q31, .ref q32, .ref q33, .ref q34, .int 0, .ref q35, .ref q36, .ref q37, .ref q38, .int 0, .int 0, .ref q39, .ref q40, .ref q41, .ref q42])), (q1, .inl (G.2.1, 57, .inl (fun _ => 0))), (q2, .inl (G.2.1, 171, .inl (fun _ => 0)))]) rfl (fun H locs w => ?_)
  refine lv_iinc (v := 20) (lv' := [(1, .int 20), (0, .ref q0)]) hx hb dX12_image_43 hl (k := 0) rfl (by decide +kernel) (by decide) rfl (fun ls hl => ?_)
  refine lv_goto (tgt := 17) hx hb dX12_image_46 (by decide) ?_
  refine lv_iload_n hx hb dX12_image_17 rfl (lv_at hl 0 rfl) ?_
  refine lv_bipush (v := 57) hx hb dX12_image_18 (by decide) ?_
  refine lv_icmp_ge (tgt := 49) hx hb dX12_image_20 (by decide) (fun h => absurd h (by decide)) (fun _ => ?_)
  refine lv_aload_n hx hb dX12_image_23 rfl (lv_at hl 1 rfl) ?_
  refine r_get C w 0 rfl fr_X12_44 rfl dX12_image_24 ?_
  refine lv_bipush (v := 57) hx hb dX12_image_27 (by decide) ?_
  refine lv_aload_n hx hb dX12_image_29 rfl (lv_at hl 1 rfl) ?_
  refine r_get C w 0 rfl fr_X12_283 rfl dX12_image_30 ?_
  refine lv_imul hx hb dX12_image_33 ?_
  refine z_i (v := 0) (by decide +kernel) ?_
  refine lv_iload_n hx hb dX12_image_34 rfl (lv_at hl 0 rfl) ?_
  refine lv_iadd hx hb dX12_image_35 ?_
  refine z_i (v := 20) (by decide +kernel) ?_
  refine lv_aload_n hx hb dX12_image_36 rfl (lv_at hl 1 rfl) ?_
  refine r_get C w 0 rfl fr_X12_41 rfl dX12_image_37 ?_
  refine lv_iload_n hx hb dX12_image_40 rfl (lv_at hl 0 rfl) ?_
  refine r_iald C w 1 rfl (IX.of (k := 20) (by decide +kernel)) (v := 0) rfl dX12_image_41 ?_
  refine r_iast C w 2 rfl (IX.of (k := 20) (by decide +kernel)) (g := (fun _ => 0)) (upd_c _ _) dX12_image_42 (ws2 := [(q0, .inr (12, [.int 0, .int 0, .int 0, .int 0, .int 0, .int 0, .int 0, .int (-1), .ref q3, .ref q4, .ref q5, .int 0, .ref q6, .ref q7, .ref q8, .ref q9, .ref q10, .ref q1, .ref q2, .int 0, .ref q11, .ref q12, .ref q13, .ref q14, .ref q15, .ref q16, .ref q17, .int 0, .int (-1), .int 0, .ref q18, .ref q19, .ref q20, .ref q21, .ref q22, .ref q23, .ref q24, .ref q25, .int 0, .ref q26, .ref q27, .ref q28, .ref q29, .ref q30, .int 0, .ref q31, .ref q32, .ref q33, .ref q34, .int 0, .ref q35, .ref q36, .ref q37, .ref q38, .int 0, .int 0, .ref q39, .ref q40, .ref q41, .ref q42])), (q1, .inl (G.2.1, 57, .inl (fun _ => 0))), (q2, .inl (G.2.1, 171, .inl (fun _ => 0)))]) rfl (fun H locs w => ?_)
  refine lv_iinc (v := 21) (lv' := [(1, .int 21), (0, .ref q0)]) hx hb dX12_image_43 hl (k := 0) rfl (by decide +kernel) (by decide) rfl (fun ls hl => ?_)
  refine lv_goto (tgt := 17) hx hb dX12_image_46 (by decide) ?_
  refine lv_iload_n hx hb dX12_image_17 rfl (lv_at hl 0 rfl) ?_
  refine lv_bipush (v := 57) hx hb dX12_image_18 (by decide) ?_
  refine lv_icmp_ge (tgt := 49) hx hb dX12_image_20 (by decide) (fun h => absurd h (by decide)) (fun _ => ?_)
  refine lv_aload_n hx hb dX12_image_23 rfl (lv_at hl 1 rfl) ?_
  refine r_get C w 0 rfl fr_X12_44 rfl dX12_image_24 ?_
  refine lv_bipush (v := 57) hx hb dX12_image_27 (by decide) ?_
  refine lv_aload_n hx hb dX12_image_29 rfl (lv_at hl 1 rfl) ?_
  refine r_get C w 0 rfl fr_X12_283 rfl dX12_image_30 ?_
  refine lv_imul hx hb dX12_image_33 ?_
  refine z_i (v := 0) (by decide +kernel) ?_
  refine lv_iload_n hx hb dX12_image_34 rfl (lv_at hl 0 rfl) ?_
  refine lv_iadd hx hb dX12_image_35 ?_
  refine z_i (v := 21) (by decide +kernel) ?_
  refine lv_aload_n hx hb dX12_image_36 rfl (lv_at hl 1 rfl) ?_
  refine r_get C w 0 rfl fr_X12_41 rfl dX12_image_37 ?_
  refine lv_iload_n hx hb dX12_image_40 rfl (lv_at hl 0 rfl) ?_
  refine r_iald C w 1 rfl (IX.of (k := 21) (by decide +kernel)) (v := 0) rfl dX12_image_41 ?_
  refine r_iast C w 2 rfl (IX.of (k := 21) (by decide +kernel)) (g := (fun _ => 0)) (upd_c _ _) dX12_image_42 (ws2 := [(q0, .inr (12, [.int 0, .int 0, .int 0, .int 0, .int 0, .int 0, .int 0, .int (-1), .ref q3, .ref q4, .ref q5, .int 0, .ref q6, .ref q7, .ref q8, .ref q9, .ref q10, .ref q1, .ref q2, .int 0, .ref q11, .ref q12, .ref q13, .ref q14, .ref q15, .ref q16, .ref q17, .int 0, .int (-1), .int 0, .ref q18, .ref q19, .ref q20, .ref q21, .ref q22, .ref q23, .ref q24, .ref q25, .int 0, .ref q26, .ref q27, .ref q28, .ref q29, .ref q30, .int 0, .ref q31, .ref q32, .ref q33, .ref q34, .int 0, .ref q35, .ref q36, .ref q37, .ref q38, .int 0, .int 0, .ref q39, .ref q40, .ref q41, .ref q42])), (q1, .inl (G.2.1, 57, .inl (fun _ => 0))), (q2, .inl (G.2.1, 171, .inl (fun _ => 0)))]) rfl (fun H locs w => ?_)
  refine lv_iinc (v := 22) (lv' := [(1, .int 22), (0, .ref q0)]) hx hb dX12_image_43 hl (k := 0) rfl (by decide +kernel) (by decide) rfl (fun ls hl => ?_)
  refine lv_goto (tgt := 17) hx hb dX12_image_46 (by decide) ?_
  refine lv_iload_n hx hb dX12_image_17 rfl (lv_at hl 0 rfl) ?_
  refine lv_bipush (v := 57) hx hb dX12_image_18 (by decide) ?_
  refine lv_icmp_ge (tgt := 49) hx hb dX12_image_20 (by decide) (fun h => absurd h (by decide)) (fun _ => ?_)
  refine lv_aload_n hx hb dX12_image_23 rfl (lv_at hl 1 rfl) ?_
  refine r_get C w 0 rfl fr_X12_44 rfl dX12_image_24 ?_
  refine lv_bipush (v := 57) hx hb dX12_image_27 (by decide) ?_
  refine lv_aload_n hx hb dX12_image_29 rfl (lv_at hl 1 rfl) ?_
  refine r_get C w 0 rfl fr_X12_283 rfl dX12_image_30 ?_
  refine lv_imul hx hb dX12_image_33 ?_
  refine z_i (v := 0) (by decide +kernel) ?_
  refine lv_iload_n hx hb dX12_image_34 rfl (lv_at hl 0 rfl) ?_
  refine lv_iadd hx hb dX12_image_35 ?_
  refine z_i (v := 22) (by decide +kernel) ?_
  refine lv_aload_n hx hb dX12_image_36 rfl (lv_at hl 1 rfl) ?_
  refine r_get C w 0 rfl fr_X12_41 rfl dX12_image_37 ?_
  refine lv_iload_n hx hb dX12_image_40 rfl (lv_at hl 0 rfl) ?_
  refine r_iald C w 1 rfl (IX.of (k := 22) (by decide +kernel)) (v := 0) rfl dX12_image_41 ?_
  refine r_iast C w 2 rfl (IX.of (k := 22) (by decide +kernel)) (g := (fun _ => 0)) (upd_c _ _) dX12_image_42 (ws2 := [(q0, .inr (12, [.int 0, .int 0, .int 0, .int 0, .int 0, .int 0, .int 0, .int (-1), .ref q3, .ref q4, .ref q5, .int 0, .ref q6, .ref q7, .ref q8, .ref q9, .ref q10, .ref q1, .ref q2, .int 0, .ref q11, .ref q12, .ref q13, .ref q14, .ref q15, .ref q16, .ref q17, .int 0, .int (-1), .int 0, .ref q18, .ref q19, .ref q20, .ref q21, .ref q22, .ref q23, .ref q24, .ref q25, .int 0, .ref q26, .ref q27, .ref q28, .ref q29, .ref q30, .int 0, .ref q31, .ref q32, .ref q33, .ref q34, .int 0, .ref q35, .ref q36, .ref q37, .ref q38, .int 0, .int 0, .ref q39, .ref q40, .ref q41, .ref q42])), (q1, .inl (G.2.1, 57, .inl (fun _ => 0))), (q2, .inl (G.2.1, 171, .inl (fun _ => 0)))]) rfl (fun H locs w => ?_)
  refine lv_iinc (v := 23) (lv' := [(1, .int 23), (0, .ref q0)]) hx hb dX12_image_43 hl (k := 0) rfl (by decide +kernel) (by decide) rfl (fun ls hl => ?_)
  refine lv_goto (tgt := 17) hx hb dX12_image_46 (by decide) ?_
  refine lv_iload_n hx hb dX12_image_17 rfl (lv_at hl 0 rfl) ?_
  refine lv_bipush (v := 57) hx hb dX12_image_18 (by decide) ?_
  refine lv_icmp_ge (tgt := 49) hx hb dX12_image_20 (by decide) (fun h => absurd h (by decide)) (fun _ => ?_)
  refine lv_aload_n hx hb dX12_image_23 rfl (lv_at hl 1 rfl) ?_
  refine r_get C w 0 rfl fr_X12_44 rfl dX12_image_24 ?_
  refine lv_bipush (v := 57) hx hb dX12_image_27 (by decide) ?_
  refine lv_aload_n hx hb dX12_image_29 rfl (lv_at hl 1 rfl) ?_
  refine r_get C w 0 rfl fr_X12_283 rfl dX12_image_30 ?_
  refine lv_imul hx hb dX12_image_33 ?_
  refine z_i (v := 0) (by decide +kernel) ?_
  refine lv_iload_n hx hb dX12_image_34 rfl (lv_at hl 0 rfl) ?_
  refine lv_iadd hx hb dX12_image_35 ?_
  refine z_i (v := 23) (by decide +kernel) ?_
  refine lv_aload_n hx hb dX12_image_36 rfl (lv_at hl 1 rfl) ?_
  refine r_get C w 0 rfl fr_X12_41 rfl dX12_image_37 ?_
  refine lv_iload_n hx hb dX12_image_40 rfl (lv_at hl 0 rfl) ?_
  refine r_iald C w 1 rfl (IX.of (k := 23) (by decide +kernel)) (v := 0) rfl dX12_image_41 ?_
  refine r_iast C w 2 rfl (IX.of (k := 23) (by decide +kernel)) (g := (fun _ => 0)) (upd_c _ _) dX12_image_42 (ws2 := [(q0, .inr (12, [.int 0, .int 0, .int 0, .int 0, .int 0, .int 0, .int 0, .int (-1), .ref q3, .ref q4, .ref q5, .int 0, .ref q6, .ref q7, .ref q8, .ref q9, .ref q10, .ref q1, .ref q2, .int 0, .ref q11, .ref q12, .ref q13, .ref q14, .ref q15, .ref q16, .ref q17, .int 0, .int (-1), .int 0, .ref q18, .ref q19, .ref q20, .ref q21, .ref q22, .ref q23, .ref q24, .ref q25, .int 0, .ref q26, .ref q27, .ref q28, .ref q29, .ref q30, .int 0, .ref q31, .ref q32, .ref q33, .ref q34, .int 0, .ref q35, .ref q36, .ref q37, .ref q38, .int 0, .int 0, .ref q39, .ref q40, .ref q41, .ref q42])), (q1, .inl (G.2.1, 57, .inl (fun _ => 0))), (q2, .inl (G.2.1, 171, .inl (fun _ => 0)))]) rfl (fun H locs w => ?_)
  refine lv_iinc (v := 24) (lv' := [(1, .int 24), (0, .ref q0)]) hx hb dX12_image_43 hl (k := 0) rfl (by decide +kernel) (by decide) rfl (fun ls hl => ?_)
  refine lv_goto (tgt := 17) hx hb dX12_image_46 (by decide) ?_
  refine lv_iload_n hx hb dX12_image_17 rfl (lv_at hl 0 rfl) ?_
  refine lv_bipush (v := 57) hx hb dX12_image_18 (by decide) ?_
  refine lv_icmp_ge (tgt := 49) hx hb dX12_image_20 (by decide) (fun h => absurd h (by decide)) (fun _ => ?_)
  refine lv_aload_n hx hb dX12_image_23 rfl (lv_at hl 1 rfl) ?_
  refine r_get C w 0 rfl fr_X12_44 rfl dX12_image_24 ?_
  refine lv_bipush (v := 57) hx hb dX12_image_27 (by decide) ?_
  refine lv_aload_n hx hb dX12_image_29 rfl (lv_at hl 1 rfl) ?_
  refine r_get C w 0 rfl fr_X12_283 rfl dX12_image_30 ?_
  refine lv_imul hx hb dX12_image_33 ?_
  refine z_i (v := 0) (by decide +kernel) ?_
  refine lv_iload_n hx hb dX12_image_34 rfl (lv_at hl 0 rfl) ?_
  refine lv_iadd hx hb dX12_image_35 ?_
  refine z_i (v := 24) (by decide +kernel) ?_
  refine lv_aload_n hx hb dX12_image_36 rfl (lv_at hl 1 rfl) ?_
  refine r_get C w 0 rfl fr_X12_41 rfl dX12_image_37 ?_
  refine lv_iload_n hx hb dX12_image_40 rfl (lv_at hl 0 rfl) ?_
  refine r_iald C w 1 rfl (IX.of (k := 24) (by decide +kernel)) (v := 0) rfl dX12_image_41 ?_
  refine r_iast C w 2 rfl (IX.of (k := 24) (by decide +kernel)) (g := (fun _ => 0)) (upd_c _ _) dX12_image_42 (ws2 := [(q0, .inr (12, [.int 0, .int 0, .int 0, .int 0, .int 0, .int 0, .int 0, .int (-1), .ref q3, .ref q4, .ref q5, .int 0, .ref q6, .ref q7, .ref q8, .ref q9, .ref q10, .ref q1, .ref q2, .int 0, .ref q11, .ref q12, .ref q13, .ref q14, .ref q15, .ref q16, .ref q17, .int 0, .int (-1), .int 0, .ref q18, .ref q19, .ref q20, .ref q21, .ref q22, .ref q23, .ref q24, .ref q25, .int 0, .ref q26, .ref q27, .ref q28, .ref q29, .ref q30, .int 0, .ref q31, .ref q32, .ref q33, .ref q34, .int 0, .ref q35, .ref q36, .ref q37, .ref q38, .int 0, .int 0, .ref q39, .ref q40, .ref q41, .ref q42])), (q1, .inl (G.2.1, 57, .inl (fun _ => 0))), (q2, .inl (G.2.1, 171, .inl (fun _ => 0)))]) rfl (fun H locs w => ?_)
  refine lv_iinc (v := 25) (lv' := [(1, .int 25), (0, .ref q0)]) hx hb dX12_image_43 hl (k := 0) rfl (by decide +kernel) (by decide) rfl (fun ls hl => ?_)
  refine lv_goto (tgt := 17) hx hb dX12_image_46 (by decide) ?_
  refine lv_iload_n hx hb dX12_image_17 rfl (lv_at hl 0 rfl) ?_
  refine lv_bipush (v := 57) hx hb dX12_image_18 (by decide) ?_
  refine lv_icmp_ge (tgt := 49) hx hb dX12_image_20 (by decide) (fun h => absurd h (by decide)) (fun _ => ?_)
  refine lv_aload_n hx hb dX12_image_23 rfl (lv_at hl 1 rfl) ?_
  refine r_get C w 0 rfl fr_X12_44 rfl dX12_image_24 ?_
  refine lv_bipush (v := 57) hx hb dX12_image_27 (by decide) ?_
  refine lv_aload_n hx hb dX12_image_29 rfl (lv_at hl 1 rfl) ?_
  refine r_get C w 0 rfl fr_X12_283 rfl dX12_image_30 ?_
  refine lv_imul hx hb dX12_image_33 ?_
  refine z_i (v := 0) (by decide +kernel) ?_
  refine lv_iload_n hx hb dX12_image_34 rfl (lv_at hl 0 rfl) ?_
  refine lv_iadd hx hb dX12_image_35 ?_
  refine z_i (v := 25) (by decide +kernel) ?_
  refine lv_aload_n hx hb dX12_image_36 rfl (lv_at hl 1 rfl) ?_
  refine r_get C w 0 rfl fr_X12_41 rfl dX12_image_37 ?_
  refine lv_iload_n hx hb dX12_image_40 rfl (lv_at hl 0 rfl) ?_
  refine r_iald C w 1 rfl (IX.of (k := 25) (by decide +kernel)) (v := 0) rfl dX12_image_41 ?_
  refine r_iast C w 2 rfl (IX.of (k := 25) (by decide +kernel)) (g := (fun _ => 0)) (upd_c _ _) dX12_image_42 (ws2 := [(q0, .inr (12, [.int 0, .int 0, .int 0, .int 0, .int 0, .int 0, .int 0, .int (-1), .ref q3, .ref q4, .ref q5, .int 0, .ref q6, .ref q7, .ref q8, .ref q9, .ref q10, .ref q1, .ref q2, .int 0, .ref q11, .ref q12, .ref q13, .ref q14, .ref q15, .ref q16, .ref q17, .int 0, .int (-1), .int 0, .ref q18, .ref q19, .ref q20, .ref q21, .ref q22, .ref q23, .ref q24, .ref q25, .int 0, .ref q26, .ref q27, .ref q28, .ref q29, .ref q30, .int 0, .ref q31, .ref q32, .ref q33, .ref q34, .int 0, .ref q35, .ref q36, .ref q37, .ref q38, .int 0, .int 0, .ref q39, .ref q40, .ref q41, .ref q42])), (q1, .inl (G.2.1, 57, .inl (fun _ => 0))), (q2, .inl (G.2.1, 171, .inl (fun _ => 0)))]) rfl (fun H locs w => ?_)
  refine lv_iinc (v := 26) (lv' := [(1, .int 26), (0, .ref q0)]) hx hb dX12_image_43 hl (k := 0) rfl (by decide +kernel) (by decide) rfl (fun ls hl => ?_)
  refine lv_goto (tgt := 17) hx hb dX12_image_46 (by decide) ?_
  refine lv_iload_n hx hb dX12_image_17 rfl (lv_at hl 0 rfl) ?_
  refine lv_bipush (v := 57) hx hb dX12_image_18 (by decide) ?_
  refine lv_icmp_ge (tgt := 49) hx hb dX12_image_20 (by decide) (fun h => absurd h (by decide)) (fun _ => ?_)
  refine lv_aload_n hx hb dX12_image_23 rfl (lv_at hl 1 rfl) ?_
  refine r_get C w 0 rfl fr_X12_44 rfl dX12_image_24 ?_
  refine lv_bipush (v := 57) hx hb dX12_image_27 (by decide) ?_
  refine lv_aload_n hx hb dX12_image_29 rfl (lv_at hl 1 rfl) ?_
  refine r_get C w 0 rfl fr_X12_283 rfl dX12_image_30 ?_
  refine lv_imul hx hb dX12_image_33 ?_
  refine z_i (v := 0) (by decide +kernel) ?_
  refine lv_iload_n hx hb dX12_image_34 rfl (lv_at hl 0 rfl) ?_
  refine lv_iadd hx hb dX12_image_35 ?_
  refine z_i (v := 26) (by decide +kernel) ?_
  refine lv_aload_n hx hb dX12_image_36 rfl (lv_at hl 1 rfl) ?_
  refine r_get C w 0 rfl fr_X12_41 rfl dX12_image_37 ?_
  refine lv_iload_n hx hb dX12_image_40 rfl (lv_at hl 0 rfl) ?_
  refine r_iald C w 1 rfl (IX.of (k := 26) (by decide +kernel)) (v := 0) rfl dX12_image_41 ?_
  refine r_iast C w 2 rfl (IX.of (k := 26) (by decide +kernel)) (g := (fun _ => 0)) (upd_c _ _) dX12_image_42 (ws2 := [(q0, .inr (12, [.int 0, .int 0, .int 0, .int 0, .int 0, .int 0, .int 0, .int (-1), .ref q3, .ref q4, .ref q5, .int 0, .ref q6, .ref q7, .ref q8, .ref q9, .ref q10, .ref q1, .ref q2, .int 0, .ref q11, .ref q12, .ref q13, .ref q14, .ref q15, .ref q16, .ref q17, .int 0, .int (-1), .int 0, .ref q18, .ref q19, .ref q20, .ref q21, .ref q22, .ref q23, .ref q24, .ref q25, .int 0, .ref q26, .ref q27, .ref q28, .ref q29, .ref q30, .int 0, .ref q31, .ref q32, .ref q33, .ref q34, .int 0, .ref q35, .ref q36, .ref q37, .ref q38, .int 0, .int 0, .ref q39, .ref q40, .ref q41, .ref q42])), (q1, .inl (G.2.1, 57, .inl (fun _ => 0))), (q2, .inl (G.2.1, 171, .inl (fun _ => 0)))]) rfl (fun H locs w => ?_)
  refine lv_iinc (v := 27) (lv' := [(1, .int 27), (0, .ref q0)]) hx hb dX12_image_43 hl (k := 0) rfl (by decide +kernel) (by decide) rfl (fun ls hl => ?_)
  refine lv_goto (tgt := 17) hx hb dX12_image_46 (by decide) ?_
  refine lv_iload_n hx hb dX12_image_17 rfl (lv_at hl 0 rfl) ?_
  refine lv_bipush (v := 57) hx hb dX12_image_18 (by decide) ?_
  refine lv_icmp_ge (tgt := 49) hx hb dX12_image_20 (by decide) (fun h => absurd h (by decide)) (fun _ => ?_)
  refine lv_aload_n hx hb dX12_image_23 rfl (lv_at hl 1 rfl) ?_
  refine r_get C w 0 rfl fr_X12_44 rfl dX12_image_24 ?_
  refine lv_bipush (v := 57) hx hb dX12_image_27 (by decide) ?_
  refine lv_aload_n hx hb dX12_image_29 rfl (lv_at hl 1 rfl) ?_
  refine r_get C w 0 rfl fr_X12_283 rfl dX12_image_30 ?_
  refine lv_imul hx hb dX12_image_33 ?_
  refine z_i (v := 0) (by decide +kernel) ?_
  refine lv_iload_n hx hb dX12_image_34 rfl (lv_at hl 0 rfl) ?_
  refine lv_iadd hx hb dX12_image_35 ?_
  refine z_i (v := 27) (by decide +kernel) ?_
  refine lv_aload_n hx hb dX12_image_36 rfl (lv_at hl 1 rfl) ?_
  refine r_get C w 0 rfl fr_X12_41 rfl dX12_image_37 ?_
  refine lv_iload_n hx hb dX12_image_40 rfl (lv_at hl 0 rfl) ?_
  refine r_iald C w 1 rfl (IX.of (k := 27) (by decide +kernel)) (v := 0) rfl dX12_image_41 ?_
  refine r_iast C w 2 rfl (IX.of (k := 27) (by decide +kernel)) (g := (fun _ => 0)) (upd_c _ _) dX12_image_42 (ws2 := [(q0, .inr (12, [.int 0, .int 0, .int 0, .int 0, .int 0, .int 0, .int 0, .int (-1), .ref q3, .ref q4, .ref q5, .int 0, .ref q6, .ref q7, .ref q8, .ref q9, .ref q10, .ref q1, .ref q2, .int 0, .ref q11, .ref q12, .ref q13, .ref q14, .ref q15, .ref q16, .ref q17, .int 0, .int (-1), .int 0, .ref q18, .ref q19, .ref q20, .ref q21, .ref q22, .ref q23, .ref q24, .ref q25, .int 0, .ref q26, .ref q27, .ref q28, .ref q29, .ref q30, .int 0, .ref q31, .ref q32, .ref q33, .ref q34, .int 0, .ref q35, .ref q36, .ref q37, .ref q38, .int 0, .int 0, .ref q39, .ref q40, .ref q41, .ref q42])), (q1, .inl (G.2.1, 57, .inl (fun _ => 0))), (q2, .inl (G.2.1, 171, .inl (fun _ => 0)))]) rfl (fun H locs w => ?_)
  refine lv_iinc (v := 28) (lv' := [(1, .int 28), (0, .ref q0)]) hx hb dX12_image_43 hl (k := 0) rfl (by decide +kernel) (by decide) rfl (fun ls hl => ?_)
  refine lv_goto (tgt := 17) hx hb dX12_image_46 (by decide) ?_
  refine lv_iload_n hx hb dX12_image_17 rfl (lv_at hl 0 rfl) ?_
  refine lv_bipush (v := 57) hx hb dX12_image_18 (by decide) ?_
  refine lv_icmp_ge (tgt := 49) hx hb dX12_image_20 (by decide) (fun h => absurd h (by decide)) (fun _ => ?_)
  refine lv_aload_n hx hb dX12_image_23 rfl (lv_at hl 1 rfl) ?_
  refine r_get C w 0 rfl fr_X12_44 rfl dX12_image_24 ?_
  refine lv_bipush (v := 57) hx hb dX12_image_27 (by decide) ?_
  refine lv_aload_n hx hb dX12_image_29 rfl (lv_at hl 1 rfl) ?_
  refine r_get C w 0 rfl fr_X12_283 rfl dX12_image_30 ?_
  refine lv_imul hx hb dX12_image_33 ?_
  refine z_i (v := 0) (by decide +kernel) ?_
  refine lv_iload_n hx hb dX12_image_34 rfl (lv_at hl 0 rfl) ?_
  refine lv_iadd hx hb dX12_image_35 ?_
  refine z_i (v := 28) (by decide +kernel) ?_
  refine lv_aload_n hx hb dX12_image_36 rfl (lv_at hl 1 rfl) ?_
  refine r_get C w 0 rfl fr_X12_41 rfl dX12_image_37 ?_
  refine lv_iload_n hx hb dX12_image_40 rfl (lv_at hl 0 rfl) ?_
  refine r_iald C w 1 rfl (IX.of (k := 28) (by decide +kernel)) (v := 0) rfl dX12_image_41 ?_
  refine r_iast C w 2 rfl (IX.of (k := 28) (by decide +kernel)) (g := (fun _ => 0)) (upd_c _ _) dX12_image_42 (ws2 := [(q0, .inr (12, [.int 0, .int 0, .int 0, .int 0, .int 0, .int 0, .int 0, .int (-1), .ref q3, .ref q4, .ref q5, .int 0, .ref q6, .ref q7, .ref q8, .ref q9, .ref q10, .ref q1, .ref q2, .int 0, .ref q11, .ref q12, .ref q13, .ref q14, .ref q15, .ref q16, .ref q17, .int 0, .int (-1), .int 0, .ref q18, .ref q19, .ref q20, .ref q21, .ref q22, .ref q23, .ref q24, .ref q25, .int 0, .ref q26, .ref q27, .ref q28, .ref q29, .ref q30, .int 0, .ref q31, .ref q32, .ref q33, .ref q34, .int 0, .ref q35, .ref q36, .ref q37, .ref q38, .int 0, .int 0, .ref q39, .ref q40, .ref q41, .ref q42])), (q1, .inl (G.2.1, 57, .inl (fun _ => 0))), (q2, .inl (G.2.1, 171, .inl (fun _ => 0)))]) rfl (fun H locs w => ?_)
  refine lv_iinc (v := 29) (lv' := [(1, .int 29), (0, .ref q0)]) hx hb dX12_image_43 hl (k := 0) rfl (by decide +kernel) (by decide) rfl (fun ls hl => ?_)
  refine lv_goto (tgt := 17) hx hb dX12_image_46 (by decide) ?_
  refine lv_iload_n hx hb dX12_image_17 rfl (lv_at hl 0 rfl) ?_
  refine lv_bipush (v := 57) hx hb dX12_image_18 (by decide) ?_
  refine lv_icmp_ge (tgt := 49) hx hb dX12_image_20 (by decide) (fun h => absurd h (by decide)) (fun _ => ?_)
  refine lv_aload_n hx hb dX12_image_23 rfl (lv_at hl 1 rfl) ?_
  refine r_get C w 0 rfl fr_X12_44 rfl dX12_image_24 ?_
  refine lv_bipush (v := 57) hx hb dX12_image_27 (by decide) ?_
  refine lv_aload_n hx hb dX12_image_29 rfl (lv_at hl 1 rfl) ?_
  refine r_get C w 0 rfl fr_X12_283 rfl dX12_image_30 ?_
  refine lv_imul hx hb dX12_image_33 ?_
  refine z_i (v := 0) (by decide +kernel) ?_
  refine lv_iload_n hx hb dX12_image_34 rfl (lv_at hl 0 rfl) ?_
  refine lv_iadd hx hb dX12_image_35 ?_
  refine z_i (v := 29) (by decide +kernel) ?_
  refine lv_aload_n hx hb dX12_image_36 rfl (lv_at hl 1 rfl) ?_
  refine r_get C w 0 rfl fr_X12_41 rfl dX12_image_37 ?_
  refine lv_iload_n hx hb dX12_image_40 rfl (lv_at hl 0 rfl) ?_
  refine r_iald C w 1 rfl (IX.of (k := 29) (by decide +kernel)) (v := 0) rfl dX12_image_41 ?_
  refine r_iast C w 2 rfl (IX.of (k := 29) (by decide +kernel)) (g := (fun _ => 0)) (upd_c _ _) dX12_image_42 (ws2 := [(q0, .inr (12, [.int 0, .int 0, .int 0, .int 0, .int 0, .int 0, .int 0, .int (-1), .ref q3, .ref q4, .ref q5, .int 0, .ref q6, .ref q7, .ref q8, .ref q9, .ref q10, .ref q1, .ref q2, .int 0, .ref q11, .ref q12, .ref q13, .ref q14, .ref q15, .ref q16, .ref q17, .int 0, .int (-1), .int 0, .ref q18, .ref q19, .ref q20, .ref q21, .ref q22, .ref q23, .ref q24, .ref q25, .int 0, .ref q26, .ref q27, .ref q28, .ref q29, .ref q30, .int 0, .ref q31, .ref q32, .ref q33, .ref q34, .int 0, .ref q35, .ref q36, .ref q37, .ref q38, .int 0, .int 0, .ref q39, .ref q40, .ref q41, .ref q42])), (q1, .inl (G.2.1, 57, .inl (fun _ => 0))), (q2, .inl (G.2.1, 171, .inl (fun _ => 0)))]) rfl (fun H locs w => ?_)
  refine lv_iinc (v := 30) (lv' := [(1, .int 30), (0, .ref q0)]) hx hb dX12_image_43 hl (k := 0) rfl (by decide +kernel) (by decide) rfl (fun ls hl => ?_)
  refine lv_goto (tgt := 17) hx hb dX12_image_46 (by decide) ?_
  refine lv_iload_n hx hb dX12_image_17 rfl (lv_at hl 0 rfl) ?_
  refine lv_bipush (v := 57) hx hb dX12_image_18 (by decide) ?_
  refine lv_icmp_ge (tgt := 49) hx hb dX12_image_20 (by decide) (fun h => absurd h (by decide)) (fun _ => ?_)
  refine lv_aload_n hx hb dX12_image_23 rfl (lv_at hl 1 rfl) ?_
  refine r_get C w 0 rfl fr_X12_44 rfl dX12_image_24 ?_
  refine lv_bipush (v := 57) hx hb dX12_image_27 (by decide) ?_
  refine lv_aload_n hx hb dX12_image_29 rfl (lv_at hl 1 rfl) ?_
  refine r_get C w 0 rfl fr_X12_283 rfl dX12_image_30 ?_
  refine lv_imul hx hb dX12_image_33 ?_
  refine z_i (v := 0) (by decide +kernel) ?_
  refine lv_iload_n hx hb dX12_image_34 rfl (lv_at hl 0 rfl) ?_
  refine lv_iadd hx hb dX12_image_35 ?_
  refine z_i (v := 30) (by decide +kernel) ?_
  refine lv_aload_n hx hb dX12_image_36 rfl (lv_at hl 1 rfl) ?_
  refine r_get C w 0 rfl fr_X12_41 rfl dX12_image_37 ?_
  refine lv_iload_n hx hb dX12_image_40 rfl (lv_at hl 0 rfl) ?_
  refine r_iald C w 1 rfl (IX.of (k := 30) (by decide +kernel)) (v := 0) rfl dX12_image_41 ?_
  refine r_iast C w 2 rfl (IX.of (k := 30) (by decide +kernel)) (g := (fun _ => 0)) (upd_c _ _) dX12_image_42 (ws2 := [(q0, .inr (12, [.int 0, .int 0, .int 0, .int 0, .int 0, .int 0, .int 0, .int (-1), .ref q3, .ref q4, .ref q5, .int 0, .ref q6, .ref q7, .ref q8, .ref q9, .ref q10, .ref q1, .ref q2, .int 0, .ref q11, .ref q12, .ref q13, .ref q14, .ref q15, .ref q16, .ref q17, .int 0, .int (-1), .int 0, .ref q18, .ref q19, .ref q20, .ref q21, .ref q22, .ref q23, .ref q24, .ref q25, .int 0, .ref q26, .ref q27, .ref q28, .ref q29, .ref q30, .int 0, .ref q31, .ref q32, .ref q33, .ref q34, .int 0, .ref q35, .ref q36, .ref q37, .ref q38, .int 0, .int 0, .ref q39, .ref q40, .ref q41, .ref q42])), (q1, .inl (G.2.1, 57, .inl (fun _ => 0))), (q2, .inl (G.2.1, 171, .inl (fun _ => 0)))]) rfl (fun H locs w => ?_)
  refine lv_iinc (v := 31) (lv' := [(1, .int 31), (0, .ref q0)]) hx hb dX12_image_43 hl (k := 0) rfl (by decide +kernel) (by decide) rfl (fun ls hl => ?_)
  refine lv_goto (tgt := 17) hx hb dX12_image_46 (by decide) ?_
  refine lv_iload_n hx hb dX12_image_17 rfl (lv_at hl 0 rfl) ?_
  refine lv_bipush (v := 57) hx hb dX12_image_18 (by decide) ?_
  refine lv_icmp_ge (tgt := 49) hx hb dX12_image_20 (by decide) (fun h => absurd h (by decide)) (fun _ => ?_)
  refine lv_aload_n hx hb dX12_image_23 rfl (lv_at hl 1 rfl) ?_
  refine r_get C w 0 rfl fr_X12_44 rfl dX12_image_24 ?_
  refine lv_bipush (v := 57) hx hb dX12_image_27 (by decide) ?_
  refine lv_aload_n hx hb dX12_image_29 rfl (lv_at hl 1 rfl) ?_
  refine r_get C w 0 rfl fr_X12_283 rfl dX12_image_30 ?_
  refine lv_imul hx hb dX12_image_33 ?_
  refine z_i (v := 0) (by decide +kernel) ?_
  refine lv_iload_n hx hb dX12_image_34 rfl (lv_at hl 0 rfl) ?_
  refine lv_iadd hx hb dX12_image_35 ?_
  refine z_i (v := 31) (by decide +kernel) ?_
  refine lv_aload_n hx hb dX12_image_36 rfl (lv_at hl 1 rfl) ?_
  refine r_get C w 0 rfl fr_X12_41 rfl dX12_image_37 ?_
  refine lv_iload_n hx hb dX12_image_40 rfl (lv_at hl 0 rfl) ?_
  refine r_iald C w 1 rfl (IX.of (k := 31) (by decide +kernel)) (v := 0) rfl dX12_image_41 ?_
  refine r_iast C w 2 rfl (IX.of (k := 31) (by decide +kernel)) (g := (fun _ => 0)) (upd_c _ _) dX12_image_42 (ws2 := [(q0, .inr (12, [.int 0, .int 0, .int 0, .int 0, .int 0, .int 0, .int 0, .int (-1), .ref q3, .ref q4, .ref q5, .int 0, .ref q6, .ref q7, .ref q8, .ref q9, .ref q10, .ref q1, .ref q2, .int 0, .ref q11, .ref q12, .ref q13, .ref q14, .ref q15, .ref q16, .ref q17, .int 0, .int (-1), .int 0, .ref q18, .ref q19, .ref q20, .ref q21, .ref q22, .ref q23, .ref q24, .ref q25, .int 0, .ref q26, .ref q27, .ref q28, .ref q29, .ref q30, .int 0, .ref q31, .ref q32, .ref q33, .ref q34, .int 0, .ref q35, .ref q36, .ref q37, .ref q38, .int 0, .int 0, .ref q39, .ref q40, .ref q41, .ref q42])), (q1, .inl (G.2.1, 57, .inl (fun _ => 0))), (q2, .inl (G.2.1, 171, .inl (fun _ => 0)))]) rfl (fun H locs w => ?_)
  refine lv_iinc (v := 32) (lv' := [(1, .int 32), (0, .ref q0)]) hx hb dX12_image_43 hl (k := 0) rfl (by decide +kernel) (by decide) rfl (fun ls hl => ?_)
  refine lv_goto (tgt := 17) hx hb dX12_image_46 (by decide) ?_
  refine lv_iload_n hx hb dX12_image_17 rfl (lv_at hl 0 rfl) ?_
  refine lv_bipush (v := 57) hx hb dX12_image_18 (by decide) ?_
  refine lv_icmp_ge (tgt := 49) hx hb dX12_image_20 (by decide) (fun h => absurd h (by decide)) (fun _ => ?_)
  refine lv_aload_n hx hb dX12_image_23 rfl (lv_at hl 1 rfl) ?_
  refine r_get C w 0 rfl fr_X12_44 rfl dX12_image_24 ?_
  refine lv_bipush (v := 57) hx hb dX12_image_27 (by decide) ?_
  refine lv_aload_n hx hb dX12_image_29 rfl (lv_at hl 1 rfl) ?_
  refine r_get C w 0 rfl fr_X12_283 rfl dX12_image_30 ?_
  refine lv_imul hx hb dX12_image_33 ?_
  refine z_i (v := 0) (by decide +kernel) ?_
  refine lv_iload_n hx hb dX12_image_34 rfl (lv_at hl 0 rfl) ?_
  refine lv_iadd hx hb dX12_image_35 ?_
  refine z_i (v := 32) (by decide +kernel) ?_
  refine lv_aload_n hx hb dX12_image_36 rfl (lv_at hl 1 rfl) ?_
  refine r_get C w 0 rfl fr_X12_41 rfl dX12_image_37 ?_
  refine lv_iload_n hx hb dX12_image_40 rfl (lv_at hl 0 rfl) ?_
  refine r_iald C w 1 rfl (IX.of (k := 32) (by decide +kernel)) (v := 0) rfl dX12_image_41 ?_
  refine r_iast C w 2 rfl (IX.of (k := 32) (by decide +kernel)) (g := (fun _ => 0)) (upd_c _ _) dX12_image_42 (ws2 := [(q0, .inr (12, [.int 0, .int 0, .int 0, .int 0, .int 0, .int 0, .int 0, .int (-1), .ref q3, .ref q4, .ref q5, .int 0, .ref q6, .ref q7, .ref q8, .ref q9, .ref q10, .ref q1, .ref q2, .int 0, .ref q11, .ref q12, .ref q13, .ref q14, .ref q15, .ref q16, .ref q17, .int 0, .int (-1), .int 0, .ref q18, .ref q19, .ref q20, .ref q21, .ref q22, .ref q23, .ref q24, .ref q25, .int 0, .ref q26, .ref q27, .ref q28, .ref q29, .ref q30, .int 0, .ref q31, .ref q32, .ref q33, .ref q34, .int 0, .ref q35, .ref q36, .ref q37, .ref q38, .int 0, .int 0, .ref q39, .ref q40, .ref q41, .ref q42])), (q1, .inl (G.2.1, 57, .inl (fun _ => 0))), (q2, .inl (G.2.1, 171, .inl (fun _ => 0)))]) rfl (fun H locs w => ?_)
  refine lv_iinc (v := 33) (lv' := [(1, .int 33), (0, .ref q0)]) hx hb dX12_image_43 hl (k := 0) rfl (by decide +kernel) (by decide) rfl (fun ls hl => ?_)
  refine lv_goto (tgt := 17) hx hb dX12_image_46 (by decide) ?_
  refine lv_iload_n hx hb dX12_image_17 rfl (lv_at hl 0 rfl) ?_
  refine lv_bipush (v := 57) hx hb dX12_image_18 (by decide) ?_
  refine lv_icmp_ge (tgt := 49) hx hb dX12_image_20 (by decide) (fun h => absurd h (by decide)) (fun _ => ?_)
  refine lv_aload_n hx hb dX12_image_23 rfl (lv_at hl 1 rfl) ?_
  refine r_get C w 0 rfl fr_X12_44 rfl dX12_image_24 ?_
  refine lv_bipush (v := 57) hx hb dX12_image_27 (by decide) ?_
  refine lv_aload_n hx hb dX12_image_29 rfl (lv_at hl 1 rfl) ?_
  refine r_get C w 0 rfl fr_X12_283 rfl dX12_image_30 ?_
  refine lv_imul hx hb dX12_image_33 ?_
  refine z_i (v := 0) (by decide +kernel) ?_
  refine lv_iload_n hx hb dX12_image_34 rfl (lv_at hl 0 rfl) ?_
  refine lv_iadd hx hb dX12_image_35 ?_
  refine z_i (v := 33) (by decide +kernel) ?_
  refine lv_aload_n hx hb dX12_image_36 rfl (lv_at hl 1 rfl) ?_
  refine r_get C w 0 rfl fr_X12_41 rfl dX12_image_37 ?_
  refine lv_iload_n hx hb dX12_image_40 rfl (lv_at hl 0 rfl) ?_
  refine r_iald C w 1 rfl (IX.of (k := 33) (by decide +kernel)) (v := 0) rfl dX12_image_41 ?_
  refine r_iast C w 2 rfl (IX.of (k := 33) (by decide +kernel)) (g := (fun _ => 0)) (upd_c _ _) dX12_image_42 (ws2 := [(q0, .inr (12, [.int 0, .int 0, .int 0, .int 0, .int 0, .int 0, .int 0, .int (-1), .ref q3, .ref q4, .ref q5, .int 0, .ref q6, .ref q7, .ref q8, .ref q9, .ref q10, .ref q1, .ref q2, .int 0, .ref q11, .ref q12, .ref q13, .ref q14, .ref q15, .ref q16, .ref q17, .int 0, .int (-1), .int 0, .ref q18, .ref q19, .ref q20, .ref q21, .ref q22, .ref q23, .ref q24, .ref q25, .int 0, .ref q26, .ref q27, .ref q28, .ref q29, .ref q30, .int 0, .ref q31, .ref q32, .ref q33, .ref q34, .int 0, .ref q35, .ref q36, .ref q37, .ref q38, .int 0, .int 0, .ref q39, .ref q40, .ref q41, .ref q42])), (q1, .inl (G.2.1, 57, .inl (fun _ => 0))), (q2, .inl (G.2.1, 171, .inl (fun _ => 0)))]) rfl (fun H locs w => ?_)
  refine lv_iinc (v := 34) (lv' := [(1, .int 34), (0, .ref q0)]) hx hb dX12_image_43 hl (k := 0) rfl (by decide +kernel) (by decide) rfl (fun ls hl => ?_)
  refine lv_goto (tgt := 17) hx hb dX12_image_46 (by decide) ?_
  refine lv_iload_n hx hb dX12_image_17 rfl (lv_at hl 0 rfl) ?_
  refine lv_bipush (v := 57) hx hb dX12_image_18 (by decide) ?_
  refine lv_icmp_ge (tgt := 49) hx hb dX12_image_20 (by decide) (fun h => absurd h (by decide)) (fun _ => ?_)
  refine lv_aload_n hx hb dX12_image_23 rfl (lv_at hl 1 rfl) ?_
  refine r_get C w 0 rfl fr_X12_44 rfl dX12_image_24 ?_
  refine lv_bipush (v := 57) hx hb dX12_image_27 (by decide) ?_
  refine lv_aload_n hx hb dX12_image_29 rfl (lv_at hl 1 rfl) ?_
  refine r_get C w 0 rfl fr_X12_283 rfl dX12_image_30 ?_
  refine lv_imul hx hb dX12_image_33 ?_
  refine z_i (v := 0) (by decide +kernel) ?_
  refine lv_iload_n hx hb dX12_image_34 rfl (lv_at hl 0 rfl) ?_
  refine lv_iadd hx hb dX12_image_35 ?_
  refine z_i (v := 34) (by decide +kernel) ?_
  refine lv_aload_n hx hb dX12_image_36 rfl (lv_at hl 1 rfl) ?_
  refine r_get C w 0 rfl fr_X12_41 rfl dX12_image_37 ?_
  refine lv_iload_n hx hb dX12_image_40 rfl (lv_at hl 0 rfl) ?_
  refine r_iald C w 1 rfl (IX.of (k := 34) (by decide +kernel)) (v := 0) rfl dX12_image_41 ?_
  refine r_iast C w 2 rfl (IX.of (k := 34) (by decide +kernel)) (g := (fun _ => 0)) (upd_c _ _) dX12_image_42 (ws2 := [(q0, .inr (12, [.int 0, .int 0, .int 0, .int 0, .int 0, .int 0, .int 0, .int (-1), .ref q3, .ref q4, .ref q5, .int 0, .ref q6, .ref q7, .ref q8, .ref q9, .ref q10, .ref q1, .ref q2, .int 0, .ref q11, .ref q12, .ref q13, .ref q14, .ref q15, .ref q16, .ref q17, .int 0, .int (-1), .int 0, .ref q18, .ref q19, .ref q20, .ref q21, .ref q22, .ref q23, .ref q24, .ref q25, .int 0, .ref q26, .ref q27, .ref q28, .ref q29, .ref q30, .int 0, .ref q31, .ref q32, .ref q33, .ref q34, .int 0, .ref q35, .ref q36, .ref q37, .ref q38, .int 0, .int 0, .ref q39, .ref q40, .ref q41, .ref q42])), (q1, .inl (G.2.1, 57, .inl (fun _ => 0))), (q2, .inl (G.2.1, 171, .inl (fun _ => 0)))]) rfl (fun H locs w => ?_)
  refine lv_iinc (v := 35) (lv' := [(1, .int 35), (0, .ref q0)]) hx hb dX12_image_43 hl (k := 0) rfl (by decide +kernel) (by decide) rfl (fun ls hl => ?_)
  refine lv_goto (tgt := 17) hx hb dX12_image_46 (by decide) ?_
  refine lv_iload_n hx hb dX12_image_17 rfl (lv_at hl 0 rfl) ?_
  refine lv_bipush (v := 57) hx hb dX12_image_18 (by decide) ?_
  refine lv_icmp_ge (tgt := 49) hx hb dX12_image_20 (by decide) (fun h => absurd h (by decide)) (fun _ => ?_)
  refine lv_aload_n hx hb dX12_image_23 rfl (lv_at hl 1 rfl) ?_
  refine r_get C w 0 rfl fr_X12_44 rfl dX12_image_24 ?_
  refine lv_bipush (v := 57) hx hb dX12_image_27 (by decide) ?_
  refine lv_aload_n hx hb dX12_image_29 rfl (lv_at hl 1 rfl) ?_
  refine r_get C w 0 rfl fr_X12_283 rfl dX12_image_30 ?_
  refine lv_imul hx hb dX12_image_33 ?_
  refine z_i (v := 0) (by decide +kernel) ?_
  refine lv_iload_n hx hb dX12_image_34 rfl (lv_at hl 0 rfl) ?_
  refine lv_iadd hx hb dX12_image_35 ?_
  refine z_i (v := 35) (by decide +kernel) ?_
  refine lv_aload_n hx hb dX12_image_36 rfl (lv_at hl 1 rfl) ?_
  refine r_get C w 0 rfl fr_X12_41 rfl dX12_image_37 ?_
  refine lv_iload_n hx hb dX12_image_40 rfl (lv_at hl 0 rfl) ?_
  refine r_iald C w 1 rfl (IX.of (k := 35) (by decide +kernel)) (v := 0) rfl dX12_image_41 ?_
  refine r_iast C w 2 rfl (IX.of (k := 35) (by decide +kernel)) (g := (fun _ => 0)) (upd_c _ _) dX12_image_42 (ws2 := [(q0, .inr (12, [.int 0, .int 0, .int 0, .int 0, .int 0, .int 0, .int 0, .int (-1), .ref q3, .ref q4, .ref q5, .int 0, .ref q6, .ref q7, .ref q8, .ref q9, .ref q10, .ref q1, .ref q2, .int 0, .ref q11, .ref q12, .ref q13, .ref q14, .ref q15, .ref q16, .ref q17, .int 0, .int (-1), .int 0, .ref q18, .ref q19, .ref q20, .ref q21, .ref q22, .ref q23, .ref q24, .ref q25, .int 0, .ref q26, .ref q27, .ref q28, .ref q29, .ref q30, .int 0, .ref q31, .ref q32, .ref q33, .ref q34, .int 0, .ref q35, .ref q36, .ref q37, .ref q38, .int 0, .int 0, .ref q39, .ref q40, .ref q41, .ref q42])), (q1, .inl (G.2.1, 57, .inl (fun _ => 0))), (q2, .inl (G.2.1, 171, .inl (fun _ => 0)))]) rfl (fun H locs w => ?_)
  refine lv_iinc (v := 36) (lv' := [(1, .int 36), (0, .ref q0)]) hx hb dX12_image_43 hl (k := 0) rfl (by decide +kernel) (by decide) rfl (fun ls hl => ?_)
  refine lv_goto (tgt := 17) hx hb dX12_image_46 (by decide) ?_
  refine lv_iload_n hx hb dX12_image_17 rfl (lv_at hl 0 rfl) ?_
  refine lv_bipush (v := 57) hx hb dX12_image_18 (by decide) ?_
  refine lv_icmp_ge (tgt := 49) hx hb dX12_image_20 (by decide) (fun h => absurd h (by decide)) (fun _ => ?_)
  refine lv_aload_n hx hb dX12_image_23 rfl (lv_at hl 1 rfl) ?_
  refine r_get C w 0 rfl fr_X12_44 rfl dX12_image_24 ?_
  refine lv_bipush (v := 57) hx hb dX12_image_27 (by decide) ?_
  refine lv_aload_n hx hb dX12_image_29 rfl (lv_at hl 1 rfl) ?_
  refine r_get C w 0 rfl fr_X12_283 rfl dX12_image_30 ?_
  refine lv_imul hx hb dX12_image_33 ?_
  refine z_i (v := 0) (by decide +kernel) ?_
  refine lv_iload_n hx hb dX12_image_34 rfl (lv_at hl 0 rfl) ?_
  refine lv_iadd hx hb dX12_image_35 ?_
  refine z_i (v := 36) (by decide +kernel) ?_
  refine lv_aload_n hx hb dX12_image_36 rfl (lv_at hl 1 rfl) ?_
  refine r_get C w 0 rfl fr_X12_41 rfl dX12_image_37 ?_
  refine lv_iload_n hx hb dX12_image_40 rfl (lv_at hl 0 rfl) ?_
  refine r_iald C w 1 rfl (IX.of (k := 36) (by decide +kernel)) (v := 0) rfl dX12_image_41 ?_
  refine r_iast C w 2 rfl (IX.of (k := 36) (by decide +kernel)) (g := (fun _ => 0)) (upd_c _ _) dX12_image_42 (ws2 := [(q0, .inr (12, [.int 0, .int 0, .int 0, .int 0, .int 0, .int 0, .int 0, .int (-1), .ref q3, .ref q4, .ref q5, .int 0, .ref q6, .ref q7, .ref q8, .ref q9, .ref q10, .ref q1, .ref q2, .int 0, .ref q11, .ref q12, .ref q13, .ref q14, .ref q15, .ref q16, .ref q17, .int 0, .int (-1), .int 0, .ref q18, .ref q19, .ref q20, .ref q21, .ref q22, .ref q23, .ref q24, .ref q25, .int 0, .ref q26, .ref q27, .ref q28, .ref q29, .ref q30, .int 0, .ref q31, .ref q32, .ref q33, .ref q34, .int 0, .ref q35, .ref q36, .ref q37, .ref q38, .int 0, .int 0, .ref q39, .ref q40, .ref q41, .ref q42])), (q1, .inl (G.2.1, 57, .inl (fun _ => 0))), (q2, .inl (G.2.1, 171, .inl (fun _ => 0)))]) rfl (fun H locs w => ?_)
  refine lv_iinc (v := 37) (lv' := [(1, .int 37), (0, .ref q0)]) hx hb dX12_image_43 hl (k := 0) rfl (by decide +kernel) (by decide) rfl (fun ls hl => ?_)
  refine lv_goto (tgt := 17) hx hb dX12_image_46 (by decide) ?_
  refine lv_iload_n hx hb dX12_image_17 rfl (lv_at hl 0 rfl) ?_
  refine lv_bipush (v := 57) hx hb dX12_image_18 (by decide) ?_
  refine lv_icmp_ge (tgt := 49) hx hb dX12_image_20 (by decide) (fun h => absurd h (by decide)) (fun _ => ?_)
  refine lv_aload_n hx hb dX12_image_23 rfl (lv_at hl 1 rfl) ?_
  refine r_get C w 0 rfl fr_X12_44 rfl dX12_image_24 ?_
  refine lv_bipush (v := 57) hx hb dX12_image_27 (by decide) ?_
  refine lv_aload_n hx hb dX12_image_29 rfl (lv_at hl 1 rfl) ?_
  refine r_get C w 0 rfl fr_X12_283 rfl dX12_image_30 ?_
  refine lv_imul hx hb dX12_image_33 ?_
  refine z_i (v := 0) (by decide +kernel) ?_
  refine lv_iload_n hx hb dX12_image_34 rfl (lv_at hl 0 rfl) ?_
  refine lv_iadd hx hb dX12_image_35 ?_
  refine z_i (v := 37) (by decide +kernel) ?_
  refine lv_aload_n hx hb dX12_image_36 rfl (lv_at hl 1 rfl) ?_
  refine r_get C w 0 rfl fr_X12_41 rfl dX12_image_37 ?_
  refine lv_iload_n hx hb dX12_image_40 rfl (lv_at hl 0 rfl) ?_
  refine r_iald C w 1 rfl (IX.of (k := 37) (by decide +kernel)) (v := 0) rfl dX12_image_41 ?_
  refine r_iast C w 2 rfl (IX.of (k := 37) (by decide +kernel)) (g := (fun _ => 0)) (upd_c _ _) dX12_image_42 (ws2 := [(q0, .inr (12, [.int 0, .int 0, .int 0, .int 0, .int 0, .int 0, .int 0, .int (-1), .ref q3, .ref q4, .ref q5, .int 0, .ref q6, .ref q7, .ref q8, .ref q9, .ref q10, .ref q1, .ref q2, .int 0, .ref q11, .ref q12, .ref q13, .ref q14, .ref q15, .ref q16, .ref q17, .int 0, .int (-1), .int 0, .ref q18, .ref q19, .ref q20, .ref q21, .ref q22, .ref q23, .ref q24, .ref q25, .int 0, .ref q26, .ref q27, .ref q28, .ref q29, .ref q30, .int 0, .ref q31, .ref q32, .ref q33, .ref q34, .int 0, .ref q35, .ref q36, .ref q37, .ref q38, .int 0, .int 0, .ref q39, .ref q40, .ref q41, .ref q42])), (q1, .inl (G.2.1, 57, .inl (fun _ => 0))), (q2, .inl (G.2.1, 171, .inl (fun _ => 0)))]) rfl (fun H locs w => ?_)
  refine lv_iinc (v := 38) (lv' := [(1, .int 38), (0, .ref q0)]) hx hb dX12_image_43 hl (k := 0) rfl (by decide +kernel) (by decide) rfl (fun ls hl => ?_)
  refine lv_goto (tgt := 17) hx hb dX12_image_46 (by decide) ?_
  refine lv_iload_n hx hb dX12_image_17 rfl (lv_at hl 0 rfl) ?_
  refine lv_bipush (v := 57) hx hb dX12_image_18 (by decide) ?_
  refine lv_icmp_ge (tgt := 49) hx hb dX12_image_20 (by decide) (fun h => absurd h (by decide)) (fun _ => ?_)
  refine lv_aload_n hx hb dX12_image_23 rfl (lv_at hl 1 rfl) ?_
  refine r_get C w 0 rfl fr_X12_44 rfl dX12_image_24 ?_
  refine lv_bipush (v := 57) hx hb dX12_image_27 (by decide) ?_
  refine lv_aload_n hx hb dX12_image_29 rfl (lv_at hl 1 rfl) ?_
  refine r_get C w 0 rfl fr_X12_283 rfl dX12_image_30 ?_
  refine lv_imul hx hb dX12_image_33 ?_
  refine z_i (v := 0) (by decide +kernel) ?_
  refine lv_iload_n hx hb dX12_image_34 rfl (lv_at hl 0 rfl) ?_
  refine lv_iadd hx hb dX12_image_35 ?_
  refine z_i (v := 38) (by decide +kernel) ?_
  refine lv_aload_n hx hb dX12_image_36 rfl (lv_at hl 1 rfl) ?_
  refine r_get C w 0 rfl fr_X12_41 rfl dX12_image_37 ?_
  refine lv_iload_n hx hb dX12_image_40 rfl (lv_at hl 0 rfl) ?_
  refine r_iald C w 1 rfl (IX.of (k := 38) (by decide +kernel)) (v := 0) rfl dX12_image_41 ?_
  refine r_iast C w 2 rfl (IX.of (k := 38) (by decide +kernel)) (g := (fun _ => 0)) (upd_c _ _) dX12_image_42 (ws2 := [(q0, .inr (12, [.int 0, .int 0, .int 0, .int 0, .int 0, .int 0, .int 0, .int (-1), .ref q3, .ref q4, .ref q5, .int 0, .ref q6, .ref q7, .ref q8, .ref q9, .ref q10, .ref q1, .ref q2, .int 0, .ref q11, .ref q12, .ref q13, .ref q14, .ref q15, .ref q16, .ref q17, .int 0, .int (-1), .int 0, .ref q18, .ref q19, .ref q20, .ref q21, .ref q22, .ref q23, .ref q24, .ref q25, .int 0, .ref q26, .ref q27, .ref q28, .ref q29, .ref q30, .int 0, .ref q31, .ref q32, .ref q33, .ref q34, .int 0, .ref q35, .ref q36, .ref q37, .ref q38, .int 0, .int 0, .ref q39, .ref q40, .ref q41, .ref q42])), (q1, .inl (G.2.1, 57, .inl (fun _ => 0))), (q2, .inl (G.2.1, 171, .inl (fun _ => 0)))]) rfl (fun H locs w => ?_)
  refine lv_iinc (v := 39) (lv' := [(1, .int 39), (0, .ref q0)]) hx hb dX12_image_43 hl (k := 0) rfl (by decide +kernel) (by decide) rfl (fun ls hl => ?_)
  refine lv_goto (tgt := 17) hx hb dX12_image_46 (by decide) ?_
  refine lv_iload_n hx hb dX12_image_17 rfl (lv_at hl 0 rfl) ?_
  refine lv_bipush (v := 57) hx hb dX12_image_18 (by decide) ?_
  refine lv_icmp_ge (tgt := 49) hx hb dX12_image_20 (by decide) (fun h => absurd h (by decide)) (fun _ => ?_)
  refine lv_aload_n hx hb dX12_image_23 rfl (lv_at hl 1 rfl) ?_
  refine r_get C w 0 rfl fr_X12_44 rfl dX12_image_24 ?_
  refine lv_bipush (v := 57) hx hb dX12_image_27 (by decide) ?_
  refine lv_aload_n hx hb dX12_image_29 rfl (lv_at hl 1 rfl) ?_
  refine r_get C w 0 rfl fr_X12_283 rfl dX12_image_30 ?_
  refine lv_imul hx hb dX12_image_33 ?_
  refine z_i (v := 0) (by decide +kernel) ?_
  refine lv_iload_n hx hb dX12_image_34 rfl (lv_at hl 0 rfl) ?_
  refine lv_iadd hx hb dX12_image_35 ?_
  refine z_i (v := 39) (by decide +kernel) ?_
  refine lv_aload_n hx hb dX12_image_36 rfl (lv_at hl 1 rfl) ?_
  refine r_get C w 0 rfl fr_X12_41 rfl dX12_image_37 ?_
  refine lv_iload_n hx hb dX12_image_40 rfl (lv_at hl 0 rfl) ?_
  refine r_iald C w 1 rfl (IX.of (k := 39) (by decide +kernel)) (v := 0) rfl dX12_image_41 ?_
  refine r_iast C w 2 rfl (IX.of (k := 39) (by decide +kernel)) (g := (fun _ => 0)) (upd_c _ _) dX12_image_42 (ws2 := [(q0, .inr (12, [.int 0, .int 0, .int 0, .int 0, .int 0, .int 0, .int 0, .int (-1), .ref q3, .ref q4, .ref q5, .int 0, .ref q6, .ref q7, .ref q8, .ref q9, .ref q10, .ref q1, .ref q2, .int 0, .ref q11, .ref q12, .ref q13, .ref q14, .ref q15, .ref q16, .ref q17, .int 0, .int (-1), .int 0, .ref q18, .ref q19, .ref q20, .ref q21, .ref q22, .ref q23, .ref q24, .ref q25, .int 0, .ref q26, .ref q27, .ref q28, .ref q29, .ref q30, .int 0, .ref q31, .ref q32, .ref q33, .ref q34, .int 0, .ref q35, .ref q36, .ref q37, .ref q38, .int 0, .int 0, .ref q39, .ref q40, .ref q41, .ref q42])), (q1, .inl (G.2.1, 57, .inl (fun _ => 0))), (q2, .inl (G.2.1, 171, .inl (fun _ => 0)))]) rfl (fun H locs w => ?_)
  refine lv_iinc (v := 40) (lv' := [(1, .int 40), (0, .ref q0)]) hx hb dX12_image_43 hl (k := 0) rfl (by decide +kernel) (by decide) rfl (fun ls hl => ?_)
  refine lv_goto (tgt := 17) hx hb dX12_image_46 (by decide) ?_
  refine lv_iload_n hx hb dX12_image_17 rfl (lv_at hl 0 rfl) ?_
  refine lv_bipush (v := 57) hx hb dX12_image_18 (by decide) ?_
  refine lv_icmp_ge (tgt := 49) hx hb dX12_image_20 (by decide) (fun h => absurd h (by decide)) (fun _ => ?_)
  refine lv_aload_n hx hb dX12_image_23 rfl (lv_at hl 1 rfl) ?_
  refine r_get C w 0 rfl fr_X12_44 rfl dX12_image_24 ?_
  refine lv_bipush (v := 57) hx hb dX12_image_27 (by decide) ?_
  refine lv_aload_n hx hb dX12_image_29 rfl (lv_at hl 1 rfl) ?_
  refine r_get C w 0 rfl fr_X12_283 rfl dX12_image_30 ?_
  refine lv_imul hx hb dX12_image_33 ?_
  refine z_i (v := 0) (by decide +kernel) ?_
  refine lv_iload_n hx hb dX12_image_34 rfl (lv_at hl 0 rfl) ?_
  refine lv_iadd hx hb dX12_image_35 ?_
  refine z_i (v := 40) (by decide +kernel) ?_
  refine lv_aload_n hx hb dX12_image_36 rfl (lv_at hl 1 rfl) ?_
  refine r_get C w 0 rfl fr_X12_41 rfl dX12_image_37 ?_
  refine lv_iload_n hx hb dX12_image_40 rfl (lv_at hl 0 rfl) ?_
  refine r_iald C w 1 rfl (IX.of (k := 40) (by decide +kernel)) (v := 0) rfl dX12_image_41 ?_
  refine r_iast C w 2 rfl (IX.of (k := 40) (by decide +kernel)) (g := (fun _ => 0)) (upd_c _ _) dX12_image_42 (ws2 := [(q0, .inr (12, [.int 0, .int 0, .int 0, .int 0, .int 0, .int 0, .int 0, .int (-1), .ref q3, .ref q4, .ref q5, .int 0, .ref q6, .ref q7, .ref q8, .ref q9, .ref q10, .ref q1, .ref q2, .int 0, .ref q11, .ref q12, .ref q13, .ref q14, .ref q15, .ref q16, .ref q17, .int 0, .int (-1), .int 0, .ref q18, .ref q19, .ref q20, .ref q21, .ref q22, .ref q23, .ref q24, .ref q25, .int 0, .ref q26, .ref q27, .ref q28, .ref q29, .ref q30, .int 0, .ref q31, .ref q32, .ref q33, .ref q34, .int 0, .ref q35, .ref q36, .ref q37, .ref q38, .int 0, .int 0, .ref q39, .ref q40, .ref q41, .ref q42])), (q1, .inl (G.2.1, 57, .inl (fun _ => 0))), (q2, .inl (G.2.1, 171, .inl (fun _ => 0)))]) rfl (fun H locs w => ?_)
  refine lv_iinc (v := 41) (lv' := [(1, .int 41), (0, .ref q0)]) hx hb dX12_image_43 hl (k := 0) rfl (by decide +kernel) (by decide) rfl (fun ls hl => ?_)
  refine lv_goto (tgt := 17) hx hb dX12_image_46 (by decide) ?_
  refine lv_iload_n hx hb dX12_image_17 rfl (lv_at hl 0 rfl) ?_
  refine lv_bipush (v := 57) hx hb dX12_image_18 (by decide) ?_
  refine lv_icmp_ge (tgt := 49) hx hb dX12_image_20 (by decide) (fun h => absurd h (by decide)) (fun _ => ?_)
  refine lv_aload_n hx hb dX12_image_23 rfl (lv_at hl 1 rfl) ?_
  refine r_get C w 0 rfl fr_X12_44 rfl dX12_image_24 ?_
  refine lv_bipush (v := 57) hx hb dX12_image_27 (by decide) ?_
  refine lv_aload_n hx hb dX12_image_29 rfl (lv_at hl 1 rfl) ?_
  refine r_get C w 0 rfl fr_X12_283 rfl dX12_image_30 ?_
  refine lv_imul hx hb dX12_image_33 ?_
  refine z_i (v := 0) (by decide +kernel) ?_
  refine lv_iload_n hx hb dX12_image_34 rfl (lv_at hl 0 rfl) ?_
  refine lv_iadd hx hb dX12_image_35 ?_
  refine z_i (v := 41) (by decide +kernel) ?_
  refine lv_aload_n hx hb dX12_image_36 rfl (lv_at hl 1 rfl) ?_
  refine r_get C w 0 rfl fr_X12_41 rfl dX12_image_37 ?_
  refine lv_iload_n hx hb dX12_image_40 rfl (lv_at hl 0 rfl) ?_
  refine r_iald C w 1 rfl (IX.of (k := 41) (by decide +kernel)) (v := 0) rfl dX12_image_41 ?_
  refine r_iast C w 2 rfl (IX.of (k := 41) (by decide +kernel)) (g := (fun _ => 0)) (upd_c _ _) dX12_image_42 (ws2 := [(q0, .inr (12, [.int 0, .int 0, .int 0, .int 0, .int 0, .int 0, .int 0, .int (-1), .ref q3, .ref q4, .ref q5, .int 0, .ref q6, .ref q7, .ref q8, .ref q9, .ref q10, .ref q1, .ref q2, .int 0, .ref q11, .ref q12, .ref q13, .ref q14, .ref q15, .ref q16, .ref q17, .int 0, .int (-1), .int 0, .ref q18, .ref q19, .ref q20, .ref q21, .ref q22, .ref q23, .ref q24, .ref q25, .int 0, .ref q26, .ref q27, .ref q28, .ref q29, .ref q30, .int 0, .ref q31, .ref q32, .ref q33, .ref q34, .int 0, .ref q35, .ref q36, .ref q37, .ref q38, .int 0, .int 0, .ref q39, .ref q40, .ref q41, .ref q42])), (q1, .inl (G.2.1, 57, .inl (fun _ => 0))), (q2, .inl (G.2.1, 171, .inl (fun _ => 0)))]) rfl (fun H locs w => ?_)
  refine lv_iinc (v := 42) (lv' := [(1, .int 42), (0, .ref q0)]) hx hb dX12_image_43 hl (k := 0) rfl (by decide +kernel) (by decide) rfl (fun ls hl => ?_)
  refine lv_goto (tgt := 17) hx hb dX12_image_46 (by decide) ?_
  refine lv_iload_n hx hb dX12_image_17 rfl (lv_at hl 0 rfl) ?_
  refine lv_bipush (v := 57) hx hb dX12_image_18 (by decide) ?_
  refine lv_icmp_ge (tgt := 49) hx hb dX12_image_20 (by decide) (fun h => absurd h (by decide)) (fun _ => ?_)
  refine lv_aload_n hx hb dX12_image_23 rfl (lv_at hl 1 rfl) ?_
  refine r_get C w 0 rfl fr_X12_44 rfl dX12_image_24 ?_
  refine lv_bipush (v := 57) hx hb dX12_image_27 (by decide) ?_
  refine lv_aload_n hx hb dX12_image_29 rfl (lv_at hl 1 rfl) ?_
  refine r_get C w 0 rfl fr_X12_283 rfl dX12_image_30 ?_
  refine lv_imul hx hb dX12_image_33 ?_
  refine z_i (v := 0) (by decide +kernel) ?_
  refine lv_iload_n hx hb dX12_image_34 rfl (lv_at hl 0 rfl) ?_
  refine lv_iadd hx hb dX12_image_35 ?_
  refine z_i (v := 42) (by decide +kernel) ?_
  refine lv_aload_n hx hb dX12_image_36 rfl (lv_at hl 1 rfl) ?_
  refine r_get C w 0 rfl fr_X12_41 rfl dX12_image_37 ?_
  refine lv_iload_n hx hb dX12_image_40 rfl (lv_at hl 0 rfl) ?_
  refine r_iald C w 1 rfl (IX.of (k := 42) (by decide +kernel)) (v := 0) rfl dX12_image_41 ?_
  refine r_iast C w 2 rfl (IX.of (k := 42) (by decide +kernel)) (g := (fun _ => 0)) (upd_c _ _) dX12_image_42 (ws2 := [(q0, .inr (12, [.int 0, .int 0, .int 0, .int 0, .int 0, .int 0, .int 0, .int (-1), .ref q3, .ref q4, .ref q5, .int 0, .ref q6, .ref q7, .ref q8, .ref q9, .ref q10, .ref q1, .ref q2, .int 0, .ref q11, .ref q12, .ref q13, .ref q14, .ref q15, .ref q16, .ref q17, .int 0, .int (-1), .int 0, .ref q18, .ref q19, .ref q20, .ref q21, .ref q22, .ref q23, .ref q24, .ref q25, .int 0, .ref q26, .ref q27, .ref q28, .ref q29, .ref q30, .int 0, .ref q31, .ref q32, .ref q33, .ref q34, .int 0, .ref q35, .ref q36, .ref q37, .ref q38, .int 0, .int 0, .ref q39, .ref q40, .ref q41, .ref q42])), (q1, .inl (G.2.1, 57, .inl (fun _ => 0))), (q2, .inl (G.2.1, 171, .inl (fun _ => 0)))]) rfl (fun H locs w => ?_)
  refine lv_iinc (v := 43) (lv' := [(1, .int 43), (0, .ref q0)]) hx hb dX12_image_43 hl (k := 0) rfl (by decide +kernel) (by decide) rfl (fun ls hl => ?_)
  refine lv_goto (tgt := 17) hx hb dX12_image_46 (by decide) ?_
  refine lv_iload_n hx hb dX12_image_17 rfl (lv_at hl 0 rfl) ?_
  refine lv_bipush (v := 57) hx hb dX12_image_18 (by decide) ?_
  refine lv_icmp_ge (tgt := 49) hx hb dX12_image_20 (by decide) (fun h => absurd h (by decide)) (fun _ => ?_)
  refine lv_aload_n hx hb dX12_image_23 rfl (lv_at hl 1 rfl) ?_
  refine r_get C w 0 rfl fr_X12_44 rfl dX12_image_24 ?_
  refine lv_bipush (v := 57) hx hb dX12_image_27 (by decide) ?_
  refine lv_aload_n hx hb dX12_image_29 rfl (lv_at hl 1 rfl) ?_
  refine r_get C w 0 rfl fr_X12_283 rfl dX12_image_30 ?_
  refine lv_imul hx hb dX12_image_33 ?_
  refine z_i (v := 0) (by decide +kernel) ?_
  refine lv_iload_n hx hb dX12_image_34 rfl (lv_at hl 0 rfl) ?_
  refine lv_iadd hx hb dX12_image_35 ?_
  refine z_i (v := 43) (by decide +kernel) ?_
  refine lv_aload_n hx hb dX12_image_36 rfl (lv_at hl 1 rfl) ?_
  refine r_get C w 0 rfl fr_X12_41 rfl dX12_image_37 ?_
  refine lv_iload_n hx hb dX12_image_40 rfl (lv_at hl 0 rfl) ?_
  refine r_iald C w 1 rfl (IX.of (k := 43) (by decide +kernel)) (v := 0) rfl dX12_image_41 ?_
  refine r_iast C w 2 rfl (IX.of (k := 43) (by decide +kernel)) (g := (fun _ => 0)) (upd_c _ _) dX12_image_42 (ws2 := [(q0, .inr (12, [.int 0, .int 0, .int 0, .int 0, .int 0, .int 0, .int 0, .int (-1), .ref q3, .ref q4, .ref q5, .int 0, .ref q6, .ref q7, .ref q8, .ref q9, .ref q10, .ref q1, .ref q2, .int 0, .ref q11, .ref q12, .ref q13, .ref q14, .ref q15, .ref q16, .ref q17, .int 0, .int (-1), .int 0, .ref q18, .ref q19, .ref q20, .ref q21, .ref q22, .ref q23, .ref q24, .ref q25, .int 0, .ref q26, .ref q27, .ref q28, .ref q29, .ref q30, .int 0, .ref q31, .ref q32, .ref q33, .ref q34, .int 0, .ref q35, .ref q36, .ref q37, .ref q38, .int 0, .int 0, .ref q39, .ref q40, .ref q41, .ref q42])), (q1, .inl (G.2.1, 57, .inl (fun _ => 0))), (q2, .inl (G.2.1, 171, .inl (fun _ => 0)))]) rfl (fun H locs w => ?_)
  refine lv_iinc (v := 44) (lv' := [(1, .int 44), (0, .ref q0)]) hx hb dX12_image_43 hl (k := 0) rfl (by decide +kernel) (by decide) rfl (fun ls hl => ?_)
  refine lv_goto (tgt := 17) hx hb dX12_image_46 (by decide) ?_
  refine lv_iload_n hx hb dX12_image_17 rfl (lv_at hl 0 rfl) ?_
  refine lv_bipush (v := 57) hx hb dX12_image_18 (by decide) ?_
  refine lv_icmp_ge (tgt := 49) hx hb dX12_image_20 (by decide) (fun h => absurd h (by decide)) (fun _ => ?_)
  refine lv_aload_n hx hb dX12_image_23 rfl (lv_at hl 1 rfl) ?_
  refine r_get C w 0 rfl fr_X12_44 rfl dX12_image_24 ?_
  refine lv_bipush (v := 57) hx hb dX12_image_27 (by decide) ?_
  refine lv_aload_n hx hb dX12_image_29 rfl (lv_at hl 1 rfl) ?_
  refine r_get C w 0 rfl fr_X12_283 rfl dX12_image_30 ?_
  refine lv_imul hx hb dX12_image_33 ?_
  refine z_i (v := 0) (by decide +kernel) ?_
  refine lv_iload_n hx hb dX12_image_34 rfl (lv_at hl 0 rfl) ?_
  refine lv_iadd hx hb dX12_image_35 ?_
  refine z_i (v := 44) (by decide +kernel) ?_
  refine lv_aload_n hx hb dX12_image_36 rfl (lv_at hl 1 rfl) ?_
  refine r_get C w 0 rfl fr_X12_41 rfl dX12_image_37 ?_
  refine lv_iload_n hx hb dX12_image_40 rfl (lv_at hl 0 rfl) ?_
  refine r_iald C w 1 rfl (IX.of (k := 44) (by decide +kernel)) (v := 0) rfl dX12_image_41 ?_
  refine r_iast C w 2 rfl (IX.of (k := 44) (by decide +kernel)) (g := (fun _ => 0)) (upd_c _ _) dX12_image_42 (ws2 := [(q0, .inr (12, [.int 0, .int 0, .int 0, .int 0, .int 0, .int 0, .int 0, .int (-1), .ref q3, .ref q4, .ref q5, .int 0, .ref q6, .ref q7, .ref q8, .ref q9, .ref q10, .ref q1, .ref q2, .int 0, .ref q11, .ref q12, .ref q13, .ref q14, .ref q15, .ref q16, .ref q17, .int 0, .int (-1), .int 0, .ref q18, .ref q19, .ref q20, .ref q21, .ref q22, .ref q23, .ref q24, .ref q25, .int 0, .ref q26, .ref q27, .ref q28, .ref q29, .ref q30, .int 0, .ref q31, .ref q32, .ref q33, .ref q34, .int 0, .ref q35, .ref q36, .ref q37, .ref q38, .int 0, .int 0, .ref q39, .ref q40, .ref q41, .ref q42])), (q1, .inl (G.2.1, 57, .inl (fun _ => 0))), (q2, .inl (G.2.1, 171, .inl (fun _ => 0)))]) rfl (fun H locs w => ?_)
  refine lv_iinc (v := 45) (lv' := [(1, .int 45), (0, .ref q0)]) hx hb dX12_image_43 hl (k := 0) rfl (by decide +kernel) (by decide) rfl (fun ls hl => ?_)
  refine lv_goto (tgt := 17) hx hb dX12_image_46 (by decide) ?_
  refine lv_iload_n hx hb dX12_image_17 rfl (lv_at hl 0 rfl) ?_
  refine lv_bipush (v := 57) hx hb dX12_image_18 (by decide) ?_
  refine lv_icmp_ge (tgt := 49) hx hb dX12_image_20 (by decide) (fun h => absurd h (by decide)) (fun _ => ?_)
  refine lv_aload_n hx hb dX12_image_23 rfl (lv_at hl 1 rfl) ?_
  refine r_get C w 0 rfl fr_X12_44 rfl dX12_image_24 ?_
  refine lv_bipush (v := 57) hx hb dX12_image_27 (by decide) ?_
  refine lv_aload_n hx hb dX12_image_29 rfl (lv_at hl 1 rfl) ?_
  refine r_get C w 0 rfl fr_X12_283 rfl dX12_image_30 ?_
  refine lv_imul hx hb dX12_image_33 ?_
  refine z_i (v := 0) (by decide +kernel) ?_
  refine lv_iload_n hx hb dX12_image_34 rfl (lv_at hl 0 rfl) ?_
  refine lv_iadd hx hb dX12_image_35 ?_
  refine z_i (v := 45) (by decide +kernel) ?_
  refine lv_aload_n hx hb dX12_image_36 rfl (lv_at hl 1 rfl) ?_
  refine r_get C w 0 rfl fr_X12_41 rfl dX12_image_37 ?_
  refine lv_iload_n hx hb dX12_image_40 rfl (lv_at hl 0 rfl) ?_
  refine r_iald C w 1 rfl (IX.of (k := 45) (by decide +kernel)) (v := 0) rfl dX12_image_41 ?_
  refine r_iast C w 2 rfl (IX.of (k := 45) (by decide +kernel)) (g := (fun _ => 0)) (upd_c _ _) dX12_image_42 (ws2 := [(q0, .inr (12, [.int 0, .int 0, .int 0, .int 0, .int 0, .int 0, .int 0, .int (-1), .ref q3, .ref q4, .ref q5, .int 0, .ref q6, .ref q7, .ref q8, .ref q9, .ref q10, .ref q1, .ref q2, .int 0, .ref q11, .ref q12, .ref q13, .ref q14, .ref q15, .ref q16, .ref q17, .int 0, .int (-1), .int 0, .ref q18, .ref q19, .ref q20, .ref q21, .ref q22, .ref q23, .ref q24, .ref q25, .int 0, .ref q26, .ref q27, .ref q28, .ref q29, .ref q30, .int 0, .ref q31, .ref q32, .ref q33, .ref q34, .int 0, .ref q35, .ref q36, .ref q37, .ref q38, .int 0, .int 0, .ref q39, .ref q40, .ref q41, .ref q42])), (q1, .inl (G.2.1, 57, .inl (fun _ => 0))), (q2, .inl (G.2.1, 171, .inl (fun _ => 0)))]) rfl (fun H locs w => ?_)
  refine lv_iinc (v := 46) (lv' := [(1, .int 46), (0, .ref q0)]) hx hb dX12_image_43 hl (k := 0) rfl (by decide +kernel) (by decide) rfl (fun ls hl => ?_)
  refine lv_goto (tgt := 17) hx hb dX12_image_46 (by decide) ?_
  refine lv_iload_n hx hb dX12_image_17 rfl (lv_at hl 0 rfl) ?_
  refine lv_bipush (v := 57) hx hb dX12_image_18 (by decide) ?_
  refine lv_icmp_ge (tgt := 49) hx hb dX12_image_20 (by decide) (fun h => absurd h (by decide)) (fun _ => ?_)
  refine lv_aload_n hx hb dX12_image_23 rfl (lv_at hl 1 rfl) ?_
  refine r_get C w 0 rfl fr_X12_44 rfl dX12_image_24 ?_
  refine lv_bipush (v := 57) hx hb dX12_image_27 (by decide) ?_
  refine lv_aload_n hx hb dX12_image_29 rfl (lv_at hl 1 rfl) ?_
  refine r_get C w 0 rfl fr_X12_283 rfl dX12_image_30 ?_
  refine lv_imul hx hb dX12_image_33 ?_
  refine z_i (v := 0) (by decide +kernel) ?_
  refine lv_iload_n hx hb dX12_image_34 rfl (lv_at hl 0 rfl) ?_
  refine lv_iadd hx hb dX12_image_35 ?_
  refine z_i (v := 46) (by decide +kernel) ?_
  refine lv_aload_n hx hb dX12_image_36 rfl (lv_at hl 1 rfl) ?_
  refine r_get C w 0 rfl fr_X12_41 rfl dX12_image_37 ?_
  refine lv_iload_n hx hb dX12_image_40 rfl (lv_at hl 0 rfl) ?_
  refine r_iald C w 1 rfl (IX.of (k := 46) (by decide +kernel)) (v := 0) rfl dX12_image_41 ?_
  refine r_iast C w 2 rfl (IX.of (k := 46) (by decide +kernel)) (g := (fun _ => 0)) (upd_c _ _) dX12_image_42 (ws2 := [(q0, .inr (12, [.int 0, .int 0, .int 0, .int 0, .int 0, .int 0, .int 0, .int (-1), .ref q3, .ref q4, .ref q5, .int 0, .ref q6, .ref q7, .ref q8, .ref q9, .ref q10, .ref q1, .ref q2, .int 0, .ref q11, .ref q12, .ref q13, .ref q14, .ref q15, .ref q16, .ref q17, .int 0, .int (-1), .int 0, .ref q18, .ref q19, .ref q20, .ref q21, .ref q22, .ref q23, .ref q24, .ref q25, .int 0, .ref q26, .ref q27, .ref q28, .ref q29, .ref q30, .int 0, .ref q31, .ref q32, .ref q33, .ref q34, .int 0, .ref q35, .ref q36, .ref q37, .ref q38, .int 0, .int 0, .ref q39, .ref q40, .ref q41, .ref q42])), (q1, .inl (G.2.1, 57, .inl (fun _ => 0))), (q2, .inl (G.2.1, 171, .inl (fun _ => 0)))]) rfl (fun H locs w => ?_)
  refine lv_iinc (v := 47) (lv' := [(1, .int 47), (0, .ref q0)]) hx hb dX12_image_43 hl (k := 0) rfl (by decide +kernel) (by decide) rfl (fun ls hl => ?_)
  refine lv_goto (tgt := 17) hx hb dX12_image_46 (by decide) ?_
  refine lv_iload_n hx hb dX12_image_17 rfl (lv_at hl 0 rfl) ?_
  refine lv_bipush (v := 57) hx hb dX12_image_18 (by decide) ?_
  refine lv_icmp_ge (tgt := 49) hx hb dX12_image_20 (by decide) (fun h => absurd h (by decide)) (fun _ => ?_)
  refine lv_aload_n hx hb dX12_image_23 rfl (lv_at hl 1 rfl) ?_
  refine r_get C w 0 rfl fr_X12_44 rfl dX12_image_24 ?_
  refine lv_bipush (v := 57) hx hb dX12_image_27 (by decide) ?_
  refine lv_aload_n hx hb dX12_image_29 rfl (lv_at hl 1 rfl) ?_
  refine r_get C w 0 rfl fr_X12_283 rfl dX12_image_30 ?_
  refine lv_imul hx hb dX12_image_33 ?_
  refine z_i (v := 0) (by decide +kernel) ?_
  refine lv_iload_n hx hb dX12_image_34 rfl (lv_at hl 0 rfl) ?_
  refine lv_iadd hx hb dX12_image_35 ?_
  refine z_i (v := 47) (by decide +kernel) ?_
  refine lv_aload_n hx hb dX12_image_36 rfl (lv_at hl 1 rfl) ?_
  refine r_get C w 0 rfl fr_X12_41 rfl dX12_image_37 ?_
  refine lv_iload_n hx hb dX12_image_40 rfl (lv_at hl 0 rfl) ?_
  refine r_iald C w 1 rfl (IX.of (k := 47) (by decide +kernel)) (v := 0) rfl dX12_image_41 ?_
  refine r_iast C w 2 rfl (IX.of (k := 47) (by decide +kernel)) (g := (fun _ => 0)) (upd_c _ _) dX12_image_42 (ws2 := [(q0, .inr (12, [.int 0, .int 0, .int 0, .int 0, .int 0, .int 0, .int 0, .int (-1), .ref q3, .ref q4, .ref q5, .int 0, .ref q6, .ref q7, .ref q8, .ref q9, .ref q10, .ref q1, .ref q2, .int 0, .ref q11, .ref q12, .ref q13, .ref q14, .ref q15, .ref q16, .ref q17, .int 0, .int (-1), .int 0, .ref q18, .ref q19, .ref q20, .ref q21, .ref q22, .ref q23, .ref q24, .ref q25, .int 0, .ref q26, .ref q27, .ref q28, .ref q29, .ref q30, .int 0, .ref q31, .ref q32, .ref q33, .ref q34, .int 0, .ref q35, .ref q36, .ref q37, .ref q38, .int 0, .int 0, .ref q39, .ref q40, .ref q41, .ref q42])), (q1, .inl (G.2.1, 57, .inl (fun _ => 0))), (q2, .inl (G.2.1, 171, .inl (fun _ => 0)))]) rfl (fun H locs w => ?_)
  refine lv_iinc (v := 48) (lv' := [(1, .int 48), (0, .ref q0)]) hx hb dX12_image_43 hl (k := 0) rfl (by decide +kernel) (by decide) rfl (fun ls hl => ?_)
  refine lv_goto (tgt := 17) hx hb dX12_image_46 (by decide) ?_
  refine lv_iload_n hx hb dX12_image_17 rfl (lv_at hl 0 rfl) ?_
  refine lv_bipush (v := 57) hx hb dX12_image_18 (by decide) ?_
  refine lv_icmp_ge (tgt := 49) hx hb dX12_image_20 (by decide) (fun h => absurd h (by decide)) (fun _ => ?_)
  refine lv_aload_n hx hb dX12_image_23 rfl (lv_at hl 1 rfl) ?_
  refine r_get C w 0 rfl fr_X12_44 rfl dX12_image_24 ?_
  refine lv_bipush (v := 57) hx hb dX12_image_27 (by decide) ?_
  refine lv_aload_n hx hb dX12_image_29 rfl (lv_at hl 1 rfl) ?_
  refine r_get C w 0 rfl fr_X12_283 rfl dX12_image_30 ?_
  refine lv_imul hx hb dX12_image_33 ?_
  refine z_i (v := 0) (by decide +kernel) ?_
  refine lv_iload_n hx hb dX12_image_34 rfl (lv_at hl 0 rfl) ?_
  refine lv_iadd hx hb dX12_image_35 ?_
  refine z_i (v := 48) (by decide +kernel) ?_
  refine lv_aload_n hx hb dX12_image_36 rfl (lv_at hl 1 rfl) ?_
  refine r_get C w 0 rfl fr_X12_41 rfl dX12_image_37 ?_
  refine lv_iload_n hx hb dX12_image_40 rfl (lv_at hl 0 rfl) ?_
  refine r_iald C w 1 rfl (IX.of (k := 48) (by decide +kernel)) (v := 0) rfl dX12_image_41 ?_
  refine r_iast C w 2 rfl (IX.of (k := 48) (by decide +kernel)) (g := (fun _ => 0)) (upd_c _ _) dX12_image_42 (ws2 := [(q0, .inr (12, [.int 0, .int 0, .int 0, .int 0, .int 0, .int 0, .int 0, .int (-1), .ref q3, .ref q4, .ref q5, .int 0, .ref q6, .ref q7, .ref q8, .ref q9, .ref q10, .ref q1, .ref q2, .int 0, .ref q11, .ref q12, .ref q13, .ref q14, .ref q15, .ref q16, .ref q17, .int 0, .int (-1), .int 0, .ref q18, .ref q19, .ref q20, .ref q21, .ref q22, .ref q23, .ref q24, .ref q25, .int 0, .ref q26, .ref q27, .ref q28, .ref q29, .ref q30, .int 0, .ref q31, .ref q32, .ref q33, .ref q34, .int 0, .ref q35, .ref q36, .ref q37, .ref q38, .int 0, .int 0, .ref q39, .ref q40, .ref q41, .ref q42])), (q1, .inl (G.2.1, 57, .inl (fun _ => 0))), (q2, .inl (G.2.1, 171, .inl (fun _ => 0)))]) rfl (fun H locs w => ?_)
  refine lv_iinc (v := 49) (lv' := [(1, .int 49), (0, .ref q0)]) hx hb dX12_image_43 hl (k := 0) rfl (by decide +kernel) (by decide) rfl (fun ls hl => ?_)
  refine lv_goto (tgt := 17) hx hb dX12_image_46 (by decide) ?_
  refine lv_iload_n hx hb dX12_image_17 rfl (lv_at hl 0 rfl) ?_
  refine lv_bipush (v := 57) hx hb dX12_image_18 (by decide) ?_
  refine lv_icmp_ge (tgt := 49) hx hb dX12_image_20 (by decide) (fun h => absurd h (by decide)) (fun _ => ?_)
  refine lv_aload_n hx hb dX12_image_23 rfl (lv_at hl 1 rfl) ?_
  refine r_get C w 0 rfl fr_X12_44 rfl dX12_image_24 ?_
  refine lv_bipush (v := 57) hx hb dX12_image_27 (by decide) ?_
  refine lv_aload_n hx hb dX12_image_29 rfl (lv_at hl 1 rfl) ?_
  refine r_get C w 0 rfl fr_X12_283 rfl dX12_image_30 ?_
  refine lv_imul hx hb dX12_image_33 ?_
  refine z_i (v := 0) (by decide +kernel) ?_
  refine lv_iload_n hx hb dX12_image_34 rfl (lv_at hl 0 rfl) ?_
  refine lv_iadd hx hb dX12_image_35 ?_
  refine z_i (v := 49) (by decide +kernel) ?_
  refine lv_aload_n hx hb dX12_image_36 rfl (lv_at hl 1 rfl) ?_
  refine r_get C w 0 rfl fr_X12_41 rfl dX12_image_37 ?_
  refine lv_iload_n hx hb dX12_image_40 rfl (lv_at hl 0 rfl) ?_
  refine r_iald C w 1 rfl (IX.of (k := 49) (by decide +kernel)) (v := 0) rfl dX12_image_41 ?_
  refine r_iast C w 2 rfl (IX.of (k := 49) (by decide +kernel)) (g := (fun _ => 0)) (upd_c _ _) dX12_image_42 (ws2 := [(q0, .inr (12, [.int 0, .int 0, .int 0, .int 0, .int 0, .int 0, .int 0, .int (-1), .ref q3, .ref q4, .ref q5, .int 0, .ref q6, .ref q7, .ref q8, .ref q9, .ref q10, .ref q1, .ref q2, .int 0, .ref q11, .ref q12, .ref q13, .ref q14, .ref q15, .ref q16, .ref q17, .int 0, .int (-1), .int 0, .ref q18, .ref q19, .ref q20, .ref q21, .ref q22, .ref q23, .ref q24, .ref q25, .int 0, .ref q26, .ref q27, .ref q28, .ref q29, .ref q30, .int 0, .ref q31, .ref q32, .ref q33, .ref q34, .int 0, .ref q35, .ref q36, .ref q37, .ref q38, .int 0, .int 0, .ref q39, .ref q40, .ref q41, .ref q42])), (q1, .inl (G.2.1, 57, .inl (fun _ => 0))), (q2, .inl (G.2.1, 171, .inl (fun _ => 0)))]) rfl (fun H locs w => ?_)
  refine lv_iinc (v := 50) (lv' := [(1, .int 50), (0, .ref q0)]) hx hb dX12_image_43 hl (k := 0) rfl (by decide +kernel) (by decide) rfl (fun ls hl => ?_)
  refine lv_goto (tgt := 17) hx hb dX12_image_46 (by decide) ?_
  refine lv_iload_n hx hb dX12_image_17 rfl (lv_at hl 0 rfl) ?_
  refine lv_bipush (v := 57) hx hb dX12_image_18 (by decide) ?_
  refine lv_icmp_ge (tgt := 49) hx hb dX12_image_20 (by decide) (fun h => absurd h (by decide)) (fun _ => ?_)
  refine lv_aload_n hx hb dX12_image_23 rfl (lv_at hl 1 rfl) ?_
  refine r_get C w 0 rfl fr_X12_44 rfl dX12_image_24 ?_
  refine lv_bipush (v := 57) hx hb dX12_image_27 (by decide) ?_
  refine lv_aload_n hx hb dX12_image_29 rfl (lv_at hl 1 rfl) ?_
  refine r_get C w 0 rfl fr_X12_283 rfl dX12_image_30 ?_
  refine lv_imul hx hb dX12_image_33 ?_
  refine z_i (v := 0) (by decide +kernel) ?_
  refine lv_iload_n hx hb dX12_image_34 rfl (lv_at hl 0 rfl) ?_
  refine lv_iadd hx hb dX12_image_35 ?_
  refine z_i (v := 50) (by decide +kernel) ?_
  refine lv_aload_n hx hb dX12_image_36 rfl (lv_at hl 1 rfl) ?_
  refine r_get C w 0 rfl fr_X12_41 rfl dX12_image_37 ?_
  refine lv_iload_n hx hb dX12_image_40 rfl (lv_at hl 0 rfl) ?_
  refine r_iald C w 1 rfl (IX.of (k := 50) (by decide +kernel)) (v := 0) rfl dX12_image_41 ?_
  refine r_iast C w 2 rfl (IX.of (k := 50) (by decide +kernel)) (g := (fun _ => 0)) (upd_c _ _) dX12_image_42 (ws2 := [(q0, .inr (12, [.int 0, .int 0, .int 0, .int 0, .int 0, .int 0, .int 0, .int (-1), .ref q3, .ref q4, .ref q5, .int 0, .ref q6, .ref q7, .ref q8, .ref q9, .ref q10, .ref q1, .ref q2, .int 0, .ref q11, .ref q12, .ref q13, .ref q14, .ref q15, .ref q16, .ref q17, .int 0, .int (-1), .int 0, .ref q18, .ref q19, .ref q20, .ref q21, .ref q22, .ref q23, .ref q24, .ref q25, .int 0, .ref q26, .ref q27, .ref q28, .ref q29, .ref q30, .int 0, .ref q31, .ref q32, .ref q33, .ref q34, .int 0, .ref q35, .ref q36, .ref q37, .ref q38, .int 0, .int 0, .ref q39, .ref q40, .ref q41, .ref q42])), (q1, .inl (G.2.1, 57, .inl (fun _ => 0))), (q2, .inl (G.2.1, 171, .inl (fun _ => 0)))]) rfl (fun H locs w => ?_)
  refine lv_iinc (v := 51) (lv' := [(1, .int 51), (0, .ref q0)]) hx hb dX12_image_43 hl (k := 0) rfl (by decide +kernel) (by decide) rfl (fun ls hl => ?_)
  refine lv_goto (tgt := 17) hx hb dX12_image_46 (by decide) ?_
  refine lv_iload_n hx hb dX12_image_17 rfl (lv_at hl 0 rfl) ?_
  refine lv_bipush (v := 57) hx hb dX12_image_18 (by decide) ?_
  refine lv_icmp_ge (tgt := 49) hx hb dX12_image_20 (by decide) (fun h => absurd h (by decide)) (fun _ => ?_)
  refine lv_aload_n hx hb dX12_image_23 rfl (lv_at hl 1 rfl) ?_
  refine r_get C w 0 rfl fr_X12_44 rfl dX12_image_24 ?_
  refine lv_bipush (v := 57) hx hb dX12_image_27 (by decide) ?_
  refine lv_aload_n hx hb dX12_image_29 rfl (lv_at hl 1 rfl) ?_
  refine r_get C w 0 rfl fr_X12_283 rfl dX12_image_30 ?_
  refine lv_imul hx hb dX12_image_33 ?_
  refine z_i (v := 0) (by decide +kernel) ?_
  refine lv_iload_n hx hb dX12_image_34 rfl (lv_at hl 0 rfl) ?_
  refine lv_iadd hx hb dX12_image_35 ?_
  refine z_i (v := 51) (by decide +kernel) ?_
  refine lv_aload_n hx hb dX12_image_36 rfl (lv_at hl 1 rfl) ?_
  refine r_get C w 0 rfl fr_X12_41 rfl dX12_image_37 ?_
  refine lv_iload_n hx hb dX12_image_40 rfl (lv_at hl 0 rfl) ?_
  refine r_iald C w 1 rfl (IX.of (k := 51) (by decide +kernel)) (v := 0) rfl dX12_image_41 ?_
  refine r_iast C w 2 rfl (IX.of (k := 51) (by decide +kernel)) (g := (fun _ => 0)) (upd_c _ _) dX12_image_42 (ws2 := [(q0, .inr (12, [.int 0, .int 0, .int 0, .int 0, .int 0, .int 0, .int 0, .int (-1), .ref q3, .ref q4, .ref q5, .int 0, .ref q6, .ref q7, .ref q8, .ref q9, .ref q10, .ref q1, .ref q2, .int 0, .ref q11, .ref q12, .ref q13, .ref q14, .ref q15, .ref q16, .ref q17, .int 0, .int (-1), .int 0, .ref q18, .ref q19, .ref q20, .ref q21, .ref q22, .ref q23, .ref q24, .ref q25, .int 0, .ref q26, .ref q27, .ref q28, .ref q29, .ref q30, .int 0, .ref q31, .ref q32, .ref q33, .ref q34, .int 0, .ref q35, .ref q36, .ref q37, .ref q38, .int 0, .int 0, .ref q39, .ref q40, .ref q41, .ref q42])), (q1, .inl (G.2.1, 57, .inl (fun _ => 0))), (q2, .inl (G.2.1, 171, .inl (fun _ => 0)))]) rfl (fun H locs w => ?_)
  refine lv_iinc (v := 52) (lv' := [(1, .int 52), (0, .ref q0)]) hx hb dX12_image_43 hl (k := 0) rfl (by decide +kernel) (by decide) rfl (fun ls hl => ?_)
  refine lv_goto (tgt := 17) hx hb dX12_image_46 (by decide) ?_
  refine lv_iload_n hx hb dX12_image_17 rfl (lv_at hl 0 rfl) ?_
  refine lv_bipush (v := 57) hx hb dX12_image_18 (by decide) ?_
  refine lv_icmp_ge (tgt := 49) hx hb dX12_image_20 (by decide) (fun h => absurd h (by decide)) (fun _ => ?_)
  refine lv_aload_n hx hb dX12_image_23 rfl (lv_at hl 1 rfl) ?_
  refine r_get C w 0 rfl fr_X12_44 rfl dX12_image_24 ?_
  refine lv_bipush (v := 57) hx hb dX12_image_27 (by decide) ?_
  refine lv_aload_n hx hb dX12_image_29 rfl (lv_at hl 1 rfl) ?_
  refine r_get C w 0 rfl fr_X12_283 rfl dX12_image_30 ?_
  refine lv_imul hx hb dX12_image_33 ?_
  refine z_i (v := 0) (by decide +kernel) ?_
  refine lv_iload_n hx hb dX12_image_34 rfl (lv_at hl 0 rfl) ?_
  refine lv_iadd hx hb dX12_image_35 ?_
  refine z_i (v := 52) (by decide +kernel) ?_
  refine lv_aload_n hx hb dX12_image_36 rfl (lv_at hl 1 rfl) ?_
  refine r_get C w 0 rfl fr_X12_41 rfl dX12_image_37 ?_
  refine lv_iload_n hx hb dX12_image_40 rfl (lv_at hl 0 rfl) ?_
  refine r_iald C w 1 rfl (IX.of (k := 52) (by decide +kernel)) (v := 0) rfl dX12_image_41 ?_
  refine r_iast C w 2 rfl (IX.of (k := 52) (by decide +kernel)) (g := (fun _ => 0)) (upd_c _ _) dX12_image_42 (ws2 := [(q0, .inr (12, [.int 0, .int 0, .int 0, .int 0, .int 0, .int 0, .int 0, .int (-1), .ref q3, .ref q4, .ref q5, .int 0, .ref q6, .ref q7, .ref q8, .ref q9, .ref q10, .ref q1, .ref q2, .int 0, .ref q11, .ref q12, .ref q13, .ref q14, .ref q15, .ref q16, .ref q17, .int 0, .int (-1), .int 0, .ref q18, .ref q19, .ref q20, .ref q21, .ref q22, .ref q23, .ref q24, .ref q25, .int 0, .ref q26, .ref q27, .ref q28, .ref q29, .ref q30, .int 0, .ref q31, .ref q32, .ref q33, .ref q34, .int 0, .ref q35, .ref q36, .ref q37, .ref q38, .int 0, .int 0, .ref q39, .ref q40, .ref q41, .ref q42])), (q1, .inl (G.2.1, 57, .inl (fun _ => 0))), (q2, .inl (G.2.1, 171, .inl (fun _ => 0)))]) rfl (fun H locs w => ?_)
  refine lv_iinc (v := 53) (lv' := [(1, .int 53), (0, .ref q0)]) hx hb dX12_image_43 hl (k := 0) rfl (by decide +kernel) (by decide) rfl (fun ls hl => ?_)
  refine lv_goto (tgt := 17) hx hb dX12_image_46 (by decide) ?_
  refine lv_iload_n hx hb dX12_image_17 rfl (lv_at hl 0 rfl) ?_
  refine lv_bipush (v := 57) hx hb dX12_image_18 (by decide) ?_
  refine lv_icmp_ge (tgt := 49) hx hb dX12_image_20 (by decide) (fun h => absurd h (by decide)) (fun _ => ?_)
  refine lv_aload_n hx hb dX12_image_23 rfl (lv_at hl 1 rfl) ?_
  refine r_get C w 0 rfl fr_X12_44 rfl dX12_image_24 ?_
  refine lv_bipush (v := 57) hx hb dX12_image_27 (by decide) ?_
  refine lv_aload_n hx hb dX12_image_29 rfl (lv_at hl 1 rfl) ?_
  refine r_get C w 0 rfl fr_X12_283 rfl dX12_image_30 ?_
  refine lv_imul hx hb dX12_image_33 ?_
  refine z_i (v := 0) (by decide +kernel) ?_
  refine lv_iload_n hx hb dX12_image_34 rfl (lv_at hl 0 rfl) ?_
  refine lv_iadd hx hb dX12_image_35 ?_
  refine z_i (v := 53) (by decide +kernel) ?_
  refine lv_aload_n hx hb dX12_image_36 rfl (lv_at hl 1 rfl) ?_
  refine r_get C w 0 rfl fr_X12_41 rfl dX12_image_37 ?_
  refine lv_iload_n hx hb dX12_image_40 rfl (lv_at hl 0 rfl) ?_
  refine r_iald C w 1 rfl (IX.of (k := 53) (by decide +kernel)) (v := 0) rfl dX12_image_41 ?_
  refine r_iast C w 2 rfl (IX.of (k := 53) (by decide +kernel)) (g := (fun _ => 0)) (upd_c _ _) dX12_image_42 (ws2 := [(q0, .inr (12, [.int 0, .int 0, .int 0, .int 0, .int 0, .int 0, .int 0, .int (-1), .ref q3, .ref q4, .ref q5, .int 0, .ref q6, .ref q7, .ref q8, .ref q9, .ref q10, .ref q1, .ref q2, .int 0, .ref q11, .ref q12, .ref q13, .ref q14, .ref q15, .ref q16, .ref q17, .int 0, .int (-1), .int 0, .ref q18, .ref q19, .ref q20, .ref q21, .ref q22, .ref q23, .ref q24, .ref q25, .int 0, .ref q26, .ref q27, .ref q28, .ref q29, .ref q30, .int 0, .ref q31, .ref q32, .ref q33, .ref q34, .int 0, .ref q35, .ref q36, .ref q37, .ref q38, .int 0, .int 0, .ref q39, .ref q40, .ref q41, .ref q42])), (q1, .inl (G.2.1, 57, .inl (fun _ => 0))), (q2, .inl (G.2.1, 171, .inl (fun _ => 0)))]) rfl (fun H locs w => ?_)
  refine lv_iinc (v := 54) (lv' := [(1, .int 54), (0, .ref q0)]) hx hb dX12_image_43 hl (k := 0) rfl (by decide +kernel) (by decide) rfl (fun ls hl => ?_)
  refine lv_goto (tgt := 17) hx hb dX12_image_46 (by decide) ?_
  refine lv_iload_n hx hb dX12_image_17 rfl (lv_at hl 0 rfl) ?_
  refine lv_bipush (v := 57) hx hb dX12_image_18 (by decide) ?_
  refine lv_icmp_ge (tgt := 49) hx hb dX12_image_20 (by decide) (fun h => absurd h (by decide)) (fun _ => ?_)
  refine lv_aload_n hx hb dX12_image_23 rfl (lv_at hl 1 rfl) ?_
  refine r_get C w 0 rfl fr_X12_44 rfl dX12_image_24 ?_
  refine lv_bipush (v := 57) hx hb dX12_image_27 (by decide) ?_
  refine lv_aload_n hx hb dX12_image_29 rfl (lv_at hl 1 rfl) ?_
  refine r_get C w 0 rfl fr_X12_283 rfl dX12_image_30 ?_
  refine lv_imul hx hb dX12_image_33 ?_
  refine z_i (v := 0) (by decide +kernel) ?_
  refine lv_iload_n hx hb dX12_image_34 rfl (lv_at hl 0 rfl) ?_
  refine lv_iadd hx hb dX12_image_35 ?_
  refine z_i (v := 54) (by decide +kernel) ?_
  refine lv_aload_n hx hb dX12_image_36 rfl (lv_at hl 1 rfl) ?_
  refine r_get C w 0 rfl fr_X12_41 rfl dX12_image_37 ?_
  refine lv_iload_n hx hb dX12_image_40 rfl (lv_at hl 0 rfl) ?_
  refine r_iald C w 1 rfl (IX.of (k := 54) (by decide +kernel)) (v := 0) rfl dX12_image_41 ?_
  refine r_iast C w 2 rfl (IX.of (k := 54) (by decide +kernel)) (g := (fun _ => 0)) (upd_c _ _) dX12_image_42 (ws2 := [(q0, .inr (12, [.int 0, .int 0, .int 0, .int 0, .int 0, .int 0, .int 0, .int (-1), .ref q3, .ref q4, .ref q5, .int 0, .ref q6, .ref q7, .ref q8, .ref q9, .ref q10, .ref q1, .ref q2, .int 0, .ref q11, .ref q12, .ref q13, .ref q14, .ref q15, .ref q16, .ref q17, .int 0, .int (-1), .int 0, .ref q18, .ref q19, .ref q20, .ref q21, .ref q22, .ref q23, .ref q24, .ref q25, .int 0, .ref q26, .ref q27, .ref q28, .ref q29, .ref q30, .int 0, .ref q31, .ref q32, .ref q33, .ref q34, .int 0, .ref q35, .ref q36, .ref q37, .ref q38, .int 0, .int 0, .ref q39, .ref q40, .ref q41, .ref q42])), (q1, .inl (G.2.1, 57, .inl (fun _ => 0))), (q2, .inl (G.2.1, 171, .inl (fun _ => 0)))]) rfl (fun H locs w => ?_)
  refine lv_iinc (v := 55) (lv' := [(1, .int 55), (0, .ref q0)]) hx hb dX12_image_43 hl (k := 0) rfl (by decide +kernel) (by decide) rfl (fun ls hl => ?_)
  refine lv_goto (tgt := 17) hx hb dX12_image_46 (by decide) ?_
  refine lv_iload_n hx hb dX12_image_17 rfl (lv_at hl 0 rfl) ?_
  refine lv_bipush (v := 57) hx hb dX12_image_18 (by decide) ?_
  refine lv_icmp_ge (tgt := 49) hx hb dX12_image_20 (by decide) (fun h => absurd h (by decide)) (fun _ => ?_)
  refine lv_aload_n hx hb dX12_image_23 rfl (lv_at hl 1 rfl) ?_
  refine r_get C w 0 rfl fr_X12_44 rfl dX12_image_24 ?_
  refine lv_bipush (v := 57) hx hb dX12_image_27 (by decide) ?_
  refine lv_aload_n hx hb dX12_image_29 rfl (lv_at hl 1 rfl) ?_
  refine r_get C w 0 rfl fr_X12_283 rfl dX12_image_30 ?_
  refine lv_imul hx hb dX12_image_33 ?_
  refine z_i (v := 0) (by decide +kernel) ?_
  refine lv_iload_n hx hb dX12_image_34 rfl (lv_at hl 0 rfl) ?_
  refine lv_iadd hx hb dX12_image_35 ?_
  refine z_i (v := 55) (by decide +kernel) ?_
  refine lv_aload_n hx hb dX12_image_36 rfl (lv_at hl 1 rfl) ?_
  refine r_get C w 0 rfl fr_X12_41 rfl dX12_image_37 ?_
  refine lv_iload_n hx hb dX12_image_40 rfl (lv_at hl 0 rfl) ?_
  refine r_iald C w 1 rfl (IX.of (k := 55) (by decide +kernel)) (v := 0) rfl dX12_image_41 ?_
  refine r_iast C w 2 rfl (IX.of (k := 55) (by decide +kernel)) (g := (fun _ => 0)) (upd_c _ _) dX12_image_42 (ws2 := [(q0, .inr (12, [.int 0, .int 0, .int 0, .int 0, .int 0, .int 0, .int 0, .int (-1), .ref q3, .ref q4, .ref q5, .int 0, .ref q6, .ref q7, .ref q8, .ref q9, .ref q10, .ref q1, .ref q2, .int 0, .ref q11, .ref q12, .ref q13, .ref q14, .ref q15, .ref q16, .ref q17, .int 0, .int (-1), .int 0, .ref q18, .ref q19, .ref q20, .ref q21, .ref q22, .ref q23, .ref q24, .ref q25, .int 0, .ref q26, .ref q27, .ref q28, .ref q29, .ref q30, .int 0, .ref q31, .ref q32, .ref q33, .ref q34, .int 0, .ref q35, .ref q36, .ref q37, .ref q38, .int 0, .int 0, .ref q39, .ref q40, .ref q41, .ref q42])), (q1, .inl (G.2.1, 57, .inl (fun _ => 0))), (q2, .inl (G.2.1, 171, .inl (fun _ => 0)))]) rfl (fun H locs w => ?_)
  refine lv_iinc (v := 56) (lv' := [(1, .int 56), (0, .ref q0)]) hx hb dX12_image_43 hl (k := 0) rfl (by decide +kernel) (by decide) rfl (fun ls hl => ?_)
  refine lv_goto (tgt := 17) hx hb dX12_image_46 (by decide) ?_
  refine lv_iload_n hx hb dX12_image_17 rfl (lv_at hl 0 rfl) ?_
  refine lv_bipush (v := 57) hx hb dX12_image_18 (by decide) ?_
  refine lv_icmp_ge (tgt := 49) hx hb dX12_image_20 (by decide) (fun h => absurd h (by decide)) (fun _ => ?_)
  refine lv_aload_n hx hb dX12_image_23 rfl (lv_at hl 1 rfl) ?_
  refine r_get C w 0 rfl fr_X12_44 rfl dX12_image_24 ?_
  refine lv_bipush (v := 57) hx hb dX12_image_27 (by decide) ?_
  refine lv_aload_n hx hb dX12_image_29 rfl (lv_at hl 1 rfl) ?_
  refine r_get C w 0 rfl fr_X12_283 rfl dX12_image_30 ?_
  refine lv_imul hx hb dX12_image_33 ?_
  refine z_i (v := 0) (by decide +kernel) ?_
  refine lv_iload_n hx hb dX12_image_34 rfl (lv_at hl 0 rfl) ?_
  refine lv_iadd hx hb dX12_image_35 ?_
  refine z_i (v := 56) (by decide +kernel) ?_
  refine lv_aload_n hx hb dX12_image_36 rfl (lv_at hl 1 rfl) ?_
  refine r_get C w 0 rfl fr_X12_41 rfl dX12_image_37 ?_
  refine lv_iload_n hx hb dX12_image_40 rfl (lv_at hl 0 rfl) ?_
  refine r_iald C w 1 rfl (IX.of (k := 56) (by decide +kernel)) (v := 0) rfl dX12_image_41 ?_
  refine r_iast C w 2 rfl (IX.of (k := 56) (by decide +kernel)) (g := (fun _ => 0)) (upd_c _ _) dX12_image_42 (ws2 := [(q0, .inr (12, [.int 0, .int 0, .int 0, .int 0, .int 0, .int 0, .int 0, .int (-1), .ref q3, .ref q4, .ref q5, .int 0, .ref q6, .ref q7, .ref q8, .ref q9, .ref q10, .ref q1, .ref q2, .int 0, .ref q11, .ref q12, .ref q13, .ref q14, .ref q15, .ref q16, .ref q17, .int 0, .int (-1), .int 0, .ref q18, .ref q19, .ref q20, .ref q21, .ref q22, .ref q23, .ref q24, .ref q25, .int 0, .ref q26, .ref q27, .ref q28, .ref q29, .ref q30, .int 0, .ref q31, .ref q32, .ref q33, .ref q34, .int 0, .ref q35, .ref q36, .ref q37, .ref q38, .int 0, .int 0, .ref q39, .ref q40, .ref q41, .ref q42])), (q1, .inl (G.2.1, 57, .inl (fun _ => 0))), (q2, .inl (G.2.1, 171, .inl (fun _ => 0)))]) rfl (fun H locs w => ?_)
  refine lv_iinc (v := 57) (lv' := [(1, .int 57), (0, .ref q0)]) hx hb dX12_image_43 hl (k := 0) rfl (by decide +kernel) (by decide) rfl (fun ls hl => ?_)
  refine lv_goto (tgt := 17) hx hb dX12_image_46 (by decide) ?_
  refine lv_iload_n hx hb dX12_image_17 rfl (lv_at hl 0 rfl) ?_
  refine lv_bipush (v := 57) hx hb dX12_image_18 (by decide) ?_
  refine lv_icmp_ge (tgt := 49) hx hb dX12_image_20 (by decide) (fun _ => ?_) (fun h => absurd (by decide) h)
  refine lv_aload_n hx hb dX12_image_49 rfl (lv_at hl 1 rfl) ?_
  refine lv_dup hx hb dX12_image_50 rfl ?_
  refine r_get C w 0 rfl fr_X12_283 rfl dX12_image_51 ?_
  refine lv_iconst (v := 1) hx hb dX12_image_54 (by decide) ?_
  refine lv_iadd hx hb dX12_image_55 ?_
  refine z_i (v := 1) (by decide +kernel) ?_
  refine r_put C w 0 rfl fl_X12_283 (Nat.le_of_ble_eq_true rfl) rfl rfl dX12_image_56 (ws2 := [(q0, .inr (12, [.int 0, .int 0, .int 0, .int 0, .int 0, .int 0, .int 0, .int (-1), .ref q3, .ref q4, .ref q5, .int 0, .ref q6, .ref q7, .ref q8, .ref q9, .ref q10, .ref q1, .ref q2, .int 1, .ref q11, .ref q12, .ref q13, .ref q14, .ref q15, .ref q16, .ref q17, .int 0, .int (-1), .int 0, .ref q18, .ref q19, .ref q20, .ref q21, .ref q22, .ref q23, .ref q24, .ref q25, .int 0, .ref q26, .ref q27, .ref q28, .ref q29, .ref q30, .int 0, .ref q31, .ref q32, .ref q33, .ref q34, .int 0, .ref q35, .ref q36, .ref q37, .ref q38, .int 0, .int 0, .ref q39, .ref q40, .ref q41, .ref q42])), (q1, .inl (G.2.1, 57, .inl (fun _ => 0))), (q2, .inl (G.2.1, 171, .inl (fun _ => 0)))]) rfl (fun H locs w => ?_)
  refine lv_aload_n hx hb dX12_image_59 rfl (lv_at hl 1 rfl) ?_
  refine r_get C w 0 rfl fr_X12_283 rfl dX12_image_60 ?_
  exact e_i C hr w (fun _ => 0) [0, 1, 2] rfl rfl rfl dX12_image_63 (by decide) (by decide)
