theorem fl_X0_15 : FL RX0 15 0 2 (.array .long) true := ⟨_, _, _, _, cls0, by decide, List.mem_of_getElem? (i := 235) (by decide +kernel), by decide +kernel, rfl, fun h => rfl⟩
theorem fl_X0_18 : FL RX0 18 0 3 (.array .int) true := ⟨_, _, _, _, cls0, by decide, List.mem_of_getElem? (i := 236) (by decide +kernel), by decide +kernel, rfl, fun h => rfl⟩
theorem fl_X0_9 : FL RX0 9 0 0 (.array .long) true := ⟨_, _, _, _, cls0, by decide, List.mem_of_getElem? (i := 231) (by decide +kernel), by decide +kernel, rfl, fun h => rfl⟩
theorem fl_X11_16 : FL RX11 16 11 1 (.object "TokenHall$Reader") true := ⟨_, _, _, _, cls11, by decide, List.mem_of_getElem? (i := 377) (by decide +kernel), by decide +kernel, rfl, fun h => rfl⟩
theorem fl_X11_23 : FL RX11 23 11 2 (.object "TokenHall$Stand") true := ⟨_, _, _, _, cls11, by decide, List.mem_of_getElem? (i := 378) (by decide +kernel), by decide +kernel, rfl, fun h => rfl⟩
theorem fl_X11_27 : FL RX11 27 11 3 (.array (.object "TokenHall$Stand")) true := ⟨_, _, _, _, cls11, by decide, List.mem_of_getElem? (i := 379) (by decide +kernel), by decide +kernel, rfl, fun h => rfl⟩
theorem fl_X11_34 : FL RX11 34 11 4 (.object "TokenHall$Base") true := ⟨_, _, _, _, cls11, by decide, List.mem_of_getElem? (i := 380) (by decide +kernel), by decide +kernel, rfl, fun h => rfl⟩
theorem fl_X11_38 : FL RX11 38 11 5 (.object "TokenHall$Base") true := ⟨_, _, _, _, cls11, by decide, List.mem_of_getElem? (i := 381) (by decide +kernel), by decide +kernel, rfl, fun h => rfl⟩
theorem fl_X11_44 : FL RX11 44 11 6 (.object "TokenHall$Shape") true := ⟨_, _, _, _, cls11, by decide, List.mem_of_getElem? (i := 382) (by decide +kernel), by decide +kernel, rfl, fun h => rfl⟩
theorem fl_X11_48 : FL RX11 48 11 7 (.array .int) true := ⟨_, _, _, _, cls11, by decide, List.mem_of_getElem? (i := 383) (by decide +kernel), by decide +kernel, rfl, fun h => rfl⟩
theorem fl_X11_54 : FL RX11 54 11 8 (.object "TokenHall$Net") false := ⟨_, _, _, _, cls11, by decide, List.mem_of_getElem? (i := 384) (by decide +kernel), by decide +kernel, rfl, fun h => nomatch h⟩
theorem fl_X11_58 : FL RX11 58 11 9 (.object "TokenHall$Net") false := ⟨_, _, _, _, cls11, by decide, List.mem_of_getElem? (i := 385) (by decide +kernel), by decide +kernel, rfl, fun h => nomatch h⟩
theorem fl_X11_61 : FL RX11 61 11 11 .int false := ⟨_, _, _, _, cls11, by decide, List.mem_of_getElem? (i := 387) (by decide +kernel), by decide +kernel, rfl, fun h => nomatch h⟩
theorem fl_X11_9 : FL RX11 9 11 0 (.array .int) true := ⟨_, _, _, _, cls11, by decide, List.mem_of_getElem? (i := 376) (by decide +kernel), by decide +kernel, rfl, fun h => rfl⟩
theorem fl_X2_15 : FL RX2 15 2 3 (.array .int) true := ⟨_, _, _, _, cls2, by decide, List.mem_of_getElem? (i := 303) (by decide +kernel), by decide +kernel, rfl, fun h => rfl⟩
theorem fl_X2_18 : FL RX2 18 2 4 (.array .int) true := ⟨_, _, _, _, cls2, by decide, List.mem_of_getElem? (i := 306) (by decide +kernel), by decide +kernel, rfl, fun h => rfl⟩
theorem fl_X2_21 : FL RX2 21 2 5 (.array .int) true := ⟨_, _, _, _, cls2, by decide, List.mem_of_getElem? (i := 310) (by decide +kernel), by decide +kernel, rfl, fun h => rfl⟩
theorem fl_X2_24 : FL RX2 24 2 6 (.array .int) true := ⟨_, _, _, _, cls2, by decide, List.mem_of_getElem? (i := 315) (by decide +kernel), by decide +kernel, rfl, fun h => rfl⟩
theorem fl_X2_27 : FL RX2 27 2 7 (.array .int) true := ⟨_, _, _, _, cls2, by decide, List.mem_of_getElem? (i := 321) (by decide +kernel), by decide +kernel, rfl, fun h => rfl⟩
theorem fl_X2_30 : FL RX2 30 2 8 (.array .int) true := ⟨_, _, _, _, cls2, by decide, List.mem_of_getElem? (i := 327) (by decide +kernel), by decide +kernel, rfl, fun h => rfl⟩
theorem fl_X2_33 : FL RX2 33 2 9 (.array .int) true := ⟨_, _, _, _, cls2, by decide, List.mem_of_getElem? (i := 331) (by decide +kernel), by decide +kernel, rfl, fun h => rfl⟩
theorem fl_X2_36 : FL RX2 36 2 10 (.array .int) true := ⟨_, _, _, _, cls2, by decide, List.mem_of_getElem? (i := 333) (by decide +kernel), by decide +kernel, rfl, fun h => rfl⟩
theorem fl_X2_39 : FL RX2 39 2 11 (.array .int) true := ⟨_, _, _, _, cls2, by decide, List.mem_of_getElem? (i := 335) (by decide +kernel), by decide +kernel, rfl, fun h => rfl⟩
theorem fl_X2_42 : FL RX2 42 2 12 (.array .int) true := ⟨_, _, _, _, cls2, by decide, List.mem_of_getElem? (i := 336) (by decide +kernel), by decide +kernel, rfl, fun h => rfl⟩
theorem fl_X2_45 : FL RX2 45 2 13 (.array .int) true := ⟨_, _, _, _, cls2, by decide, List.mem_of_getElem? (i := 337) (by decide +kernel), by decide +kernel, rfl, fun h => rfl⟩
theorem fl_X2_48 : FL RX2 48 2 14 (.array .int) true := ⟨_, _, _, _, cls2, by decide, List.mem_of_getElem? (i := 338) (by decide +kernel), by decide +kernel, rfl, fun h => rfl⟩
theorem fl_X2_51 : FL RX2 51 2 15 (.array .int) true := ⟨_, _, _, _, cls2, by decide, List.mem_of_getElem? (i := 339) (by decide +kernel), by decide +kernel, rfl, fun h => rfl⟩
theorem fl_X2_9 : FL RX2 9 2 2 (.array .int) true := ⟨_, _, _, _, cls2, by decide, List.mem_of_getElem? (i := 300) (by decide +kernel), by decide +kernel, rfl, fun h => rfl⟩
theorem fl_X3_9 : FL RX3 9 3 0 .int false := ⟨_, _, _, _, cls3, by decide, List.mem_of_getElem? (i := 165) (by decide +kernel), by decide +kernel, rfl, fun h => nomatch h⟩
theorem fl_X4_11 : FL RX4 11 4 0 (.array .int) true := ⟨_, _, _, _, cls4, by decide, List.mem_of_getElem? (i := 259) (by decide +kernel), by decide +kernel, rfl, fun h => rfl⟩
theorem fl_X4_15 : FL RX4 15 4 1 (.array .int) true := ⟨_, _, _, _, cls4, by decide, List.mem_of_getElem? (i := 260) (by decide +kernel), by decide +kernel, rfl, fun h => rfl⟩
theorem fl_X4_18 : FL RX4 18 4 2 (.array .int) true := ⟨_, _, _, _, cls4, by decide, List.mem_of_getElem? (i := 261) (by decide +kernel), by decide +kernel, rfl, fun h => rfl⟩
theorem fl_X4_21 : FL RX4 21 4 3 (.array .int) true := ⟨_, _, _, _, cls4, by decide, List.mem_of_getElem? (i := 262) (by decide +kernel), by decide +kernel, rfl, fun h => rfl⟩
theorem fl_X5_15 : FL RX5 15 5 1 (.array .int) true := ⟨_, _, _, _, cls5, by decide, List.mem_of_getElem? (i := 209) (by decide +kernel), by decide +kernel, rfl, fun h => rfl⟩
theorem fl_X5_18 : FL RX5 18 5 2 (.array .int) true := ⟨_, _, _, _, cls5, by decide, List.mem_of_getElem? (i := 211) (by decide +kernel), by decide +kernel, rfl, fun h => rfl⟩
theorem fl_X5_9 : FL RX5 9 5 0 (.array .int) true := ⟨_, _, _, _, cls5, by decide, List.mem_of_getElem? (i := 207) (by decide +kernel), by decide +kernel, rfl, fun h => rfl⟩
theorem fr_X11_27 : FR RX11 27 11 3 := ⟨_, _, _, _, cls11, by decide, List.mem_of_getElem? (i := 379) (by decide +kernel)⟩
theorem mn_X11_15 : MN RX11 15 yX3_init "TokenHall" cX3_init 1 0 := ⟨List.mem_of_getElem? (i := 161) (by decide +kernel), List.mem_of_getElem? (i := 162) (by decide +kernel), List.mem_of_getElem? (i := 125) (by decide +kernel), List.mem_of_getElem? (i := 163) (by decide +kernel), by decide +kernel, by decide +kernel, rfl⟩
theorem mn_X11_22 : MN RX11 22 yX5_init "TokenHall" cX5_init 1 0 := ⟨List.mem_of_getElem? (i := 203) (by decide +kernel), List.mem_of_getElem? (i := 204) (by decide +kernel), List.mem_of_getElem? (i := 126) (by decide +kernel), List.mem_of_getElem? (i := 205) (by decide +kernel), by decide +kernel, by decide +kernel, rfl⟩
theorem mn_X11_33 : MN RX11 33 yX0_init "TokenHall" cX0_init 1 0 := ⟨List.mem_of_getElem? (i := 227) (by decide +kernel), List.mem_of_getElem? (i := 228) (by decide +kernel), List.mem_of_getElem? (i := 127) (by decide +kernel), List.mem_of_getElem? (i := 229) (by decide +kernel), by decide +kernel, by decide +kernel, rfl⟩
theorem mn_X11_43 : MN RX11 43 yX4_init "TokenHall" cX4_init 1 0 := ⟨List.mem_of_getElem? (i := 255) (by decide +kernel), List.mem_of_getElem? (i := 256) (by decide +kernel), List.mem_of_getElem? (i := 128) (by decide +kernel), List.mem_of_getElem? (i := 257) (by decide +kernel), by decide +kernel, by decide +kernel, rfl⟩
theorem mn_X11_53 : MN RX11 53 yX2_init "TokenHall" cX2_init 1 0 := ⟨List.mem_of_getElem? (i := 277) (by decide +kernel), List.mem_of_getElem? (i := 278) (by decide +kernel), List.mem_of_getElem? (i := 129) (by decide +kernel), List.mem_of_getElem? (i := 279) (by decide +kernel), by decide +kernel, by decide +kernel, rfl⟩
theorem no_X11_13 : NO RX11 13 3 11 [.int 0, .int 0, .null, .int 0, .int 0, .int 0, .int 0, .int 0, .int 0, .int 0, .null] := ⟨_, _, _, cls3, List.mem_of_getElem? (i := 159) (by decide +kernel), List.mem_of_getElem? (i := 160) (by decide +kernel), List.mem_of_getElem? (i := 125) (by decide +kernel), rfl⟩
theorem no_X11_20 : NO RX11 20 5 4 [.null, .null, .null, .int 0] := ⟨_, _, _, cls5, List.mem_of_getElem? (i := 201) (by decide +kernel), List.mem_of_getElem? (i := 202) (by decide +kernel), List.mem_of_getElem? (i := 126) (by decide +kernel), rfl⟩
theorem no_X11_31 : NO RX11 31 0 6 [.null, .int 0, .null, .null, .int 0, .int 0] := ⟨_, _, _, cls0, List.mem_of_getElem? (i := 225) (by decide +kernel), List.mem_of_getElem? (i := 226) (by decide +kernel), List.mem_of_getElem? (i := 127) (by decide +kernel), rfl⟩
theorem no_X11_41 : NO RX11 41 4 5 [.null, .null, .null, .null, .null] := ⟨_, _, _, cls4, List.mem_of_getElem? (i := 253) (by decide +kernel), List.mem_of_getElem? (i := 254) (by decide +kernel), List.mem_of_getElem? (i := 128) (by decide +kernel), rfl⟩
theorem no_X11_51 : NO RX11 51 2 17 [.int 0, .int 0, .null, .null, .null, .null, .null, .null, .null, .null, .null, .null, .null, .null, .null, .null, .int 0] := ⟨_, _, _, cls2, List.mem_of_getElem? (i := 275) (by decide +kernel), List.mem_of_getElem? (i := 276) (by decide +kernel), List.mem_of_getElem? (i := 129) (by decide +kernel), rfl⟩
theorem to_X0_3 : Cond.methodLink RX0 3 Lib.objectInit ∈ lw_tbl := List.mem_of_getElem? (i := 230) (by decide +kernel)
theorem to_X11_3 : Cond.methodLink RX11 3 Lib.objectInit ∈ lw_tbl := List.mem_of_getElem? (i := 156) (by decide +kernel)
theorem to_X2_3 : Cond.methodLink RX2 3 Lib.objectInit ∈ lw_tbl := List.mem_of_getElem? (i := 280) (by decide +kernel)
theorem to_X3_3 : Cond.methodLink RX3 3 Lib.objectInit ∈ lw_tbl := List.mem_of_getElem? (i := 164) (by decide +kernel)
theorem to_X4_3 : Cond.methodLink RX4 3 Lib.objectInit ∈ lw_tbl := List.mem_of_getElem? (i := 258) (by decide +kernel)
theorem to_X5_3 : Cond.methodLink RX5 3 Lib.objectInit ∈ lw_tbl := List.mem_of_getElem? (i := 206) (by decide +kernel)
theorem tq_X11_20 : Cond.classLink RX11 20 "TokenHall$Stand" ∈ lw_tbl := List.mem_of_getElem? (i := 201) (by decide +kernel)
