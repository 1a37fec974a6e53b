theorem cp_X10_52 : CP RX10 52 := ⟨List.mem_of_getElem? (i := 1542) (by decide +kernel), List.mem_of_getElem? (i := 455) (by decide +kernel), List.mem_of_getElem? (i := 141) (by decide +kernel)⟩
theorem cp_X11_155 : CP RX11 155 := ⟨List.mem_of_getElem? (i := 454) (by decide +kernel), List.mem_of_getElem? (i := 455) (by decide +kernel), List.mem_of_getElem? (i := 141) (by decide +kernel)⟩
theorem cp_X5_26 : CP RX5 26 := ⟨List.mem_of_getElem? (i := 684) (by decide +kernel), List.mem_of_getElem? (i := 455) (by decide +kernel), List.mem_of_getElem? (i := 141) (by decide +kernel)⟩
theorem cp_X7_42 : CP RX7 42 := ⟨List.mem_of_getElem? (i := 580) (by decide +kernel), List.mem_of_getElem? (i := 455) (by decide +kernel), List.mem_of_getElem? (i := 141) (by decide +kernel)⟩
theorem cp_X9_28 : CP RX9 28 := ⟨List.mem_of_getElem? (i := 1650) (by decide +kernel), List.mem_of_getElem? (i := 455) (by decide +kernel), List.mem_of_getElem? (i := 141) (by decide +kernel)⟩
theorem fl_X0_15 : FL RX0 15 0 2 (.array .long) true := ⟨_, _, _, _, cls0, by decide, List.mem_of_getElem? (i := 235) (by decide +kernel), by decide +kernel, rfl, fun h => rfl⟩
theorem fl_X0_18 : FL RX0 18 0 3 (.array .int) true := ⟨_, _, _, _, cls0, by decide, List.mem_of_getElem? (i := 236) (by decide +kernel), by decide +kernel, rfl, fun h => rfl⟩
theorem fl_X0_9 : FL RX0 9 0 0 (.array .long) true := ⟨_, _, _, _, cls0, by decide, List.mem_of_getElem? (i := 231) (by decide +kernel), by decide +kernel, rfl, fun h => rfl⟩
theorem fl_X10_15 : FL RX10 15 10 1 .int false := ⟨_, _, _, _, cls10, by decide, List.mem_of_getElem? (i := 1514) (by decide +kernel), by decide +kernel, rfl, fun h => nomatch h⟩
theorem fl_X10_18 : FL RX10 18 10 2 .int false := ⟨_, _, _, _, cls10, by decide, List.mem_of_getElem? (i := 1516) (by decide +kernel), by decide +kernel, rfl, fun h => nomatch h⟩
theorem fl_X10_26 : FL RX10 26 10 3 (.object "TokenHall$Table") true := ⟨_, _, _, _, cls10, by decide, List.mem_of_getElem? (i := 1518) (by decide +kernel), by decide +kernel, rfl, fun h => rfl⟩
theorem fl_X10_30 : FL RX10 30 10 4 (.array .int) true := ⟨_, _, _, _, cls10, by decide, List.mem_of_getElem? (i := 1519) (by decide +kernel), by decide +kernel, rfl, fun h => rfl⟩
theorem fl_X10_34 : FL RX10 34 10 5 (.array .int) true := ⟨_, _, _, _, cls10, by decide, List.mem_of_getElem? (i := 1520) (by decide +kernel), by decide +kernel, rfl, fun h => rfl⟩
theorem fl_X10_37 : FL RX10 37 10 6 (.object "TokenHall$Net") false := ⟨_, _, _, _, cls10, by decide, List.mem_of_getElem? (i := 1521) (by decide +kernel), by decide +kernel, rfl, fun h => nomatch h⟩
theorem fl_X10_9 : FL RX10 9 10 0 .int false := ⟨_, _, _, _, cls10, by decide, List.mem_of_getElem? (i := 1512) (by decide +kernel), by decide +kernel, rfl, fun h => nomatch h⟩
theorem fl_X11_149 : FL RX11 149 5 3 .int false := ⟨_, _, _, _, cls5, by decide, List.mem_of_getElem? (i := 214) (by decide +kernel), by decide +kernel, rfl, fun h => nomatch h⟩
theorem fl_X11_16 : FL RX11 16 11 1 (.object "TokenHall$Reader") true := ⟨_, _, _, _, cls11, by decide, List.mem_of_getElem? (i := 377) (by decide +kernel), by decide +kernel, rfl, fun h => rfl⟩
theorem fl_X11_23 : FL RX11 23 11 2 (.object "TokenHall$Stand") true := ⟨_, _, _, _, cls11, by decide, List.mem_of_getElem? (i := 378) (by decide +kernel), by decide +kernel, rfl, fun h => rfl⟩
theorem fl_X11_27 : FL RX11 27 11 3 (.array (.object "TokenHall$Stand")) true := ⟨_, _, _, _, cls11, by decide, List.mem_of_getElem? (i := 379) (by decide +kernel), by decide +kernel, rfl, fun h => rfl⟩
theorem fl_X11_34 : FL RX11 34 11 4 (.object "TokenHall$Base") true := ⟨_, _, _, _, cls11, by decide, List.mem_of_getElem? (i := 380) (by decide +kernel), by decide +kernel, rfl, fun h => rfl⟩
theorem fl_X11_370 : FL RX11 370 11 14 (.object "TokenHall$Graph") false := ⟨_, _, _, _, cls11, by decide, List.mem_of_getElem? (i := 390) (by decide +kernel), by decide +kernel, rfl, fun h => nomatch h⟩
theorem fl_X11_38 : FL RX11 38 11 5 (.object "TokenHall$Base") true := ⟨_, _, _, _, cls11, by decide, List.mem_of_getElem? (i := 381) (by decide +kernel), by decide +kernel, rfl, fun h => rfl⟩
theorem fl_X11_381 : FL RX11 381 11 15 (.object "TokenHall$Study") false := ⟨_, _, _, _, cls11, by decide, List.mem_of_getElem? (i := 391) (by decide +kernel), by decide +kernel, rfl, fun h => nomatch h⟩
theorem fl_X11_386 : FL RX11 386 6 1 (.object "TokenHall$Graph") false := ⟨_, _, _, _, cls6, by decide, List.mem_of_getElem? (i := 1216) (by decide +kernel), by decide +kernel, rfl, fun h => nomatch h⟩
theorem fl_X11_391 : FL RX11 391 11 16 (.object "TokenHall$Tree") false := ⟨_, _, _, _, cls11, by decide, List.mem_of_getElem? (i := 392) (by decide +kernel), by decide +kernel, rfl, fun h => nomatch h⟩
theorem fl_X11_400 : FL RX11 400 11 17 (.object "TokenHall$Works") false := ⟨_, _, _, _, cls11, by decide, List.mem_of_getElem? (i := 393) (by decide +kernel), by decide +kernel, rfl, fun h => nomatch h⟩
theorem fl_X11_410 : FL RX11 410 11 18 (.object "TokenHall$Walk") false := ⟨_, _, _, _, cls11, by decide, List.mem_of_getElem? (i := 394) (by decide +kernel), by decide +kernel, rfl, fun h => nomatch h⟩
theorem fl_X11_44 : FL RX11 44 11 6 (.object "TokenHall$Shape") true := ⟨_, _, _, _, cls11, by decide, List.mem_of_getElem? (i := 382) (by decide +kernel), by decide +kernel, rfl, fun h => rfl⟩
theorem fl_X11_48 : FL RX11 48 11 7 (.array .int) true := ⟨_, _, _, _, cls11, by decide, List.mem_of_getElem? (i := 383) (by decide +kernel), by decide +kernel, rfl, fun h => rfl⟩
theorem fl_X11_54 : FL RX11 54 11 8 (.object "TokenHall$Net") false := ⟨_, _, _, _, cls11, by decide, List.mem_of_getElem? (i := 384) (by decide +kernel), by decide +kernel, rfl, fun h => nomatch h⟩
theorem fl_X11_58 : FL RX11 58 11 9 (.object "TokenHall$Net") false := ⟨_, _, _, _, cls11, by decide, List.mem_of_getElem? (i := 385) (by decide +kernel), by decide +kernel, rfl, fun h => nomatch h⟩
theorem fl_X11_61 : FL RX11 61 11 11 .int false := ⟨_, _, _, _, cls11, by decide, List.mem_of_getElem? (i := 387) (by decide +kernel), by decide +kernel, rfl, fun h => nomatch h⟩
theorem fl_X11_65 : FL RX11 65 11 10 .int false := ⟨_, _, _, _, cls11, by decide, List.mem_of_getElem? (i := 386) (by decide +kernel), by decide +kernel, rfl, fun h => nomatch h⟩
theorem fl_X11_88 : FL RX11 88 11 12 .int false := ⟨_, _, _, _, cls11, by decide, List.mem_of_getElem? (i := 388) (by decide +kernel), by decide +kernel, rfl, fun h => nomatch h⟩
theorem fl_X11_9 : FL RX11 9 11 0 (.array .int) true := ⟨_, _, _, _, cls11, by decide, List.mem_of_getElem? (i := 376) (by decide +kernel), by decide +kernel, rfl, fun h => rfl⟩
theorem fl_X12_1 : FL RX12 1 12 0 .int false := ⟨_, _, _, _, cls12, by decide, List.mem_of_getElem? (i := 1728) (by decide +kernel), by decide +kernel, rfl, fun h => nomatch h⟩
theorem fl_X12_103 : FL RX12 103 12 41 (.array .long) true := ⟨_, _, _, _, cls12, by decide, List.mem_of_getElem? (i := 1769) (by decide +kernel), by decide +kernel, rfl, fun h => rfl⟩
theorem fl_X12_106 : FL RX12 106 12 42 (.array .long) true := ⟨_, _, _, _, cls12, by decide, List.mem_of_getElem? (i := 1770) (by decide +kernel), by decide +kernel, rfl, fun h => rfl⟩
theorem fl_X12_109 : FL RX12 109 12 43 (.array .long) true := ⟨_, _, _, _, cls12, by decide, List.mem_of_getElem? (i := 1771) (by decide +kernel), by decide +kernel, rfl, fun h => rfl⟩
theorem fl_X12_112 : FL RX12 112 12 45 (.array .int) true := ⟨_, _, _, _, cls12, by decide, List.mem_of_getElem? (i := 1773) (by decide +kernel), by decide +kernel, rfl, fun h => rfl⟩
theorem fl_X12_115 : FL RX12 115 12 46 (.array .int) true := ⟨_, _, _, _, cls12, by decide, List.mem_of_getElem? (i := 1774) (by decide +kernel), by decide +kernel, rfl, fun h => rfl⟩
theorem fl_X12_118 : FL RX12 118 12 47 (.array .int) true := ⟨_, _, _, _, cls12, by decide, List.mem_of_getElem? (i := 1775) (by decide +kernel), by decide +kernel, rfl, fun h => rfl⟩
theorem fl_X12_121 : FL RX12 121 12 48 (.array .int) true := ⟨_, _, _, _, cls12, by decide, List.mem_of_getElem? (i := 1776) (by decide +kernel), by decide +kernel, rfl, fun h => rfl⟩
theorem fl_X12_124 : FL RX12 124 12 50 (.array .int) true := ⟨_, _, _, _, cls12, by decide, List.mem_of_getElem? (i := 1778) (by decide +kernel), by decide +kernel, rfl, fun h => rfl⟩
theorem fl_X12_127 : FL RX12 127 12 51 (.array .int) true := ⟨_, _, _, _, cls12, by decide, List.mem_of_getElem? (i := 1779) (by decide +kernel), by decide +kernel, rfl, fun h => rfl⟩
theorem fl_X12_13 : FL RX12 13 12 7 .int false := ⟨_, _, _, _, cls12, by decide, List.mem_of_getElem? (i := 1735) (by decide +kernel), by decide +kernel, rfl, fun h => nomatch h⟩
theorem fl_X12_130 : FL RX12 130 12 52 (.array .int) true := ⟨_, _, _, _, cls12, by decide, List.mem_of_getElem? (i := 1780) (by decide +kernel), by decide +kernel, rfl, fun h => rfl⟩
theorem fl_X12_133 : FL RX12 133 12 53 (.array .int) true := ⟨_, _, _, _, cls12, by decide, List.mem_of_getElem? (i := 1781) (by decide +kernel), by decide +kernel, rfl, fun h => rfl⟩
theorem fl_X12_136 : FL RX12 136 12 56 (.array .int) true := ⟨_, _, _, _, cls12, by decide, List.mem_of_getElem? (i := 1784) (by decide +kernel), by decide +kernel, rfl, fun h => rfl⟩
theorem fl_X12_139 : FL RX12 139 12 57 (.array .int) true := ⟨_, _, _, _, cls12, by decide, List.mem_of_getElem? (i := 1785) (by decide +kernel), by decide +kernel, rfl, fun h => rfl⟩
theorem fl_X12_142 : FL RX12 142 12 58 (.array .int) true := ⟨_, _, _, _, cls12, by decide, List.mem_of_getElem? (i := 1786) (by decide +kernel), by decide +kernel, rfl, fun h => rfl⟩
theorem fl_X12_145 : FL RX12 145 12 59 (.array .int) true := ⟨_, _, _, _, cls12, by decide, List.mem_of_getElem? (i := 1787) (by decide +kernel), by decide +kernel, rfl, fun h => rfl⟩
theorem fl_X12_148 : FL RX12 148 12 1 .int false := ⟨_, _, _, _, cls12, by decide, List.mem_of_getElem? (i := 1729) (by decide +kernel), by decide +kernel, rfl, fun h => nomatch h⟩
theorem fl_X12_151 : FL RX12 151 12 4 .int false := ⟨_, _, _, _, cls12, by decide, List.mem_of_getElem? (i := 1732) (by decide +kernel), by decide +kernel, rfl, fun h => nomatch h⟩
theorem fl_X12_154 : FL RX12 154 12 5 .int false := ⟨_, _, _, _, cls12, by decide, List.mem_of_getElem? (i := 1733) (by decide +kernel), by decide +kernel, rfl, fun h => nomatch h⟩
theorem fl_X12_157 : FL RX12 157 12 3 .int false := ⟨_, _, _, _, cls12, by decide, List.mem_of_getElem? (i := 1731) (by decide +kernel), by decide +kernel, rfl, fun h => nomatch h⟩
theorem fl_X12_16 : FL RX12 16 12 8 (.array .int) true := ⟨_, _, _, _, cls12, by decide, List.mem_of_getElem? (i := 1736) (by decide +kernel), by decide +kernel, rfl, fun h => rfl⟩
theorem fl_X12_160 : FL RX12 160 12 2 .int false := ⟨_, _, _, _, cls12, by decide, List.mem_of_getElem? (i := 1730) (by decide +kernel), by decide +kernel, rfl, fun h => nomatch h⟩
theorem fl_X12_191 : FL RX12 191 12 11 .int false := ⟨_, _, _, _, cls12, by decide, List.mem_of_getElem? (i := 1739) (by decide +kernel), by decide +kernel, rfl, fun h => nomatch h⟩
theorem fl_X12_194 : FL RX12 194 12 6 .int false := ⟨_, _, _, _, cls12, by decide, List.mem_of_getElem? (i := 1734) (by decide +kernel), by decide +kernel, rfl, fun h => nomatch h⟩
theorem fl_X12_20 : FL RX12 20 12 9 (.array .int) true := ⟨_, _, _, _, cls12, by decide, List.mem_of_getElem? (i := 1737) (by decide +kernel), by decide +kernel, rfl, fun h => rfl⟩
theorem fl_X12_23 : FL RX12 23 12 10 (.array .int) true := ⟨_, _, _, _, cls12, by decide, List.mem_of_getElem? (i := 1738) (by decide +kernel), by decide +kernel, rfl, fun h => rfl⟩
theorem fl_X12_26 : FL RX12 26 12 12 (.array .int) true := ⟨_, _, _, _, cls12, by decide, List.mem_of_getElem? (i := 1740) (by decide +kernel), by decide +kernel, rfl, fun h => rfl⟩
theorem fl_X12_283 : FL RX12 283 12 19 .int false := ⟨_, _, _, _, cls12, by decide, List.mem_of_getElem? (i := 1747) (by decide +kernel), by decide +kernel, rfl, fun h => nomatch h⟩
theorem fl_X12_29 : FL RX12 29 12 13 (.array .int) true := ⟨_, _, _, _, cls12, by decide, List.mem_of_getElem? (i := 1741) (by decide +kernel), by decide +kernel, rfl, fun h => rfl⟩
theorem fl_X12_32 : FL RX12 32 12 14 (.array .int) true := ⟨_, _, _, _, cls12, by decide, List.mem_of_getElem? (i := 1742) (by decide +kernel), by decide +kernel, rfl, fun h => rfl⟩
theorem fl_X12_322 : FL RX12 322 12 27 .int false := ⟨_, _, _, _, cls12, by decide, List.mem_of_getElem? (i := 1755) (by decide +kernel), by decide +kernel, rfl, fun h => nomatch h⟩
theorem fl_X12_325 : FL RX12 325 12 29 .boolean false := ⟨_, _, _, _, cls12, by decide, List.mem_of_getElem? (i := 1757) (by decide +kernel), by decide +kernel, rfl, fun h => nomatch h⟩
theorem fl_X12_35 : FL RX12 35 12 15 (.array .int) true := ⟨_, _, _, _, cls12, by decide, List.mem_of_getElem? (i := 1743) (by decide +kernel), by decide +kernel, rfl, fun h => rfl⟩
theorem fl_X12_354 : FL RX12 354 12 38 .int false := ⟨_, _, _, _, cls12, by decide, List.mem_of_getElem? (i := 1766) (by decide +kernel), by decide +kernel, rfl, fun h => nomatch h⟩
theorem fl_X12_38 : FL RX12 38 12 16 (.array .int) true := ⟨_, _, _, _, cls12, by decide, List.mem_of_getElem? (i := 1744) (by decide +kernel), by decide +kernel, rfl, fun h => rfl⟩
theorem fl_X12_386 : FL RX12 386 12 44 .int false := ⟨_, _, _, _, cls12, by decide, List.mem_of_getElem? (i := 1772) (by decide +kernel), by decide +kernel, rfl, fun h => nomatch h⟩
theorem fl_X12_392 : FL RX12 392 12 49 .int false := ⟨_, _, _, _, cls12, by decide, List.mem_of_getElem? (i := 1777) (by decide +kernel), by decide +kernel, rfl, fun h => nomatch h⟩
theorem fl_X12_41 : FL RX12 41 12 17 (.array .int) true := ⟨_, _, _, _, cls12, by decide, List.mem_of_getElem? (i := 1745) (by decide +kernel), by decide +kernel, rfl, fun h => rfl⟩
theorem fl_X12_44 : FL RX12 44 12 18 (.array .int) true := ⟨_, _, _, _, cls12, by decide, List.mem_of_getElem? (i := 1746) (by decide +kernel), by decide +kernel, rfl, fun h => rfl⟩
theorem fl_X12_444 : FL RX12 444 12 54 .int false := ⟨_, _, _, _, cls12, by decide, List.mem_of_getElem? (i := 1782) (by decide +kernel), by decide +kernel, rfl, fun h => nomatch h⟩
theorem fl_X12_447 : FL RX12 447 12 55 .int false := ⟨_, _, _, _, cls12, by decide, List.mem_of_getElem? (i := 1783) (by decide +kernel), by decide +kernel, rfl, fun h => nomatch h⟩
theorem fl_X12_47 : FL RX12 47 12 20 (.array .int) true := ⟨_, _, _, _, cls12, by decide, List.mem_of_getElem? (i := 1748) (by decide +kernel), by decide +kernel, rfl, fun h => rfl⟩
theorem fl_X12_50 : FL RX12 50 12 21 (.array .int) true := ⟨_, _, _, _, cls12, by decide, List.mem_of_getElem? (i := 1749) (by decide +kernel), by decide +kernel, rfl, fun h => rfl⟩
theorem fl_X12_53 : FL RX12 53 12 22 (.array .int) true := ⟨_, _, _, _, cls12, by decide, List.mem_of_getElem? (i := 1750) (by decide +kernel), by decide +kernel, rfl, fun h => rfl⟩
theorem fl_X12_56 : FL RX12 56 12 23 (.array .int) true := ⟨_, _, _, _, cls12, by decide, List.mem_of_getElem? (i := 1751) (by decide +kernel), by decide +kernel, rfl, fun h => rfl⟩
theorem fl_X12_59 : FL RX12 59 12 24 (.array .int) true := ⟨_, _, _, _, cls12, by decide, List.mem_of_getElem? (i := 1752) (by decide +kernel), by decide +kernel, rfl, fun h => rfl⟩
theorem fl_X12_62 : FL RX12 62 12 25 (.array .int) true := ⟨_, _, _, _, cls12, by decide, List.mem_of_getElem? (i := 1753) (by decide +kernel), by decide +kernel, rfl, fun h => rfl⟩
theorem fl_X12_65 : FL RX12 65 12 26 (.array .int) true := ⟨_, _, _, _, cls12, by decide, List.mem_of_getElem? (i := 1754) (by decide +kernel), by decide +kernel, rfl, fun h => rfl⟩
theorem fl_X12_68 : FL RX12 68 12 28 .int false := ⟨_, _, _, _, cls12, by decide, List.mem_of_getElem? (i := 1756) (by decide +kernel), by decide +kernel, rfl, fun h => nomatch h⟩
theorem fl_X12_71 : FL RX12 71 12 30 (.array .int) true := ⟨_, _, _, _, cls12, by decide, List.mem_of_getElem? (i := 1758) (by decide +kernel), by decide +kernel, rfl, fun h => rfl⟩
theorem fl_X12_74 : FL RX12 74 12 31 (.array .int) true := ⟨_, _, _, _, cls12, by decide, List.mem_of_getElem? (i := 1759) (by decide +kernel), by decide +kernel, rfl, fun h => rfl⟩
theorem fl_X12_77 : FL RX12 77 12 32 (.array .int) true := ⟨_, _, _, _, cls12, by decide, List.mem_of_getElem? (i := 1760) (by decide +kernel), by decide +kernel, rfl, fun h => rfl⟩
theorem fl_X12_80 : FL RX12 80 12 33 (.array .int) true := ⟨_, _, _, _, cls12, by decide, List.mem_of_getElem? (i := 1761) (by decide +kernel), by decide +kernel, rfl, fun h => rfl⟩
theorem fl_X12_83 : FL RX12 83 12 34 (.array .boolean) true := ⟨_, _, _, _, cls12, by decide, List.mem_of_getElem? (i := 1762) (by decide +kernel), by decide +kernel, rfl, fun h => rfl⟩
theorem fl_X12_87 : FL RX12 87 12 35 (.array .int) true := ⟨_, _, _, _, cls12, by decide, List.mem_of_getElem? (i := 1763) (by decide +kernel), by decide +kernel, rfl, fun h => rfl⟩
theorem fl_X12_90 : FL RX12 90 12 36 (.array .int) true := ⟨_, _, _, _, cls12, by decide, List.mem_of_getElem? (i := 1764) (by decide +kernel), by decide +kernel, rfl, fun h => rfl⟩
theorem fl_X12_93 : FL RX12 93 12 37 (.array .int) true := ⟨_, _, _, _, cls12, by decide, List.mem_of_getElem? (i := 1765) (by decide +kernel), by decide +kernel, rfl, fun h => rfl⟩
theorem fl_X12_96 : FL RX12 96 12 39 (.array .int) true := ⟨_, _, _, _, cls12, by decide, List.mem_of_getElem? (i := 1767) (by decide +kernel), by decide +kernel, rfl, fun h => rfl⟩
theorem fl_X12_99 : FL RX12 99 12 40 (.array .long) true := ⟨_, _, _, _, cls12, by decide, List.mem_of_getElem? (i := 1768) (by decide +kernel), by decide +kernel, rfl, fun h => rfl⟩
theorem fl_X1_15 : FL RX1 15 1 2 (.array .int) true := ⟨_, _, _, _, cls1, by decide, List.mem_of_getElem? (i := 1114) (by decide +kernel), by decide +kernel, rfl, fun h => rfl⟩
theorem fl_X1_24 : FL RX1 24 1 3 (.object "TokenHall$Table") true := ⟨_, _, _, _, cls1, by decide, List.mem_of_getElem? (i := 1116) (by decide +kernel), by decide +kernel, rfl, fun h => rfl⟩
theorem fl_X1_28 : FL RX1 28 1 4 (.array .int) true := ⟨_, _, _, _, cls1, by decide, List.mem_of_getElem? (i := 1117) (by decide +kernel), by decide +kernel, rfl, fun h => rfl⟩
theorem fl_X1_31 : FL RX1 31 1 5 (.array .int) true := ⟨_, _, _, _, cls1, by decide, List.mem_of_getElem? (i := 1118) (by decide +kernel), by decide +kernel, rfl, fun h => rfl⟩
theorem fl_X1_34 : FL RX1 34 1 6 (.array .int) true := ⟨_, _, _, _, cls1, by decide, List.mem_of_getElem? (i := 1119) (by decide +kernel), by decide +kernel, rfl, fun h => rfl⟩
theorem fl_X1_37 : FL RX1 37 1 7 (.array .int) true := ⟨_, _, _, _, cls1, by decide, List.mem_of_getElem? (i := 1120) (by decide +kernel), by decide +kernel, rfl, fun h => rfl⟩
theorem fl_X1_40 : FL RX1 40 1 1 (.object "TokenHall$Net") false := ⟨_, _, _, _, cls1, by decide, List.mem_of_getElem? (i := 1112) (by decide +kernel), by decide +kernel, rfl, fun h => nomatch h⟩
theorem fl_X1_53 : FL RX1 53 1 8 .int false := ⟨_, _, _, _, cls1, by decide, List.mem_of_getElem? (i := 1121) (by decide +kernel), by decide +kernel, rfl, fun h => nomatch h⟩
theorem fl_X1_9 : FL RX1 9 1 0 .int false := ⟨_, _, _, _, cls1, by decide, List.mem_of_getElem? (i := 1110) (by decide +kernel), by decide +kernel, rfl, fun h => nomatch h⟩
theorem fl_X2_15 : FL RX2 15 2 3 (.array .int) true := ⟨_, _, _, _, cls2, by decide, List.mem_of_getElem? (i := 303) (by decide +kernel), by decide +kernel, rfl, fun h => rfl⟩
theorem fl_X2_18 : FL RX2 18 2 4 (.array .int) true := ⟨_, _, _, _, cls2, by decide, List.mem_of_getElem? (i := 306) (by decide +kernel), by decide +kernel, rfl, fun h => rfl⟩
theorem fl_X2_21 : FL RX2 21 2 5 (.array .int) true := ⟨_, _, _, _, cls2, by decide, List.mem_of_getElem? (i := 310) (by decide +kernel), by decide +kernel, rfl, fun h => rfl⟩
theorem fl_X2_24 : FL RX2 24 2 6 (.array .int) true := ⟨_, _, _, _, cls2, by decide, List.mem_of_getElem? (i := 315) (by decide +kernel), by decide +kernel, rfl, fun h => rfl⟩
theorem fl_X2_27 : FL RX2 27 2 7 (.array .int) true := ⟨_, _, _, _, cls2, by decide, List.mem_of_getElem? (i := 321) (by decide +kernel), by decide +kernel, rfl, fun h => rfl⟩
theorem fl_X2_30 : FL RX2 30 2 8 (.array .int) true := ⟨_, _, _, _, cls2, by decide, List.mem_of_getElem? (i := 327) (by decide +kernel), by decide +kernel, rfl, fun h => rfl⟩
theorem fl_X2_33 : FL RX2 33 2 9 (.array .int) true := ⟨_, _, _, _, cls2, by decide, List.mem_of_getElem? (i := 331) (by decide +kernel), by decide +kernel, rfl, fun h => rfl⟩
theorem fl_X2_36 : FL RX2 36 2 10 (.array .int) true := ⟨_, _, _, _, cls2, by decide, List.mem_of_getElem? (i := 333) (by decide +kernel), by decide +kernel, rfl, fun h => rfl⟩
theorem fl_X2_39 : FL RX2 39 2 11 (.array .int) true := ⟨_, _, _, _, cls2, by decide, List.mem_of_getElem? (i := 335) (by decide +kernel), by decide +kernel, rfl, fun h => rfl⟩
theorem fl_X2_42 : FL RX2 42 2 12 (.array .int) true := ⟨_, _, _, _, cls2, by decide, List.mem_of_getElem? (i := 336) (by decide +kernel), by decide +kernel, rfl, fun h => rfl⟩
theorem fl_X2_45 : FL RX2 45 2 13 (.array .int) true := ⟨_, _, _, _, cls2, by decide, List.mem_of_getElem? (i := 337) (by decide +kernel), by decide +kernel, rfl, fun h => rfl⟩
theorem fl_X2_48 : FL RX2 48 2 14 (.array .int) true := ⟨_, _, _, _, cls2, by decide, List.mem_of_getElem? (i := 338) (by decide +kernel), by decide +kernel, rfl, fun h => rfl⟩
theorem fl_X2_51 : FL RX2 51 2 15 (.array .int) true := ⟨_, _, _, _, cls2, by decide, List.mem_of_getElem? (i := 339) (by decide +kernel), by decide +kernel, rfl, fun h => rfl⟩
theorem fl_X2_54 : FL RX2 54 2 0 .int false := ⟨_, _, _, _, cls2, by decide, List.mem_of_getElem? (i := 281) (by decide +kernel), by decide +kernel, rfl, fun h => nomatch h⟩
theorem fl_X2_58 : FL RX2 58 2 1 .int false := ⟨_, _, _, _, cls2, by decide, List.mem_of_getElem? (i := 290) (by decide +kernel), by decide +kernel, rfl, fun h => nomatch h⟩
theorem fl_X2_61 : FL RX2 61 2 16 .int false := ⟨_, _, _, _, cls2, by decide, List.mem_of_getElem? (i := 340) (by decide +kernel), by decide +kernel, rfl, fun h => nomatch h⟩
theorem fl_X2_9 : FL RX2 9 2 2 (.array .int) true := ⟨_, _, _, _, cls2, by decide, List.mem_of_getElem? (i := 300) (by decide +kernel), by decide +kernel, rfl, fun h => rfl⟩
theorem fl_X3_15 : FL RX3 15 3 2 (.array .int) false := ⟨_, _, _, _, cls3, by decide, List.mem_of_getElem? (i := 168) (by decide +kernel), by decide +kernel, rfl, fun h => nomatch h⟩
theorem fl_X3_19 : FL RX3 19 3 3 .int false := ⟨_, _, _, _, cls3, by decide, List.mem_of_getElem? (i := 169) (by decide +kernel), by decide +kernel, rfl, fun h => nomatch h⟩
theorem fl_X3_22 : FL RX3 22 3 10 (.object "TokenHall$Net") false := ⟨_, _, _, _, cls3, by decide, List.mem_of_getElem? (i := 176) (by decide +kernel), by decide +kernel, rfl, fun h => nomatch h⟩
theorem fl_X3_31 : FL RX3 31 3 4 .int false := ⟨_, _, _, _, cls3, by decide, List.mem_of_getElem? (i := 170) (by decide +kernel), by decide +kernel, rfl, fun h => nomatch h⟩
theorem fl_X3_34 : FL RX3 34 3 9 .int false := ⟨_, _, _, _, cls3, by decide, List.mem_of_getElem? (i := 175) (by decide +kernel), by decide +kernel, rfl, fun h => nomatch h⟩
theorem fl_X3_37 : FL RX3 37 3 1 .int false := ⟨_, _, _, _, cls3, by decide, List.mem_of_getElem? (i := 167) (by decide +kernel), by decide +kernel, rfl, fun h => nomatch h⟩
theorem fl_X3_43 : FL RX3 43 3 6 .int false := ⟨_, _, _, _, cls3, by decide, List.mem_of_getElem? (i := 172) (by decide +kernel), by decide +kernel, rfl, fun h => nomatch h⟩
theorem fl_X3_60 : FL RX3 60 3 5 .int false := ⟨_, _, _, _, cls3, by decide, List.mem_of_getElem? (i := 171) (by decide +kernel), by decide +kernel, rfl, fun h => nomatch h⟩
theorem fl_X3_63 : FL RX3 63 3 7 .int false := ⟨_, _, _, _, cls3, by decide, List.mem_of_getElem? (i := 173) (by decide +kernel), by decide +kernel, rfl, fun h => nomatch h⟩
theorem fl_X3_9 : FL RX3 9 3 0 .int false := ⟨_, _, _, _, cls3, by decide, List.mem_of_getElem? (i := 165) (by decide +kernel), by decide +kernel, rfl, fun h => nomatch h⟩
theorem fl_X4_11 : FL RX4 11 4 0 (.array .int) true := ⟨_, _, _, _, cls4, by decide, List.mem_of_getElem? (i := 259) (by decide +kernel), by decide +kernel, rfl, fun h => rfl⟩
theorem fl_X4_15 : FL RX4 15 4 1 (.array .int) true := ⟨_, _, _, _, cls4, by decide, List.mem_of_getElem? (i := 260) (by decide +kernel), by decide +kernel, rfl, fun h => rfl⟩
theorem fl_X4_18 : FL RX4 18 4 2 (.array .int) true := ⟨_, _, _, _, cls4, by decide, List.mem_of_getElem? (i := 261) (by decide +kernel), by decide +kernel, rfl, fun h => rfl⟩
theorem fl_X4_21 : FL RX4 21 4 3 (.array .int) true := ⟨_, _, _, _, cls4, by decide, List.mem_of_getElem? (i := 262) (by decide +kernel), by decide +kernel, rfl, fun h => rfl⟩
theorem fl_X4_89 : FL RX4 89 4 4 (.object "TokenHall$Net") false := ⟨_, _, _, _, cls4, by decide, List.mem_of_getElem? (i := 263) (by decide +kernel), by decide +kernel, rfl, fun h => nomatch h⟩
theorem fl_X5_15 : FL RX5 15 5 1 (.array .int) true := ⟨_, _, _, _, cls5, by decide, List.mem_of_getElem? (i := 209) (by decide +kernel), by decide +kernel, rfl, fun h => rfl⟩
theorem fl_X5_18 : FL RX5 18 5 2 (.array .int) true := ⟨_, _, _, _, cls5, by decide, List.mem_of_getElem? (i := 211) (by decide +kernel), by decide +kernel, rfl, fun h => rfl⟩
theorem fl_X5_38 : FL RX5 38 5 3 .int false := ⟨_, _, _, _, cls5, by decide, List.mem_of_getElem? (i := 213) (by decide +kernel), by decide +kernel, rfl, fun h => nomatch h⟩
theorem fl_X5_9 : FL RX5 9 5 0 (.array .int) true := ⟨_, _, _, _, cls5, by decide, List.mem_of_getElem? (i := 207) (by decide +kernel), by decide +kernel, rfl, fun h => rfl⟩
theorem fl_X6_17 : FL RX6 17 6 2 (.array .int) true := ⟨_, _, _, _, cls6, by decide, List.mem_of_getElem? (i := 1217) (by decide +kernel), by decide +kernel, rfl, fun h => rfl⟩
theorem fl_X6_21 : FL RX6 21 6 3 (.array .int) true := ⟨_, _, _, _, cls6, by decide, List.mem_of_getElem? (i := 1218) (by decide +kernel), by decide +kernel, rfl, fun h => rfl⟩
theorem fl_X6_24 : FL RX6 24 6 4 (.array .int) true := ⟨_, _, _, _, cls6, by decide, List.mem_of_getElem? (i := 1219) (by decide +kernel), by decide +kernel, rfl, fun h => rfl⟩
theorem fl_X6_27 : FL RX6 27 6 5 (.array .int) true := ⟨_, _, _, _, cls6, by decide, List.mem_of_getElem? (i := 1220) (by decide +kernel), by decide +kernel, rfl, fun h => rfl⟩
theorem fl_X6_30 : FL RX6 30 6 6 (.array .int) true := ⟨_, _, _, _, cls6, by decide, List.mem_of_getElem? (i := 1221) (by decide +kernel), by decide +kernel, rfl, fun h => rfl⟩
theorem fl_X6_33 : FL RX6 33 6 7 (.array .int) true := ⟨_, _, _, _, cls6, by decide, List.mem_of_getElem? (i := 1222) (by decide +kernel), by decide +kernel, rfl, fun h => rfl⟩
theorem fl_X6_36 : FL RX6 36 6 8 (.array .int) true := ⟨_, _, _, _, cls6, by decide, List.mem_of_getElem? (i := 1223) (by decide +kernel), by decide +kernel, rfl, fun h => rfl⟩
theorem fl_X6_39 : FL RX6 39 6 9 (.array .int) true := ⟨_, _, _, _, cls6, by decide, List.mem_of_getElem? (i := 1224) (by decide +kernel), by decide +kernel, rfl, fun h => rfl⟩
theorem fl_X6_42 : FL RX6 42 6 10 (.array .int) true := ⟨_, _, _, _, cls6, by decide, List.mem_of_getElem? (i := 1225) (by decide +kernel), by decide +kernel, rfl, fun h => rfl⟩
theorem fl_X6_45 : FL RX6 45 6 11 (.array .int) true := ⟨_, _, _, _, cls6, by decide, List.mem_of_getElem? (i := 1226) (by decide +kernel), by decide +kernel, rfl, fun h => rfl⟩
theorem fl_X6_48 : FL RX6 48 6 12 (.array .int) true := ⟨_, _, _, _, cls6, by decide, List.mem_of_getElem? (i := 1227) (by decide +kernel), by decide +kernel, rfl, fun h => rfl⟩
theorem fl_X6_51 : FL RX6 51 6 13 (.array .int) true := ⟨_, _, _, _, cls6, by decide, List.mem_of_getElem? (i := 1228) (by decide +kernel), by decide +kernel, rfl, fun h => rfl⟩
theorem fl_X6_54 : FL RX6 54 6 14 (.array .long) false := ⟨_, _, _, _, cls6, by decide, List.mem_of_getElem? (i := 1229) (by decide +kernel), by decide +kernel, rfl, fun h => nomatch h⟩
theorem fl_X6_58 : FL RX6 58 6 15 (.array .long) false := ⟨_, _, _, _, cls6, by decide, List.mem_of_getElem? (i := 1230) (by decide +kernel), by decide +kernel, rfl, fun h => nomatch h⟩
theorem fl_X6_61 : FL RX6 61 6 16 .int false := ⟨_, _, _, _, cls6, by decide, List.mem_of_getElem? (i := 1231) (by decide +kernel), by decide +kernel, rfl, fun h => nomatch h⟩
theorem fl_X6_64 : FL RX6 64 6 17 .int false := ⟨_, _, _, _, cls6, by decide, List.mem_of_getElem? (i := 1232) (by decide +kernel), by decide +kernel, rfl, fun h => nomatch h⟩
theorem fl_X6_67 : FL RX6 67 6 18 .int false := ⟨_, _, _, _, cls6, by decide, List.mem_of_getElem? (i := 1233) (by decide +kernel), by decide +kernel, rfl, fun h => nomatch h⟩
theorem fl_X6_70 : FL RX6 70 6 19 .int false := ⟨_, _, _, _, cls6, by decide, List.mem_of_getElem? (i := 1234) (by decide +kernel), by decide +kernel, rfl, fun h => nomatch h⟩
theorem fl_X6_9 : FL RX6 9 6 0 .int false := ⟨_, _, _, _, cls6, by decide, List.mem_of_getElem? (i := 1213) (by decide +kernel), by decide +kernel, rfl, fun h => nomatch h⟩
theorem fl_X7_15 : FL RX7 15 7 3 .int true := ⟨_, _, _, _, cls7, by decide, List.mem_of_getElem? (i := 526) (by decide +kernel), by decide +kernel, rfl, fun h => rfl⟩
theorem fl_X7_19 : FL RX7 19 7 4 (.array .int) true := ⟨_, _, _, _, cls7, by decide, List.mem_of_getElem? (i := 527) (by decide +kernel), by decide +kernel, rfl, fun h => rfl⟩
theorem fl_X7_22 : FL RX7 22 7 1 .int false := ⟨_, _, _, _, cls7, by decide, List.mem_of_getElem? (i := 517) (by decide +kernel), by decide +kernel, rfl, fun h => nomatch h⟩
theorem fl_X7_25 : FL RX7 25 7 2 .int false := ⟨_, _, _, _, cls7, by decide, List.mem_of_getElem? (i := 522) (by decide +kernel), by decide +kernel, rfl, fun h => nomatch h⟩
theorem fl_X7_9 : FL RX7 9 7 0 (.array .int) true := ⟨_, _, _, _, cls7, by decide, List.mem_of_getElem? (i := 513) (by decide +kernel), by decide +kernel, rfl, fun h => rfl⟩
theorem fl_X8_20 : FL RX8 20 8 1 (.object "TokenHall$Table") true := ⟨_, _, _, _, cls8, by decide, List.mem_of_getElem? (i := 541) (by decide +kernel), by decide +kernel, rfl, fun h => rfl⟩
theorem fl_X8_24 : FL RX8 24 8 2 (.array .int) true := ⟨_, _, _, _, cls8, by decide, List.mem_of_getElem? (i := 542) (by decide +kernel), by decide +kernel, rfl, fun h => rfl⟩
theorem fl_X8_28 : FL RX8 28 8 3 (.array .int) true := ⟨_, _, _, _, cls8, by decide, List.mem_of_getElem? (i := 543) (by decide +kernel), by decide +kernel, rfl, fun h => rfl⟩
theorem fl_X8_39 : FL RX8 39 8 4 (.object "TokenHall$Net") false := ⟨_, _, _, _, cls8, by decide, List.mem_of_getElem? (i := 544) (by decide +kernel), by decide +kernel, rfl, fun h => nomatch h⟩
theorem fl_X8_9 : FL RX8 9 8 0 .int false := ⟨_, _, _, _, cls8, by decide, List.mem_of_getElem? (i := 539) (by decide +kernel), by decide +kernel, rfl, fun h => nomatch h⟩
theorem fl_X9_15 : FL RX9 15 9 5 (.array .int) true := ⟨_, _, _, _, cls9, by decide, List.mem_of_getElem? (i := 1628) (by decide +kernel), by decide +kernel, rfl, fun h => rfl⟩
theorem fl_X9_24 : FL RX9 24 9 6 (.object "TokenHall$Table") true := ⟨_, _, _, _, cls9, by decide, List.mem_of_getElem? (i := 1630) (by decide +kernel), by decide +kernel, rfl, fun h => rfl⟩
theorem fl_X9_60 : FL RX9 60 9 1 .int false := ⟨_, _, _, _, cls9, by decide, List.mem_of_getElem? (i := 1620) (by decide +kernel), by decide +kernel, rfl, fun h => nomatch h⟩
theorem fl_X9_63 : FL RX9 63 9 2 .int false := ⟨_, _, _, _, cls9, by decide, List.mem_of_getElem? (i := 1622) (by decide +kernel), by decide +kernel, rfl, fun h => nomatch h⟩
theorem fl_X9_66 : FL RX9 66 9 3 .int false := ⟨_, _, _, _, cls9, by decide, List.mem_of_getElem? (i := 1624) (by decide +kernel), by decide +kernel, rfl, fun h => nomatch h⟩
theorem fl_X9_69 : FL RX9 69 9 4 .boolean false := ⟨_, _, _, _, cls9, by decide, List.mem_of_getElem? (i := 1626) (by decide +kernel), by decide +kernel, rfl, fun h => nomatch h⟩
theorem fl_X9_9 : FL RX9 9 9 0 .int false := ⟨_, _, _, _, cls9, by decide, List.mem_of_getElem? (i := 1618) (by decide +kernel), by decide +kernel, rfl, fun h => nomatch h⟩
theorem fr_X0_46 : FR RX0 46 0 1 := ⟨_, _, _, _, cls0, by decide, List.mem_of_getElem? (i := 233) (by decide +kernel)⟩
theorem fr_X10_18 : FR RX10 18 10 2 := ⟨_, _, _, _, cls10, by decide, List.mem_of_getElem? (i := 1516) (by decide +kernel)⟩
theorem fr_X10_26 : FR RX10 26 10 3 := ⟨_, _, _, _, cls10, by decide, List.mem_of_getElem? (i := 1518) (by decide +kernel)⟩
theorem fr_X10_30 : FR RX10 30 10 4 := ⟨_, _, _, _, cls10, by decide, List.mem_of_getElem? (i := 1519) (by decide +kernel)⟩
theorem fr_X10_34 : FR RX10 34 10 5 := ⟨_, _, _, _, cls10, by decide, List.mem_of_getElem? (i := 1520) (by decide +kernel)⟩
theorem fr_X10_37 : FR RX10 37 10 6 := ⟨_, _, _, _, cls10, by decide, List.mem_of_getElem? (i := 1521) (by decide +kernel)⟩
theorem fr_X10_47 : FR RX10 47 2 0 := ⟨_, _, _, _, cls2, by decide, List.mem_of_getElem? (i := 285) (by decide +kernel)⟩
theorem fr_X10_58 : FR RX10 58 2 1 := ⟨_, _, _, _, cls2, by decide, List.mem_of_getElem? (i := 292) (by decide +kernel)⟩
theorem fr_X10_69 : FR RX10 69 7 2 := ⟨_, _, _, _, cls7, by decide, List.mem_of_getElem? (i := 523) (by decide +kernel)⟩
theorem fr_X11_101 : FR RX11 101 2 1 := ⟨_, _, _, _, cls2, by decide, List.mem_of_getElem? (i := 299) (by decide +kernel)⟩
theorem fr_X11_129 : FR RX11 129 5 0 := ⟨_, _, _, _, cls5, by decide, List.mem_of_getElem? (i := 208) (by decide +kernel)⟩
theorem fr_X11_149 : FR RX11 149 5 3 := ⟨_, _, _, _, cls5, by decide, List.mem_of_getElem? (i := 214) (by decide +kernel)⟩
theorem fr_X11_16 : FR RX11 16 11 1 := ⟨_, _, _, _, cls11, by decide, List.mem_of_getElem? (i := 377) (by decide +kernel)⟩
theorem fr_X11_202 : FR RX11 202 5 1 := ⟨_, _, _, _, cls5, by decide, List.mem_of_getElem? (i := 210) (by decide +kernel)⟩
theorem fr_X11_228 : FR RX11 228 0 1 := ⟨_, _, _, _, cls0, by decide, List.mem_of_getElem? (i := 234) (by decide +kernel)⟩
theorem fr_X11_23 : FR RX11 23 11 2 := ⟨_, _, _, _, cls11, by decide, List.mem_of_getElem? (i := 378) (by decide +kernel)⟩
theorem fr_X11_27 : FR RX11 27 11 3 := ⟨_, _, _, _, cls11, by decide, List.mem_of_getElem? (i := 379) (by decide +kernel)⟩
theorem fr_X11_305 : FR RX11 305 10 1 := ⟨_, _, _, _, cls10, by decide, List.mem_of_getElem? (i := 1515) (by decide +kernel)⟩
theorem fr_X11_308 : FR RX11 308 10 2 := ⟨_, _, _, _, cls10, by decide, List.mem_of_getElem? (i := 1517) (by decide +kernel)⟩
theorem fr_X11_335 : FR RX11 335 9 0 := ⟨_, _, _, _, cls9, by decide, List.mem_of_getElem? (i := 1619) (by decide +kernel)⟩
theorem fr_X11_34 : FR RX11 34 11 4 := ⟨_, _, _, _, cls11, by decide, List.mem_of_getElem? (i := 380) (by decide +kernel)⟩
theorem fr_X11_340 : FR RX11 340 9 4 := ⟨_, _, _, _, cls9, by decide, List.mem_of_getElem? (i := 1627) (by decide +kernel)⟩
theorem fr_X11_344 : FR RX11 344 9 1 := ⟨_, _, _, _, cls9, by decide, List.mem_of_getElem? (i := 1621) (by decide +kernel)⟩
theorem fr_X11_347 : FR RX11 347 9 2 := ⟨_, _, _, _, cls9, by decide, List.mem_of_getElem? (i := 1623) (by decide +kernel)⟩
theorem fr_X11_350 : FR RX11 350 9 3 := ⟨_, _, _, _, cls9, by decide, List.mem_of_getElem? (i := 1625) (by decide +kernel)⟩
theorem fr_X11_370 : FR RX11 370 11 14 := ⟨_, _, _, _, cls11, by decide, List.mem_of_getElem? (i := 390) (by decide +kernel)⟩
theorem fr_X11_375 : FR RX11 375 1 0 := ⟨_, _, _, _, cls1, by decide, List.mem_of_getElem? (i := 1111) (by decide +kernel)⟩
theorem fr_X11_38 : FR RX11 38 11 5 := ⟨_, _, _, _, cls11, by decide, List.mem_of_getElem? (i := 381) (by decide +kernel)⟩
theorem fr_X11_381 : FR RX11 381 11 15 := ⟨_, _, _, _, cls11, by decide, List.mem_of_getElem? (i := 391) (by decide +kernel)⟩
theorem fr_X11_387 : FR RX11 387 6 0 := ⟨_, _, _, _, cls6, by decide, List.mem_of_getElem? (i := 1214) (by decide +kernel)⟩
theorem fr_X11_391 : FR RX11 391 11 16 := ⟨_, _, _, _, cls11, by decide, List.mem_of_getElem? (i := 392) (by decide +kernel)⟩
theorem fr_X11_396 : FR RX11 396 8 0 := ⟨_, _, _, _, cls8, by decide, List.mem_of_getElem? (i := 540) (by decide +kernel)⟩
theorem fr_X11_400 : FR RX11 400 11 17 := ⟨_, _, _, _, cls11, by decide, List.mem_of_getElem? (i := 393) (by decide +kernel)⟩
theorem fr_X11_405 : FR RX11 405 10 0 := ⟨_, _, _, _, cls10, by decide, List.mem_of_getElem? (i := 1513) (by decide +kernel)⟩
theorem fr_X11_410 : FR RX11 410 11 18 := ⟨_, _, _, _, cls11, by decide, List.mem_of_getElem? (i := 394) (by decide +kernel)⟩
theorem fr_X11_44 : FR RX11 44 11 6 := ⟨_, _, _, _, cls11, by decide, List.mem_of_getElem? (i := 382) (by decide +kernel)⟩
theorem fr_X11_48 : FR RX11 48 11 7 := ⟨_, _, _, _, cls11, by decide, List.mem_of_getElem? (i := 383) (by decide +kernel)⟩
theorem fr_X11_54 : FR RX11 54 11 8 := ⟨_, _, _, _, cls11, by decide, List.mem_of_getElem? (i := 384) (by decide +kernel)⟩
theorem fr_X11_58 : FR RX11 58 11 9 := ⟨_, _, _, _, cls11, by decide, List.mem_of_getElem? (i := 385) (by decide +kernel)⟩
theorem fr_X11_61 : FR RX11 61 11 11 := ⟨_, _, _, _, cls11, by decide, List.mem_of_getElem? (i := 387) (by decide +kernel)⟩
theorem fr_X11_65 : FR RX11 65 11 10 := ⟨_, _, _, _, cls11, by decide, List.mem_of_getElem? (i := 386) (by decide +kernel)⟩
theorem fr_X11_80 : FR RX11 80 3 0 := ⟨_, _, _, _, cls3, by decide, List.mem_of_getElem? (i := 166) (by decide +kernel)⟩
theorem fr_X11_88 : FR RX11 88 11 12 := ⟨_, _, _, _, cls11, by decide, List.mem_of_getElem? (i := 388) (by decide +kernel)⟩
theorem fr_X11_9 : FR RX11 9 11 0 := ⟨_, _, _, _, cls11, by decide, List.mem_of_getElem? (i := 376) (by decide +kernel)⟩
theorem fr_X11_95 : FR RX11 95 11 13 := ⟨_, _, _, _, cls11, by decide, List.mem_of_getElem? (i := 389) (by decide +kernel)⟩
theorem fr_X11_98 : FR RX11 98 2 0 := ⟨_, _, _, _, cls2, by decide, List.mem_of_getElem? (i := 287) (by decide +kernel)⟩
theorem fr_X12_1 : FR RX12 1 12 0 := ⟨_, _, _, _, cls12, by decide, List.mem_of_getElem? (i := 1728) (by decide +kernel)⟩
theorem fr_X12_103 : FR RX12 103 12 41 := ⟨_, _, _, _, cls12, by decide, List.mem_of_getElem? (i := 1769) (by decide +kernel)⟩
theorem fr_X12_106 : FR RX12 106 12 42 := ⟨_, _, _, _, cls12, by decide, List.mem_of_getElem? (i := 1770) (by decide +kernel)⟩
theorem fr_X12_109 : FR RX12 109 12 43 := ⟨_, _, _, _, cls12, by decide, List.mem_of_getElem? (i := 1771) (by decide +kernel)⟩
theorem fr_X12_115 : FR RX12 115 12 46 := ⟨_, _, _, _, cls12, by decide, List.mem_of_getElem? (i := 1774) (by decide +kernel)⟩
theorem fr_X12_118 : FR RX12 118 12 47 := ⟨_, _, _, _, cls12, by decide, List.mem_of_getElem? (i := 1775) (by decide +kernel)⟩
theorem fr_X12_124 : FR RX12 124 12 50 := ⟨_, _, _, _, cls12, by decide, List.mem_of_getElem? (i := 1778) (by decide +kernel)⟩
theorem fr_X12_127 : FR RX12 127 12 51 := ⟨_, _, _, _, cls12, by decide, List.mem_of_getElem? (i := 1779) (by decide +kernel)⟩
theorem fr_X12_13 : FR RX12 13 12 7 := ⟨_, _, _, _, cls12, by decide, List.mem_of_getElem? (i := 1735) (by decide +kernel)⟩
theorem fr_X12_130 : FR RX12 130 12 52 := ⟨_, _, _, _, cls12, by decide, List.mem_of_getElem? (i := 1780) (by decide +kernel)⟩
theorem fr_X12_133 : FR RX12 133 12 53 := ⟨_, _, _, _, cls12, by decide, List.mem_of_getElem? (i := 1781) (by decide +kernel)⟩
theorem fr_X12_148 : FR RX12 148 12 1 := ⟨_, _, _, _, cls12, by decide, List.mem_of_getElem? (i := 1729) (by decide +kernel)⟩
theorem fr_X12_151 : FR RX12 151 12 4 := ⟨_, _, _, _, cls12, by decide, List.mem_of_getElem? (i := 1732) (by decide +kernel)⟩
theorem fr_X12_154 : FR RX12 154 12 5 := ⟨_, _, _, _, cls12, by decide, List.mem_of_getElem? (i := 1733) (by decide +kernel)⟩
theorem fr_X12_157 : FR RX12 157 12 3 := ⟨_, _, _, _, cls12, by decide, List.mem_of_getElem? (i := 1731) (by decide +kernel)⟩
theorem fr_X12_16 : FR RX12 16 12 8 := ⟨_, _, _, _, cls12, by decide, List.mem_of_getElem? (i := 1736) (by decide +kernel)⟩
theorem fr_X12_160 : FR RX12 160 12 2 := ⟨_, _, _, _, cls12, by decide, List.mem_of_getElem? (i := 1730) (by decide +kernel)⟩
theorem fr_X12_20 : FR RX12 20 12 9 := ⟨_, _, _, _, cls12, by decide, List.mem_of_getElem? (i := 1737) (by decide +kernel)⟩
theorem fr_X12_23 : FR RX12 23 12 10 := ⟨_, _, _, _, cls12, by decide, List.mem_of_getElem? (i := 1738) (by decide +kernel)⟩
theorem fr_X12_283 : FR RX12 283 12 19 := ⟨_, _, _, _, cls12, by decide, List.mem_of_getElem? (i := 1747) (by decide +kernel)⟩
theorem fr_X12_322 : FR RX12 322 12 27 := ⟨_, _, _, _, cls12, by decide, List.mem_of_getElem? (i := 1755) (by decide +kernel)⟩
theorem fr_X12_325 : FR RX12 325 12 29 := ⟨_, _, _, _, cls12, by decide, List.mem_of_getElem? (i := 1757) (by decide +kernel)⟩
theorem fr_X12_354 : FR RX12 354 12 38 := ⟨_, _, _, _, cls12, by decide, List.mem_of_getElem? (i := 1766) (by decide +kernel)⟩
theorem fr_X12_386 : FR RX12 386 12 44 := ⟨_, _, _, _, cls12, by decide, List.mem_of_getElem? (i := 1772) (by decide +kernel)⟩
theorem fr_X12_392 : FR RX12 392 12 49 := ⟨_, _, _, _, cls12, by decide, List.mem_of_getElem? (i := 1777) (by decide +kernel)⟩
theorem fr_X12_41 : FR RX12 41 12 17 := ⟨_, _, _, _, cls12, by decide, List.mem_of_getElem? (i := 1745) (by decide +kernel)⟩
theorem fr_X12_44 : FR RX12 44 12 18 := ⟨_, _, _, _, cls12, by decide, List.mem_of_getElem? (i := 1746) (by decide +kernel)⟩
theorem fr_X12_444 : FR RX12 444 12 54 := ⟨_, _, _, _, cls12, by decide, List.mem_of_getElem? (i := 1782) (by decide +kernel)⟩
theorem fr_X12_447 : FR RX12 447 12 55 := ⟨_, _, _, _, cls12, by decide, List.mem_of_getElem? (i := 1783) (by decide +kernel)⟩
theorem fr_X12_47 : FR RX12 47 12 20 := ⟨_, _, _, _, cls12, by decide, List.mem_of_getElem? (i := 1748) (by decide +kernel)⟩
theorem fr_X12_50 : FR RX12 50 12 21 := ⟨_, _, _, _, cls12, by decide, List.mem_of_getElem? (i := 1749) (by decide +kernel)⟩
theorem fr_X12_56 : FR RX12 56 12 23 := ⟨_, _, _, _, cls12, by decide, List.mem_of_getElem? (i := 1751) (by decide +kernel)⟩
theorem fr_X12_59 : FR RX12 59 12 24 := ⟨_, _, _, _, cls12, by decide, List.mem_of_getElem? (i := 1752) (by decide +kernel)⟩
theorem fr_X12_62 : FR RX12 62 12 25 := ⟨_, _, _, _, cls12, by decide, List.mem_of_getElem? (i := 1753) (by decide +kernel)⟩
theorem fr_X12_65 : FR RX12 65 12 26 := ⟨_, _, _, _, cls12, by decide, List.mem_of_getElem? (i := 1754) (by decide +kernel)⟩
theorem fr_X12_71 : FR RX12 71 12 30 := ⟨_, _, _, _, cls12, by decide, List.mem_of_getElem? (i := 1758) (by decide +kernel)⟩
theorem fr_X12_80 : FR RX12 80 12 33 := ⟨_, _, _, _, cls12, by decide, List.mem_of_getElem? (i := 1761) (by decide +kernel)⟩
theorem fr_X12_83 : FR RX12 83 12 34 := ⟨_, _, _, _, cls12, by decide, List.mem_of_getElem? (i := 1762) (by decide +kernel)⟩
theorem fr_X12_87 : FR RX12 87 12 35 := ⟨_, _, _, _, cls12, by decide, List.mem_of_getElem? (i := 1763) (by decide +kernel)⟩
theorem fr_X12_90 : FR RX12 90 12 36 := ⟨_, _, _, _, cls12, by decide, List.mem_of_getElem? (i := 1764) (by decide +kernel)⟩
theorem fr_X12_93 : FR RX12 93 12 37 := ⟨_, _, _, _, cls12, by decide, List.mem_of_getElem? (i := 1765) (by decide +kernel)⟩
theorem fr_X12_96 : FR RX12 96 12 39 := ⟨_, _, _, _, cls12, by decide, List.mem_of_getElem? (i := 1767) (by decide +kernel)⟩
theorem fr_X12_99 : FR RX12 99 12 40 := ⟨_, _, _, _, cls12, by decide, List.mem_of_getElem? (i := 1768) (by decide +kernel)⟩
theorem fr_X1_24 : FR RX1 24 1 3 := ⟨_, _, _, _, cls1, by decide, List.mem_of_getElem? (i := 1116) (by decide +kernel)⟩
theorem fr_X1_28 : FR RX1 28 1 4 := ⟨_, _, _, _, cls1, by decide, List.mem_of_getElem? (i := 1117) (by decide +kernel)⟩
theorem fr_X1_31 : FR RX1 31 1 5 := ⟨_, _, _, _, cls1, by decide, List.mem_of_getElem? (i := 1118) (by decide +kernel)⟩
theorem fr_X1_34 : FR RX1 34 1 6 := ⟨_, _, _, _, cls1, by decide, List.mem_of_getElem? (i := 1119) (by decide +kernel)⟩
theorem fr_X1_40 : FR RX1 40 1 1 := ⟨_, _, _, _, cls1, by decide, List.mem_of_getElem? (i := 1112) (by decide +kernel)⟩
theorem fr_X1_44 : FR RX1 44 2 0 := ⟨_, _, _, _, cls2, by decide, List.mem_of_getElem? (i := 284) (by decide +kernel)⟩
theorem fr_X1_53 : FR RX1 53 1 8 := ⟨_, _, _, _, cls1, by decide, List.mem_of_getElem? (i := 1121) (by decide +kernel)⟩
theorem fr_X1_60 : FR RX1 60 7 2 := ⟨_, _, _, _, cls7, by decide, List.mem_of_getElem? (i := 524) (by decide +kernel)⟩
theorem fr_X1_63 : FR RX1 63 2 1 := ⟨_, _, _, _, cls2, by decide, List.mem_of_getElem? (i := 295) (by decide +kernel)⟩
theorem fr_X2_24 : FR RX2 24 2 6 := ⟨_, _, _, _, cls2, by decide, List.mem_of_getElem? (i := 315) (by decide +kernel)⟩
theorem fr_X2_27 : FR RX2 27 2 7 := ⟨_, _, _, _, cls2, by decide, List.mem_of_getElem? (i := 321) (by decide +kernel)⟩
theorem fr_X2_30 : FR RX2 30 2 8 := ⟨_, _, _, _, cls2, by decide, List.mem_of_getElem? (i := 327) (by decide +kernel)⟩
theorem fr_X2_58 : FR RX2 58 2 1 := ⟨_, _, _, _, cls2, by decide, List.mem_of_getElem? (i := 290) (by decide +kernel)⟩
theorem fr_X3_19 : FR RX3 19 3 3 := ⟨_, _, _, _, cls3, by decide, List.mem_of_getElem? (i := 169) (by decide +kernel)⟩
theorem fr_X3_22 : FR RX3 22 3 10 := ⟨_, _, _, _, cls3, by decide, List.mem_of_getElem? (i := 176) (by decide +kernel)⟩
theorem fr_X3_31 : FR RX3 31 3 4 := ⟨_, _, _, _, cls3, by decide, List.mem_of_getElem? (i := 170) (by decide +kernel)⟩
theorem fr_X3_37 : FR RX3 37 3 1 := ⟨_, _, _, _, cls3, by decide, List.mem_of_getElem? (i := 167) (by decide +kernel)⟩
theorem fr_X3_43 : FR RX3 43 3 6 := ⟨_, _, _, _, cls3, by decide, List.mem_of_getElem? (i := 172) (by decide +kernel)⟩
theorem fr_X3_50 : FR RX3 50 2 0 := ⟨_, _, _, _, cls2, by decide, List.mem_of_getElem? (i := 286) (by decide +kernel)⟩
theorem fr_X3_60 : FR RX3 60 3 5 := ⟨_, _, _, _, cls3, by decide, List.mem_of_getElem? (i := 171) (by decide +kernel)⟩
theorem fr_X4_24 : FR RX4 24 2 0 := ⟨_, _, _, _, cls2, by decide, List.mem_of_getElem? (i := 283) (by decide +kernel)⟩
theorem fr_X4_89 : FR RX4 89 4 4 := ⟨_, _, _, _, cls4, by decide, List.mem_of_getElem? (i := 263) (by decide +kernel)⟩
theorem fr_X5_15 : FR RX5 15 5 1 := ⟨_, _, _, _, cls5, by decide, List.mem_of_getElem? (i := 209) (by decide +kernel)⟩
theorem fr_X5_18 : FR RX5 18 5 2 := ⟨_, _, _, _, cls5, by decide, List.mem_of_getElem? (i := 211) (by decide +kernel)⟩
theorem fr_X5_38 : FR RX5 38 5 3 := ⟨_, _, _, _, cls5, by decide, List.mem_of_getElem? (i := 213) (by decide +kernel)⟩
theorem fr_X5_9 : FR RX5 9 5 0 := ⟨_, _, _, _, cls5, by decide, List.mem_of_getElem? (i := 207) (by decide +kernel)⟩
theorem fr_X6_17 : FR RX6 17 6 2 := ⟨_, _, _, _, cls6, by decide, List.mem_of_getElem? (i := 1217) (by decide +kernel)⟩
theorem fr_X6_21 : FR RX6 21 6 3 := ⟨_, _, _, _, cls6, by decide, List.mem_of_getElem? (i := 1218) (by decide +kernel)⟩
theorem fr_X6_24 : FR RX6 24 6 4 := ⟨_, _, _, _, cls6, by decide, List.mem_of_getElem? (i := 1219) (by decide +kernel)⟩
theorem fr_X6_27 : FR RX6 27 6 5 := ⟨_, _, _, _, cls6, by decide, List.mem_of_getElem? (i := 1220) (by decide +kernel)⟩
theorem fr_X6_30 : FR RX6 30 6 6 := ⟨_, _, _, _, cls6, by decide, List.mem_of_getElem? (i := 1221) (by decide +kernel)⟩
theorem fr_X6_33 : FR RX6 33 6 7 := ⟨_, _, _, _, cls6, by decide, List.mem_of_getElem? (i := 1222) (by decide +kernel)⟩
theorem fr_X6_36 : FR RX6 36 6 8 := ⟨_, _, _, _, cls6, by decide, List.mem_of_getElem? (i := 1223) (by decide +kernel)⟩
theorem fr_X6_39 : FR RX6 39 6 9 := ⟨_, _, _, _, cls6, by decide, List.mem_of_getElem? (i := 1224) (by decide +kernel)⟩
theorem fr_X6_42 : FR RX6 42 6 10 := ⟨_, _, _, _, cls6, by decide, List.mem_of_getElem? (i := 1225) (by decide +kernel)⟩
theorem fr_X6_45 : FR RX6 45 6 11 := ⟨_, _, _, _, cls6, by decide, List.mem_of_getElem? (i := 1226) (by decide +kernel)⟩
theorem fr_X6_48 : FR RX6 48 6 12 := ⟨_, _, _, _, cls6, by decide, List.mem_of_getElem? (i := 1227) (by decide +kernel)⟩
theorem fr_X6_51 : FR RX6 51 6 13 := ⟨_, _, _, _, cls6, by decide, List.mem_of_getElem? (i := 1228) (by decide +kernel)⟩
theorem fr_X6_54 : FR RX6 54 6 14 := ⟨_, _, _, _, cls6, by decide, List.mem_of_getElem? (i := 1229) (by decide +kernel)⟩
theorem fr_X6_58 : FR RX6 58 6 15 := ⟨_, _, _, _, cls6, by decide, List.mem_of_getElem? (i := 1230) (by decide +kernel)⟩
theorem fr_X6_61 : FR RX6 61 6 16 := ⟨_, _, _, _, cls6, by decide, List.mem_of_getElem? (i := 1231) (by decide +kernel)⟩
theorem fr_X6_64 : FR RX6 64 6 17 := ⟨_, _, _, _, cls6, by decide, List.mem_of_getElem? (i := 1232) (by decide +kernel)⟩
theorem fr_X6_67 : FR RX6 67 6 18 := ⟨_, _, _, _, cls6, by decide, List.mem_of_getElem? (i := 1233) (by decide +kernel)⟩
theorem fr_X6_70 : FR RX6 70 6 19 := ⟨_, _, _, _, cls6, by decide, List.mem_of_getElem? (i := 1234) (by decide +kernel)⟩
theorem fr_X6_83 : FR RX6 83 6 1 := ⟨_, _, _, _, cls6, by decide, List.mem_of_getElem? (i := 1215) (by decide +kernel)⟩
theorem fr_X6_91 : FR RX6 91 1 1 := ⟨_, _, _, _, cls1, by decide, List.mem_of_getElem? (i := 1113) (by decide +kernel)⟩
theorem fr_X6_95 : FR RX6 95 2 1 := ⟨_, _, _, _, cls2, by decide, List.mem_of_getElem? (i := 293) (by decide +kernel)⟩
theorem fr_X7_15 : FR RX7 15 7 3 := ⟨_, _, _, _, cls7, by decide, List.mem_of_getElem? (i := 526) (by decide +kernel)⟩
theorem fr_X7_19 : FR RX7 19 7 4 := ⟨_, _, _, _, cls7, by decide, List.mem_of_getElem? (i := 527) (by decide +kernel)⟩
theorem fr_X7_22 : FR RX7 22 7 1 := ⟨_, _, _, _, cls7, by decide, List.mem_of_getElem? (i := 517) (by decide +kernel)⟩
theorem fr_X7_25 : FR RX7 25 7 2 := ⟨_, _, _, _, cls7, by decide, List.mem_of_getElem? (i := 522) (by decide +kernel)⟩
theorem fr_X7_9 : FR RX7 9 7 0 := ⟨_, _, _, _, cls7, by decide, List.mem_of_getElem? (i := 513) (by decide +kernel)⟩
theorem fr_X8_20 : FR RX8 20 8 1 := ⟨_, _, _, _, cls8, by decide, List.mem_of_getElem? (i := 541) (by decide +kernel)⟩
theorem fr_X8_24 : FR RX8 24 8 2 := ⟨_, _, _, _, cls8, by decide, List.mem_of_getElem? (i := 542) (by decide +kernel)⟩
theorem fr_X8_31 : FR RX8 31 7 2 := ⟨_, _, _, _, cls7, by decide, List.mem_of_getElem? (i := 521) (by decide +kernel)⟩
theorem fr_X8_39 : FR RX8 39 8 4 := ⟨_, _, _, _, cls8, by decide, List.mem_of_getElem? (i := 544) (by decide +kernel)⟩
theorem fr_X8_43 : FR RX8 43 2 0 := ⟨_, _, _, _, cls2, by decide, List.mem_of_getElem? (i := 288) (by decide +kernel)⟩
theorem fr_X8_56 : FR RX8 56 2 1 := ⟨_, _, _, _, cls2, by decide, List.mem_of_getElem? (i := 297) (by decide +kernel)⟩
theorem fr_X9_15 : FR RX9 15 9 5 := ⟨_, _, _, _, cls9, by decide, List.mem_of_getElem? (i := 1628) (by decide +kernel)⟩
theorem fr_X9_24 : FR RX9 24 9 6 := ⟨_, _, _, _, cls9, by decide, List.mem_of_getElem? (i := 1630) (by decide +kernel)⟩
theorem fr_X9_73 : FR RX9 73 2 0 := ⟨_, _, _, _, cls2, by decide, List.mem_of_getElem? (i := 289) (by decide +kernel)⟩
theorem fr_X9_80 : FR RX9 80 7 2 := ⟨_, _, _, _, cls7, by decide, List.mem_of_getElem? (i := 525) (by decide +kernel)⟩
theorem fr_X9_90 : FR RX9 90 2 1 := ⟨_, _, _, _, cls2, by decide, List.mem_of_getElem? (i := 298) (by decide +kernel)⟩
theorem mh_L_144 : MH RL 144 yL_net cL_net 4 (some .int) [(0, 9, 12, 13)] 3 := ⟨List.mem_of_getElem? (i := 693) (by decide +kernel), List.mem_of_getElem? (i := 694) (by decide +kernel), List.mem_of_getElem? (i := 123) (by decide +kernel), List.mem_of_getElem? (i := 695) (by decide +kernel), by decide +kernel, by decide +kernel⟩
theorem mh_L_158 : MH RL 158 yL_told cL_told 4 (some .int) [(0, 9, 12, 13)] 3 := ⟨List.mem_of_getElem? (i := 988) (by decide +kernel), List.mem_of_getElem? (i := 989) (by decide +kernel), List.mem_of_getElem? (i := 123) (by decide +kernel), List.mem_of_getElem? (i := 990) (by decide +kernel), by decide +kernel, by decide +kernel⟩
theorem mh_L_161 : MH RL 161 yL_arc cL_arc 6 (some .int) [(0, 12, 15, 22), (0, 12, 19, 24), (0, 12, 23, 13)] 5 := ⟨List.mem_of_getElem? (i := 995) (by decide +kernel), List.mem_of_getElem? (i := 996) (by decide +kernel), List.mem_of_getElem? (i := 123) (by decide +kernel), List.mem_of_getElem? (i := 997) (by decide +kernel), by decide +kernel, by decide +kernel⟩
theorem mh_L_165 : MH RL 165 yL_act cL_act 5 (some .int) [(0, 10, 13, 22), (0, 10, 17, 13)] 4 := ⟨List.mem_of_getElem? (i := 1044) (by decide +kernel), List.mem_of_getElem? (i := 1045) (by decide +kernel), List.mem_of_getElem? (i := 123) (by decide +kernel), List.mem_of_getElem? (i := 1046) (by decide +kernel), by decide +kernel, by decide +kernel⟩
theorem mh_L_169 : MH RL 169 yL_marks cL_marks 5 (some .int) [(0, 10, 13, 24), (0, 10, 17, 13)] 4 := ⟨List.mem_of_getElem? (i := 1052) (by decide +kernel), List.mem_of_getElem? (i := 1053) (by decide +kernel), List.mem_of_getElem? (i := 123) (by decide +kernel), List.mem_of_getElem? (i := 1054) (by decide +kernel), by decide +kernel, by decide +kernel⟩
theorem mh_L_172 : MH RL 172 yL_put cL_put 5 (some .int) [(0, 10, 13, 24), (0, 10, 17, 13)] 4 := ⟨List.mem_of_getElem? (i := 1059) (by decide +kernel), List.mem_of_getElem? (i := 1060) (by decide +kernel), List.mem_of_getElem? (i := 123) (by decide +kernel), List.mem_of_getElem? (i := 1061) (by decide +kernel), by decide +kernel, by decide +kernel⟩
theorem mh_L_175 : MH RL 175 yL_may cL_may 4 (some .int) [(0, 9, 12, 22)] 3 := ⟨List.mem_of_getElem? (i := 1067) (by decide +kernel), List.mem_of_getElem? (i := 1068) (by decide +kernel), List.mem_of_getElem? (i := 123) (by decide +kernel), List.mem_of_getElem? (i := 1069) (by decide +kernel), by decide +kernel, by decide +kernel⟩
theorem mh_L_178 : MH RL 178 yL_fire cL_fire 4 (some .int) [(0, 9, 12, 22)] 3 := ⟨List.mem_of_getElem? (i := 1074) (by decide +kernel), List.mem_of_getElem? (i := 1075) (by decide +kernel), List.mem_of_getElem? (i := 123) (by decide +kernel), List.mem_of_getElem? (i := 1076) (by decide +kernel), by decide +kernel, by decide +kernel⟩
theorem mh_L_181 : MH RL 181 yL_row cL_row 4 (some .int) [(0, 9, 12, 22)] 3 := ⟨List.mem_of_getElem? (i := 1081) (by decide +kernel), List.mem_of_getElem? (i := 1082) (by decide +kernel), List.mem_of_getElem? (i := 123) (by decide +kernel), List.mem_of_getElem? (i := 1083) (by decide +kernel), by decide +kernel, by decide +kernel⟩
theorem mh_L_192 : MH RL 192 yL_states cL_states 4 (some .int) [(0, 9, 12, 13)] 3 := ⟨List.mem_of_getElem? (i := 1088) (by decide +kernel), List.mem_of_getElem? (i := 1089) (by decide +kernel), List.mem_of_getElem? (i := 123) (by decide +kernel), List.mem_of_getElem? (i := 1090) (by decide +kernel), by decide +kernel, by decide +kernel⟩
theorem mh_L_195 : MH RL 195 yL_state cL_state 6 (some .int) [(0, 12, 15, 24), (0, 12, 19, 13)] 5 := ⟨List.mem_of_getElem? (i := 1166) (by decide +kernel), List.mem_of_getElem? (i := 1167) (by decide +kernel), List.mem_of_getElem? (i := 123) (by decide +kernel), List.mem_of_getElem? (i := 1168) (by decide +kernel), by decide +kernel, by decide +kernel⟩
theorem mh_L_198 : MH RL 198 yL_dead cL_dead 5 (some .int) [(0, 10, 13, 13)] 4 := ⟨List.mem_of_getElem? (i := 1177) (by decide +kernel), List.mem_of_getElem? (i := 1178) (by decide +kernel), List.mem_of_getElem? (i := 123) (by decide +kernel), List.mem_of_getElem? (i := 1179) (by decide +kernel), by decide +kernel, by decide +kernel⟩
theorem mh_L_201 : MH RL 201 yL_lives cL_lives 5 (some .int) [(0, 10, 13, 22), (0, 10, 17, 13)] 4 := ⟨List.mem_of_getElem? (i := 1192) (by decide +kernel), List.mem_of_getElem? (i := 1193) (by decide +kernel), List.mem_of_getElem? (i := 123) (by decide +kernel), List.mem_of_getElem? (i := 1194) (by decide +kernel), by decide +kernel, by decide +kernel⟩
theorem mh_L_204 : MH RL 204 yL_home cL_home 5 (some .int) [(0, 10, 13, 13)] 4 := ⟨List.mem_of_getElem? (i := 1303) (by decide +kernel), List.mem_of_getElem? (i := 1304) (by decide +kernel), List.mem_of_getElem? (i := 123) (by decide +kernel), List.mem_of_getElem? (i := 1305) (by decide +kernel), by decide +kernel, by decide +kernel⟩
theorem mh_L_207 : MH RL 207 yL_most cL_most 5 (some .int) [(0, 10, 13, 24), (0, 10, 17, 13)] 4 := ⟨List.mem_of_getElem? (i := 1319) (by decide +kernel), List.mem_of_getElem? (i := 1320) (by decide +kernel), List.mem_of_getElem? (i := 123) (by decide +kernel), List.mem_of_getElem? (i := 1321) (by decide +kernel), by decide +kernel, by decide +kernel⟩
theorem mh_L_210 : MH RL 210 yL_goal cL_goal 5 (some .int) [(0, 10, 13, 24), (0, 10, 17, 13)] 4 := ⟨List.mem_of_getElem? (i := 1335) (by decide +kernel), List.mem_of_getElem? (i := 1336) (by decide +kernel), List.mem_of_getElem? (i := 123) (by decide +kernel), List.mem_of_getElem? (i := 1337) (by decide +kernel), by decide +kernel, by decide +kernel⟩
theorem mh_L_213 : MH RL 213 yL_way cL_way 5 (some .int) [(0, 10, 13, 13)] 4 := ⟨List.mem_of_getElem? (i := 1342) (by decide +kernel), List.mem_of_getElem? (i := 1343) (by decide +kernel), List.mem_of_getElem? (i := 123) (by decide +kernel), List.mem_of_getElem? (i := 1344) (by decide +kernel), by decide +kernel, by decide +kernel⟩
theorem mh_L_217 : MH RL 217 yL_step cL_step 6 (some .int) [(0, 12, 15, 13)] 5 := ⟨List.mem_of_getElem? (i := 1362) (by decide +kernel), List.mem_of_getElem? (i := 1363) (by decide +kernel), List.mem_of_getElem? (i := 123) (by decide +kernel), List.mem_of_getElem? (i := 1364) (by decide +kernel), by decide +kernel, by decide +kernel⟩
theorem mh_L_221 : MH RL 221 yL_cheapest cL_cheapest 5 (some .int) [(0, 10, 13, 13)] 4 := ⟨List.mem_of_getElem? (i := 1373) (by decide +kernel), List.mem_of_getElem? (i := 1374) (by decide +kernel), List.mem_of_getElem? (i := 123) (by decide +kernel), List.mem_of_getElem? (i := 1375) (by decide +kernel), by decide +kernel, by decide +kernel⟩
theorem mh_L_224 : MH RL 224 yL_rows cL_rows 5 (some .int) [(0, 9, 12, 13)] 4 := ⟨List.mem_of_getElem? (i := 1398) (by decide +kernel), List.mem_of_getElem? (i := 1399) (by decide +kernel), List.mem_of_getElem? (i := 123) (by decide +kernel), List.mem_of_getElem? (i := 1400) (by decide +kernel), by decide +kernel, by decide +kernel⟩
theorem mh_L_227 : MH RL 227 yL_base cL_base 4 (some .int) [(0, 9, 12, 13)] 3 := ⟨List.mem_of_getElem? (i := 1418) (by decide +kernel), List.mem_of_getElem? (i := 1419) (by decide +kernel), List.mem_of_getElem? (i := 123) (by decide +kernel), List.mem_of_getElem? (i := 1420) (by decide +kernel), by decide +kernel, by decide +kernel⟩
theorem mh_L_230 : MH RL 230 yL_kept cL_kept 5 (some .int) [(0, 9, 12, 24), (0, 9, 16, 13)] 4 := ⟨List.mem_of_getElem? (i := 1425) (by decide +kernel), List.mem_of_getElem? (i := 1426) (by decide +kernel), List.mem_of_getElem? (i := 123) (by decide +kernel), List.mem_of_getElem? (i := 1427) (by decide +kernel), by decide +kernel, by decide +kernel⟩
theorem mh_L_233 : MH RL 233 yL_round cL_round 5 (some .int) [(0, 9, 12, 22), (0, 9, 16, 13)] 4 := ⟨List.mem_of_getElem? (i := 1432) (by decide +kernel), List.mem_of_getElem? (i := 1433) (by decide +kernel), List.mem_of_getElem? (i := 123) (by decide +kernel), List.mem_of_getElem? (i := 1434) (by decide +kernel), by decide +kernel, by decide +kernel⟩
theorem mh_L_241 : MH RL 241 yL_bound cL_bound 4 (some .int) [(0, 9, 12, 24)] 3 := ⟨List.mem_of_getElem? (i := 1439) (by decide +kernel), List.mem_of_getElem? (i := 1440) (by decide +kernel), List.mem_of_getElem? (i := 123) (by decide +kernel), List.mem_of_getElem? (i := 1441) (by decide +kernel), by decide +kernel, by decide +kernel⟩
theorem mh_L_248 : MH RL 248 yL_siphon cL_siphon 5 (some .int) [(0, 10, 13, 13)] 4 := ⟨List.mem_of_getElem? (i := 1451) (by decide +kernel), List.mem_of_getElem? (i := 1452) (by decide +kernel), List.mem_of_getElem? (i := 123) (by decide +kernel), List.mem_of_getElem? (i := 1453) (by decide +kernel), by decide +kernel, by decide +kernel⟩
theorem mh_L_252 : MH RL 252 yL_is cL_is 5 (some .int) [(0, 17, 20, 13)] 4 := ⟨List.mem_of_getElem? (i := 1469) (by decide +kernel), List.mem_of_getElem? (i := 1470) (by decide +kernel), List.mem_of_getElem? (i := 123) (by decide +kernel), List.mem_of_getElem? (i := 1471) (by decide +kernel), by decide +kernel, by decide +kernel⟩
theorem mh_L_263 : MH RL 263 yL_two cL_two 6 (some .int) [(0, 19, 22, 22), (0, 19, 26, 13)] 5 := ⟨List.mem_of_getElem? (i := 1480) (by decide +kernel), List.mem_of_getElem? (i := 1481) (by decide +kernel), List.mem_of_getElem? (i := 123) (by decide +kernel), List.mem_of_getElem? (i := 1482) (by decide +kernel), by decide +kernel, by decide +kernel⟩
theorem mh_L_266 : MH RL 266 yL_clock cL_clock 5 (some .int) [(0, 10, 13, 24), (0, 10, 17, 13)] 4 := ⟨List.mem_of_getElem? (i := 1493) (by decide +kernel), List.mem_of_getElem? (i := 1494) (by decide +kernel), List.mem_of_getElem? (i := 123) (by decide +kernel), List.mem_of_getElem? (i := 1495) (by decide +kernel), by decide +kernel, by decide +kernel⟩
theorem mh_L_269 : MH RL 269 yL_began cL_began 5 (some .int) [(0, 10, 13, 22), (0, 10, 17, 13)] 4 := ⟨List.mem_of_getElem? (i := 1569) (by decide +kernel), List.mem_of_getElem? (i := 1570) (by decide +kernel), List.mem_of_getElem? (i := 123) (by decide +kernel), List.mem_of_getElem? (i := 1571) (by decide +kernel), by decide +kernel, by decide +kernel⟩
theorem mh_L_272 : MH RL 272 yL_period cL_period 4 (some .int) [(0, 9, 12, 13)] 3 := ⟨List.mem_of_getElem? (i := 1584) (by decide +kernel), List.mem_of_getElem? (i := 1585) (by decide +kernel), List.mem_of_getElem? (i := 123) (by decide +kernel), List.mem_of_getElem? (i := 1586) (by decide +kernel), by decide +kernel, by decide +kernel⟩
theorem mh_L_275 : MH RL 275 yL_beat cL_beat 4 (some .int) [(0, 9, 12, 22)] 3 := ⟨List.mem_of_getElem? (i := 1591) (by decide +kernel), List.mem_of_getElem? (i := 1592) (by decide +kernel), List.mem_of_getElem? (i := 123) (by decide +kernel), List.mem_of_getElem? (i := 1593) (by decide +kernel), by decide +kernel, by decide +kernel⟩
theorem mh_L_278 : MH RL 278 yL_lots cL_lots 5 (some .int) [(0, 10, 13, 13)] 4 := ⟨List.mem_of_getElem? (i := 1599) (by decide +kernel), List.mem_of_getElem? (i := 1600) (by decide +kernel), List.mem_of_getElem? (i := 123) (by decide +kernel), List.mem_of_getElem? (i := 1601) (by decide +kernel), by decide +kernel, by decide +kernel⟩
theorem mh_L_281 : MH RL 281 yL_lot cL_lot 6 (some .int) [(0, 12, 15, 24), (0, 12, 19, 13)] 5 := ⟨List.mem_of_getElem? (i := 1659) (by decide +kernel), List.mem_of_getElem? (i := 1660) (by decide +kernel), List.mem_of_getElem? (i := 123) (by decide +kernel), List.mem_of_getElem? (i := 1661) (by decide +kernel), by decide +kernel, by decide +kernel⟩
theorem mh_L_284 : MH RL 284 yL_often cL_often 5 (some .int) [(0, 10, 13, 22), (0, 10, 17, 13)] 4 := ⟨List.mem_of_getElem? (i := 1666) (by decide +kernel), List.mem_of_getElem? (i := 1667) (by decide +kernel), List.mem_of_getElem? (i := 123) (by decide +kernel), List.mem_of_getElem? (i := 1668) (by decide +kernel), by decide +kernel, by decide +kernel⟩
theorem mh_L_287 : MH RL 287 yL_needed cL_needed 6 (some .int) [(0, 12, 15, 22), (0, 12, 19, 13)] 5 := ⟨List.mem_of_getElem? (i := 1678) (by decide +kernel), List.mem_of_getElem? (i := 1679) (by decide +kernel), List.mem_of_getElem? (i := 123) (by decide +kernel), List.mem_of_getElem? (i := 1680) (by decide +kernel), by decide +kernel, by decide +kernel⟩
theorem mh_L_290 : MH RL 290 yL_deepest cL_deepest 5 (some .int) [(0, 10, 13, 13)] 4 := ⟨List.mem_of_getElem? (i := 1689) (by decide +kernel), List.mem_of_getElem? (i := 1690) (by decide +kernel), List.mem_of_getElem? (i := 123) (by decide +kernel), List.mem_of_getElem? (i := 1691) (by decide +kernel), by decide +kernel, by decide +kernel⟩
theorem mh_L_293 : MH RL 293 yL_first cL_first 4 (some .int) [(0, 9, 12, 13)] 3 := ⟨List.mem_of_getElem? (i := 1700) (by decide +kernel), List.mem_of_getElem? (i := 1701) (by decide +kernel), List.mem_of_getElem? (i := 123) (by decide +kernel), List.mem_of_getElem? (i := 1702) (by decide +kernel), by decide +kernel, by decide +kernel⟩
theorem mi_L_135 : MI RL 135 yX11_init cX11_init 2 0 := ⟨List.mem_of_getElem? (i := 153) (by decide +kernel), List.mem_of_getElem? (i := 154) (by decide +kernel), List.mem_of_getElem? (i := 124) (by decide +kernel), List.mem_of_getElem? (i := 155) (by decide +kernel), by decide +kernel, by decide +kernel, rfl⟩
theorem mi_L_138 : MI RL 138 yX12_init cX12_init 1 0 := ⟨List.mem_of_getElem? (i := 1724) (by decide +kernel), List.mem_of_getElem? (i := 1725) (by decide +kernel), List.mem_of_getElem? (i := 130) (by decide +kernel), List.mem_of_getElem? (i := 1726) (by decide +kernel), by decide +kernel, by decide +kernel, rfl⟩
theorem mi_X10_23 : MI RX10 23 yX7_init cX7_init 4 3 := ⟨List.mem_of_getElem? (i := 1511) (by decide +kernel), List.mem_of_getElem? (i := 510) (by decide +kernel), List.mem_of_getElem? (i := 145) (by decide +kernel), List.mem_of_getElem? (i := 511) (by decide +kernel), by decide +kernel, by decide +kernel, rfl⟩
theorem mi_X1_21 : MI RX1 21 yX7_init cX7_init 4 3 := ⟨List.mem_of_getElem? (i := 1109) (by decide +kernel), List.mem_of_getElem? (i := 510) (by decide +kernel), List.mem_of_getElem? (i := 145) (by decide +kernel), List.mem_of_getElem? (i := 511) (by decide +kernel), by decide +kernel, by decide +kernel, rfl⟩
theorem mi_X8_17 : MI RX8 17 yX7_init cX7_init 4 3 := ⟨List.mem_of_getElem? (i := 509) (by decide +kernel), List.mem_of_getElem? (i := 510) (by decide +kernel), List.mem_of_getElem? (i := 145) (by decide +kernel), List.mem_of_getElem? (i := 511) (by decide +kernel), by decide +kernel, by decide +kernel, rfl⟩
theorem mi_X9_21 : MI RX9 21 yX7_init cX7_init 4 3 := ⟨List.mem_of_getElem? (i := 1617) (by decide +kernel), List.mem_of_getElem? (i := 510) (by decide +kernel), List.mem_of_getElem? (i := 145) (by decide +kernel), List.mem_of_getElem? (i := 511) (by decide +kernel), by decide +kernel, by decide +kernel, rfl⟩
theorem mn_X11_15 : MN RX11 15 yX3_init "TokenHall" cX3_init 1 0 := ⟨List.mem_of_getElem? (i := 161) (by decide +kernel), List.mem_of_getElem? (i := 162) (by decide +kernel), List.mem_of_getElem? (i := 125) (by decide +kernel), List.mem_of_getElem? (i := 163) (by decide +kernel), by decide +kernel, by decide +kernel, rfl⟩
theorem mn_X11_22 : MN RX11 22 yX5_init "TokenHall" cX5_init 1 0 := ⟨List.mem_of_getElem? (i := 203) (by decide +kernel), List.mem_of_getElem? (i := 204) (by decide +kernel), List.mem_of_getElem? (i := 126) (by decide +kernel), List.mem_of_getElem? (i := 205) (by decide +kernel), by decide +kernel, by decide +kernel, rfl⟩
theorem mn_X11_33 : MN RX11 33 yX0_init "TokenHall" cX0_init 1 0 := ⟨List.mem_of_getElem? (i := 227) (by decide +kernel), List.mem_of_getElem? (i := 228) (by decide +kernel), List.mem_of_getElem? (i := 127) (by decide +kernel), List.mem_of_getElem? (i := 229) (by decide +kernel), by decide +kernel, by decide +kernel, rfl⟩
theorem mn_X11_374 : MN RX11 374 yX1_init "TokenHall" cX1_init 1 0 := ⟨List.mem_of_getElem? (i := 1104) (by decide +kernel), List.mem_of_getElem? (i := 1105) (by decide +kernel), List.mem_of_getElem? (i := 144) (by decide +kernel), List.mem_of_getElem? (i := 1106) (by decide +kernel), by decide +kernel, by decide +kernel, rfl⟩
theorem mn_X11_385 : MN RX11 385 yX6_init "TokenHall" cX6_init 1 0 := ⟨List.mem_of_getElem? (i := 1209) (by decide +kernel), List.mem_of_getElem? (i := 1210) (by decide +kernel), List.mem_of_getElem? (i := 146) (by decide +kernel), List.mem_of_getElem? (i := 1211) (by decide +kernel), by decide +kernel, by decide +kernel, rfl⟩
theorem mn_X11_395 : MN RX11 395 yX8_init "TokenHall" cX8_init 1 0 := ⟨List.mem_of_getElem? (i := 503) (by decide +kernel), List.mem_of_getElem? (i := 504) (by decide +kernel), List.mem_of_getElem? (i := 147) (by decide +kernel), List.mem_of_getElem? (i := 505) (by decide +kernel), by decide +kernel, by decide +kernel, rfl⟩
theorem mn_X11_404 : MN RX11 404 yX10_init "TokenHall" cX10_init 1 0 := ⟨List.mem_of_getElem? (i := 1506) (by decide +kernel), List.mem_of_getElem? (i := 1507) (by decide +kernel), List.mem_of_getElem? (i := 149) (by decide +kernel), List.mem_of_getElem? (i := 1508) (by decide +kernel), by decide +kernel, by decide +kernel, rfl⟩
theorem mn_X11_414 : MN RX11 414 yX9_init "TokenHall" cX9_init 1 0 := ⟨List.mem_of_getElem? (i := 1612) (by decide +kernel), List.mem_of_getElem? (i := 1613) (by decide +kernel), List.mem_of_getElem? (i := 150) (by decide +kernel), List.mem_of_getElem? (i := 1614) (by decide +kernel), by decide +kernel, by decide +kernel, rfl⟩
theorem mn_X11_43 : MN RX11 43 yX4_init "TokenHall" cX4_init 1 0 := ⟨List.mem_of_getElem? (i := 255) (by decide +kernel), List.mem_of_getElem? (i := 256) (by decide +kernel), List.mem_of_getElem? (i := 128) (by decide +kernel), List.mem_of_getElem? (i := 257) (by decide +kernel), by decide +kernel, by decide +kernel, rfl⟩
theorem mn_X11_53 : MN RX11 53 yX2_init "TokenHall" cX2_init 1 0 := ⟨List.mem_of_getElem? (i := 277) (by decide +kernel), List.mem_of_getElem? (i := 278) (by decide +kernel), List.mem_of_getElem? (i := 129) (by decide +kernel), List.mem_of_getElem? (i := 279) (by decide +kernel), by decide +kernel, by decide +kernel, rfl⟩
theorem ms_X10_41 : MS RX10 41 yJ7_fill_53178 cJ7_fill_53178 4 none 2 := ⟨List.mem_of_getElem? (i := 1541) (by decide +kernel), List.mem_of_getElem? (i := 565) (by decide +kernel), List.mem_of_getElem? (i := 135) (by decide +kernel), List.mem_of_getElem? (i := 566) (by decide +kernel), by decide +kernel, by decide +kernel⟩
theorem ms_X11_161 : MS RX11 161 yX11_needMost cX11_needMost 1 none 1 := ⟨List.mem_of_getElem? (i := 1095) (by decide +kernel), List.mem_of_getElem? (i := 1096) (by decide +kernel), List.mem_of_getElem? (i := 124) (by decide +kernel), List.mem_of_getElem? (i := 1097) (by decide +kernel), by decide +kernel, by decide +kernel⟩
theorem ms_X11_266 : MS RX11 266 yX4_kindOf cX4_kindOf 2 (some .int) 1 := ⟨List.mem_of_getElem? (i := 606) (by decide +kernel), List.mem_of_getElem? (i := 607) (by decide +kernel), List.mem_of_getElem? (i := 128) (by decide +kernel), List.mem_of_getElem? (i := 608) (by decide +kernel), by decide +kernel, by decide +kernel⟩
theorem ms_X11_72 : MS RX11 72 yX11_needWithin cX11_needWithin 3 none 3 := ⟨List.mem_of_getElem? (i := 701) (by decide +kernel), List.mem_of_getElem? (i := 702) (by decide +kernel), List.mem_of_getElem? (i := 124) (by decide +kernel), List.mem_of_getElem? (i := 703) (by decide +kernel), by decide +kernel, by decide +kernel⟩
theorem ms_X12_289 : MS RX12 289 yX12_within cX12_within 3 (some .boolean) 3 := ⟨List.mem_of_getElem? (i := 2032) (by decide +kernel), List.mem_of_getElem? (i := 2033) (by decide +kernel), List.mem_of_getElem? (i := 130) (by decide +kernel), List.mem_of_getElem? (i := 2034) (by decide +kernel), by decide +kernel, by decide +kernel⟩
theorem ms_X12_318 : MS RX12 318 yX12_chainOf cX12_chainOf 4 (some .int) 2 := ⟨List.mem_of_getElem? (i := 2119) (by decide +kernel), List.mem_of_getElem? (i := 2120) (by decide +kernel), List.mem_of_getElem? (i := 130) (by decide +kernel), List.mem_of_getElem? (i := 2121) (by decide +kernel), by decide +kernel, by decide +kernel⟩
theorem ms_X12_454 : MS RX12 454 yX12_areLots cX12_areLots 1 (some .boolean) 1 := ⟨List.mem_of_getElem? (i := 2344) (by decide +kernel), List.mem_of_getElem? (i := 2345) (by decide +kernel), List.mem_of_getElem? (i := 130) (by decide +kernel), List.mem_of_getElem? (i := 2346) (by decide +kernel), by decide +kernel, by decide +kernel⟩
theorem ms_X2_64 : MS RX2 64 yJ7_fill_53178 cJ7_fill_53178 4 none 2 := ⟨List.mem_of_getElem? (i := 780) (by decide +kernel), List.mem_of_getElem? (i := 565) (by decide +kernel), List.mem_of_getElem? (i := 135) (by decide +kernel), List.mem_of_getElem? (i := 566) (by decide +kernel), by decide +kernel, by decide +kernel⟩
theorem ms_X6_142 : MS RX6 142 yJ7_fill_d0a16 cJ7_fill_d0a16 5 none 2 := ⟨List.mem_of_getElem? (i := 1410) (by decide +kernel), List.mem_of_getElem? (i := 1411) (by decide +kernel), List.mem_of_getElem? (i := 135) (by decide +kernel), List.mem_of_getElem? (i := 1412) (by decide +kernel), by decide +kernel, by decide +kernel⟩
theorem ms_X6_73 : MS RX6 73 yJ7_fill_53178 cJ7_fill_53178 4 none 2 := ⟨List.mem_of_getElem? (i := 1280) (by decide +kernel), List.mem_of_getElem? (i := 565) (by decide +kernel), List.mem_of_getElem? (i := 135) (by decide +kernel), List.mem_of_getElem? (i := 566) (by decide +kernel), by decide +kernel, by decide +kernel⟩
theorem ms_X7_28 : MS RX7 28 yJ7_fill_53178 cJ7_fill_53178 4 none 2 := ⟨List.mem_of_getElem? (i := 564) (by decide +kernel), List.mem_of_getElem? (i := 565) (by decide +kernel), List.mem_of_getElem? (i := 135) (by decide +kernel), List.mem_of_getElem? (i := 566) (by decide +kernel), by decide +kernel, by decide +kernel⟩
theorem ms_X9_40 : MS RX9 40 yJ6_bitCount_0f7a4 cJ6_bitCount_0f7a4 1 (some .int) 1 := ⟨List.mem_of_getElem? (i := 1652) (by decide +kernel), List.mem_of_getElem? (i := 613) (by decide +kernel), List.mem_of_getElem? (i := 148) (by decide +kernel), List.mem_of_getElem? (i := 614) (by decide +kernel), by decide +kernel, by decide +kernel⟩
theorem mv_L_101 : MV RL 101 RX11 yX11_two cX11_two 5 (some .boolean) 3 := ⟨List.mem_of_getElem? (i := 1483) (by decide +kernel), List.mem_of_getElem? (i := 1484) (by decide +kernel), List.mem_of_getElem? (i := 1485) (by decide +kernel), List.mem_of_getElem? (i := 124) (by decide +kernel), List.mem_of_getElem? (i := 1486) (by decide +kernel), by decide +kernel, by decide +kernel⟩
theorem mv_L_105 : MV RL 105 RX11 yX11_clock cX11_clock 3 (some .int) 2 := ⟨List.mem_of_getElem? (i := 1496) (by decide +kernel), List.mem_of_getElem? (i := 1497) (by decide +kernel), List.mem_of_getElem? (i := 1498) (by decide +kernel), List.mem_of_getElem? (i := 124) (by decide +kernel), List.mem_of_getElem? (i := 1499) (by decide +kernel), by decide +kernel, by decide +kernel⟩
theorem mv_L_108 : MV RL 108 RX11 yX11_began cX11_began 3 (some .int) 2 := ⟨List.mem_of_getElem? (i := 1572) (by decide +kernel), List.mem_of_getElem? (i := 1573) (by decide +kernel), List.mem_of_getElem? (i := 1574) (by decide +kernel), List.mem_of_getElem? (i := 124) (by decide +kernel), List.mem_of_getElem? (i := 1575) (by decide +kernel), by decide +kernel, by decide +kernel⟩
theorem mv_L_111 : MV RL 111 RX11 yX11_period cX11_period 3 (some .int) 1 := ⟨List.mem_of_getElem? (i := 1587) (by decide +kernel), List.mem_of_getElem? (i := 1588) (by decide +kernel), List.mem_of_getElem? (i := 1589) (by decide +kernel), List.mem_of_getElem? (i := 124) (by decide +kernel), List.mem_of_getElem? (i := 1590) (by decide +kernel), by decide +kernel, by decide +kernel⟩
theorem mv_L_114 : MV RL 114 RX11 yX11_beat cX11_beat 2 (some .int) 1 := ⟨List.mem_of_getElem? (i := 1594) (by decide +kernel), List.mem_of_getElem? (i := 1595) (by decide +kernel), List.mem_of_getElem? (i := 1596) (by decide +kernel), List.mem_of_getElem? (i := 124) (by decide +kernel), List.mem_of_getElem? (i := 1597) (by decide +kernel), by decide +kernel, by decide +kernel⟩
theorem mv_L_117 : MV RL 117 RX11 yX11_lots cX11_lots 3 (some .int) 2 := ⟨List.mem_of_getElem? (i := 1602) (by decide +kernel), List.mem_of_getElem? (i := 1603) (by decide +kernel), List.mem_of_getElem? (i := 1604) (by decide +kernel), List.mem_of_getElem? (i := 124) (by decide +kernel), List.mem_of_getElem? (i := 1605) (by decide +kernel), by decide +kernel, by decide +kernel⟩
theorem mv_L_120 : MV RL 120 RX11 yX11_lot cX11_lot 5 (some .int) 3 := ⟨List.mem_of_getElem? (i := 1662) (by decide +kernel), List.mem_of_getElem? (i := 1663) (by decide +kernel), List.mem_of_getElem? (i := 1664) (by decide +kernel), List.mem_of_getElem? (i := 124) (by decide +kernel), List.mem_of_getElem? (i := 1665) (by decide +kernel), by decide +kernel, by decide +kernel⟩
