/-! ===== facts of classes, fields and methods, by their places in the tables; printed by wip/whole/facts.py ===== -/
set_option maxRecDepth 100000 in
theorem cl_0 : slCl 0 RX0 TX0 4 tyX0 := ⟨rfl, rfl, rfl, goodIn_r _ [317, 319, 321, 323] (by decide +kernel) (by decide +kernel), tyX0_ok, nmX0⟩
set_option maxRecDepth 100000 in
theorem cl_1 : slCl 1 RX1 TX1 17 tyX1 := ⟨rfl, rfl, rfl, goodIn_r _ [260, 262, 264, 266, 268, 270, 272, 274, 276, 278, 280, 282, 284, 286, 288, 290, 292] (by decide +kernel) (by decide +kernel), tyX1_ok, nmX1⟩
set_option maxRecDepth 100000 in
theorem cl_2 : slCl 2 RX2 TX2 2 tyX2 := ⟨rfl, rfl, rfl, goodIn_r _ [527, 529] (by decide +kernel) (by decide +kernel), tyX2_ok, nmX2⟩
set_option maxRecDepth 100000 in
theorem cl_3 : slCl 3 RX3 TX3 3 tyX3 := ⟨rfl, rfl, rfl, goodIn_r _ [481, 483, 485] (by decide +kernel) (by decide +kernel), tyX3_ok, nmX3⟩
set_option maxRecDepth 100000 in
theorem cl_4 : slCl 4 RX4 TX4 5 tyX4 := ⟨rfl, rfl, rfl, goodIn_r _ [188, 190, 192, 194, 196] (by decide +kernel) (by decide +kernel), tyX4_ok, nmX4⟩
set_option maxRecDepth 100000 in
theorem cl_5 : slCl 5 RX5 TX5 5 tyX5 := ⟨rfl, rfl, rfl, goodIn_r _ [339, 341, 343, 345, 347] (by decide +kernel) (by decide +kernel), tyX5_ok, nmX5⟩
set_option maxRecDepth 100000 in
theorem cl_6 : slCl 6 RX6 TX6 8 tyX6 := ⟨rfl, rfl, rfl, goodIn_r _ [502, 504, 506, 508, 510, 512, 514, 516] (by decide +kernel) (by decide +kernel), tyX6_ok, nmX6⟩
set_option maxRecDepth 100000 in
theorem cl_7 : slCl 7 RX7 TX7 7 tyX7 := ⟨rfl, rfl, rfl, goodIn_r _ [439, 441, 443, 445, 447, 449, 451] (by decide +kernel) (by decide +kernel), tyX7_ok, nmX7⟩
set_option maxRecDepth 100000 in
theorem cl_8 : slCl 8 RX8 TX8 7 tyX8 := ⟨rfl, rfl, rfl, goodIn_r _ [376, 378, 380, 382, 384, 386, 388] (by decide +kernel) (by decide +kernel), tyX8_ok, nmX8⟩
set_option maxRecDepth 100000 in
theorem cl_9 : slCl 9 RX9 TX9 6 tyX9 := ⟨rfl, rfl, rfl, goodIn_r _ [412, 414, 416, 418, 420, 422] (by decide +kernel) (by decide +kernel), tyX9_ok, nmX9⟩
set_option maxRecDepth 100000 in
theorem cl_10 : slCl 10 RX10 TX10 3 tyX10 := ⟨rfl, rfl, rfl, goodIn_r _ [464, 466, 468] (by decide +kernel) (by decide +kernel), tyX10_ok, nmX10⟩
set_option maxRecDepth 100000 in
theorem cl_11 : slCl 11 RX11 TX11 19 tyX11 := ⟨rfl, rfl, rfl, goodIn_r _ [551, 553, 555, 557, 559, 561, 563, 565, 567, 569, 571, 573, 575, 577, 579, 581, 583, 585, 587] (by decide +kernel) (by decide +kernel), tyX11_ok, nmX11⟩
set_option maxRecDepth 100000 in
theorem cl_12 : slCl 12 RX12 TX12 82 tyX12 := ⟨rfl, rfl, rfl, goodIn_r _ [1697, 1699, 1701, 1703, 1705, 1707, 1709, 1711, 1713, 1715, 1717, 1719, 1721, 1723, 1725, 1727, 1729, 1731, 1733, 1735, 1737, 1739, 1741, 1743, 1745, 1747, 1749, 1751, 1753, 1755, 1757, 1759, 1761, 1763, 1765, 1767, 1769, 1771, 1773, 1775, 1777, 1779, 1781, 1783, 1785, 1787, 1789, 1791, 1793, 1795, 1797, 1799, 1801, 1803, 1805, 1807, 1809, 1811, 1813, 1815, 1817, 1819, 1821, 1823, 1825, 1827, 1829, 1831, 1833, 1835, 1837, 1839, 1841, 1843, 1845, 1847, 1849, 1851, 1853, 1855, 1857, 1859] (by decide +kernel) (by decide +kernel), tyX12_ok, nmX12⟩
theorem fd_X11_9 : slFd RX11 9 11 0 := ⟨_, _, _, _, cl_11, by decide, lw_in2 _ (List.mem_of_getElem? (i := 158) (by decide +kernel))⟩
theorem fd_X11_13 : slFd RX11 13 11 1 := ⟨_, _, _, _, cl_11, by decide, lw_in2 _ (List.mem_of_getElem? (i := 159) (by decide +kernel))⟩
theorem fp_X11_13 : slFp RX11 13 11 1 .int := ⟨_, _, _, _, cl_11, by decide, lw_in2 _ (List.mem_of_getElem? (i := 159) (by decide +kernel)), rfl, rfl⟩
theorem fd_X11_17 : slFd RX11 17 11 2 := ⟨_, _, _, _, cl_11, by decide, lw_in2 _ (List.mem_of_getElem? (i := 160) (by decide +kernel))⟩
theorem fp_X11_17 : slFp RX11 17 11 2 .int := ⟨_, _, _, _, cl_11, by decide, lw_in2 _ (List.mem_of_getElem? (i := 160) (by decide +kernel)), rfl, rfl⟩
theorem fd_X11_20 : slFd RX11 20 11 3 := ⟨_, _, _, _, cl_11, by decide, lw_in2 _ (List.mem_of_getElem? (i := 161) (by decide +kernel))⟩
theorem fd_X11_26 : slFd RX11 26 11 4 := ⟨_, _, _, _, cl_11, by decide, lw_in2 _ (List.mem_of_getElem? (i := 162) (by decide +kernel))⟩
theorem fp_X11_26 : slFp RX11 26 11 4 (.object "SailingLights$Chart") := ⟨_, _, _, _, cl_11, by decide, lw_in2 _ (List.mem_of_getElem? (i := 162) (by decide +kernel)), rfl, rfl⟩
theorem fd_X11_33 : slFd RX11 33 11 5 := ⟨_, _, _, _, cl_11, by decide, lw_in2 _ (List.mem_of_getElem? (i := 163) (by decide +kernel))⟩
theorem fp_X11_33 : slFp RX11 33 11 5 (.object "SailingLights$Stand") := ⟨_, _, _, _, cl_11, by decide, lw_in2 _ (List.mem_of_getElem? (i := 163) (by decide +kernel)), rfl, rfl⟩
theorem fd_X11_40 : slFd RX11 40 11 6 := ⟨_, _, _, _, cl_11, by decide, lw_in2 _ (List.mem_of_getElem? (i := 164) (by decide +kernel))⟩
theorem fd_X11_44 : slFd RX11 44 11 7 := ⟨_, _, _, _, cl_11, by decide, lw_in2 _ (List.mem_of_getElem? (i := 165) (by decide +kernel))⟩
theorem fd_X11_47 : slFd RX11 47 11 8 := ⟨_, _, _, _, cl_11, by decide, lw_in2 _ (List.mem_of_getElem? (i := 166) (by decide +kernel))⟩
theorem fp_X11_47 : slFp RX11 47 11 8 .boolean := ⟨_, _, _, _, cl_11, by decide, lw_in2 _ (List.mem_of_getElem? (i := 166) (by decide +kernel)), rfl, rfl⟩
theorem fd_X11_51 : slFd RX11 51 11 9 := ⟨_, _, _, _, cl_11, by decide, lw_in2 _ (List.mem_of_getElem? (i := 167) (by decide +kernel))⟩
theorem fd_X11_57 : slFd RX11 57 11 10 := ⟨_, _, _, _, cl_11, by decide, lw_in2 _ (List.mem_of_getElem? (i := 168) (by decide +kernel))⟩
theorem fd_X11_64 : slFd RX11 64 11 11 := ⟨_, _, _, _, cl_11, by decide, lw_in2 _ (List.mem_of_getElem? (i := 169) (by decide +kernel))⟩
theorem fd_X11_68 : slFd RX11 68 11 12 := ⟨_, _, _, _, cl_11, by decide, lw_in2 _ (List.mem_of_getElem? (i := 170) (by decide +kernel))⟩
theorem fp_X11_68 : slFp RX11 68 11 12 .boolean := ⟨_, _, _, _, cl_11, by decide, lw_in2 _ (List.mem_of_getElem? (i := 170) (by decide +kernel)), rfl, rfl⟩
theorem fd_X11_71 : slFd RX11 71 11 13 := ⟨_, _, _, _, cl_11, by decide, lw_in2 _ (List.mem_of_getElem? (i := 171) (by decide +kernel))⟩
theorem fd_X11_74 : slFd RX11 74 11 14 := ⟨_, _, _, _, cl_11, by decide, lw_in2 _ (List.mem_of_getElem? (i := 172) (by decide +kernel))⟩
theorem fd_X11_77 : slFd RX11 77 11 15 := ⟨_, _, _, _, cl_11, by decide, lw_in2 _ (List.mem_of_getElem? (i := 173) (by decide +kernel))⟩
theorem fd_X11_83 : slFd RX11 83 11 16 := ⟨_, _, _, _, cl_11, by decide, lw_in2 _ (List.mem_of_getElem? (i := 174) (by decide +kernel))⟩
theorem fd_X11_90 : slFd RX11 90 11 17 := ⟨_, _, _, _, cl_11, by decide, lw_in2 _ (List.mem_of_getElem? (i := 175) (by decide +kernel))⟩
theorem fd_X11_94 : slFd RX11 94 11 18 := ⟨_, _, _, _, cl_11, by decide, lw_in2 _ (List.mem_of_getElem? (i := 176) (by decide +kernel))⟩
theorem fp_X11_94 : slFp RX11 94 11 18 .int := ⟨_, _, _, _, cl_11, by decide, lw_in2 _ (List.mem_of_getElem? (i := 176) (by decide +kernel)), rfl, rfl⟩
theorem fd_X11_112 : slFd RX11 112 7 6 := ⟨_, _, _, _, cl_7, by decide, lw_in2 _ (List.mem_of_getElem? (i := 64) (by decide +kernel))⟩
theorem fp_X11_112 : slFp RX11 112 7 6 .int := ⟨_, _, _, _, cl_7, by decide, lw_in2 _ (List.mem_of_getElem? (i := 64) (by decide +kernel)), rfl, rfl⟩
theorem fd_X11_118 : slFd RX11 118 1 0 := ⟨_, _, _, _, cl_1, by decide, lw_in1 _ (List.mem_of_getElem? (i := 69) (by decide +kernel))⟩
theorem fp_X11_118 : slFp RX11 118 1 0 .int := ⟨_, _, _, _, cl_1, by decide, lw_in1 _ (List.mem_of_getElem? (i := 69) (by decide +kernel)), rfl, rfl⟩
theorem fd_X11_121 : slFd RX11 121 1 1 := ⟨_, _, _, _, cl_1, by decide, lw_in1 _ (List.mem_of_getElem? (i := 72) (by decide +kernel))⟩
theorem fp_X11_121 : slFp RX11 121 1 1 .int := ⟨_, _, _, _, cl_1, by decide, lw_in1 _ (List.mem_of_getElem? (i := 72) (by decide +kernel)), rfl, rfl⟩
theorem fd_X11_124 : slFd RX11 124 1 2 := ⟨_, _, _, _, cl_1, by decide, lw_in1 _ (List.mem_of_getElem? (i := 74) (by decide +kernel))⟩
theorem fp_X11_124 : slFp RX11 124 1 2 .int := ⟨_, _, _, _, cl_1, by decide, lw_in1 _ (List.mem_of_getElem? (i := 74) (by decide +kernel)), rfl, rfl⟩
theorem fd_X11_127 : slFd RX11 127 1 3 := ⟨_, _, _, _, cl_1, by decide, lw_in1 _ (List.mem_of_getElem? (i := 81) (by decide +kernel))⟩
theorem fp_X11_127 : slFp RX11 127 1 3 .int := ⟨_, _, _, _, cl_1, by decide, lw_in1 _ (List.mem_of_getElem? (i := 81) (by decide +kernel)), rfl, rfl⟩
theorem fd_X11_130 : slFd RX11 130 1 4 := ⟨_, _, _, _, cl_1, by decide, lw_in1 _ (List.mem_of_getElem? (i := 86) (by decide +kernel))⟩
theorem fp_X11_130 : slFp RX11 130 1 4 .int := ⟨_, _, _, _, cl_1, by decide, lw_in1 _ (List.mem_of_getElem? (i := 86) (by decide +kernel)), rfl, rfl⟩
theorem fd_X11_133 : slFd RX11 133 1 16 := ⟨_, _, _, _, cl_1, by decide, lw_in1 _ (List.mem_of_getElem? (i := 125) (by decide +kernel))⟩
theorem fd_X11_137 : slFd RX11 137 4 4 := ⟨_, _, _, _, cl_4, by decide, lw_in1 _ (List.mem_of_getElem? (i := 53) (by decide +kernel))⟩
theorem fp_X11_137 : slFp RX11 137 4 4 .int := ⟨_, _, _, _, cl_4, by decide, lw_in1 _ (List.mem_of_getElem? (i := 53) (by decide +kernel)), rfl, rfl⟩
theorem fd_X11_142 : slFd RX11 142 8 6 := ⟨_, _, _, _, cl_8, by decide, lw_in2 _ (List.mem_of_getElem? (i := 1) (by decide +kernel))⟩
theorem fp_X11_142 : slFp RX11 142 8 6 .int := ⟨_, _, _, _, cl_8, by decide, lw_in2 _ (List.mem_of_getElem? (i := 1) (by decide +kernel)), rfl, rfl⟩
theorem fd_X11_145 : slFd RX11 145 8 4 := ⟨_, _, _, _, cl_8, by decide, lw_in1 _ (List.mem_of_getElem? (i := 235) (by decide +kernel))⟩
theorem fd_X11_149 : slFd RX11 149 0 3 := ⟨_, _, _, _, cl_0, by decide, lw_in1 _ (List.mem_of_getElem? (i := 182) (by decide +kernel))⟩
theorem fp_X11_149 : slFp RX11 149 0 3 .int := ⟨_, _, _, _, cl_0, by decide, lw_in1 _ (List.mem_of_getElem? (i := 182) (by decide +kernel)), rfl, rfl⟩
theorem fd_X11_154 : slFd RX11 154 8 5 := ⟨_, _, _, _, cl_8, by decide, lw_in1 _ (List.mem_of_getElem? (i := 238) (by decide +kernel))⟩
theorem fd_X11_158 : slFd RX11 158 5 4 := ⟨_, _, _, _, cl_5, by decide, lw_in1 _ (List.mem_of_getElem? (i := 204) (by decide +kernel))⟩
theorem fp_X11_158 : slFp RX11 158 5 4 .int := ⟨_, _, _, _, cl_5, by decide, lw_in1 _ (List.mem_of_getElem? (i := 204) (by decide +kernel)), rfl, rfl⟩
theorem fd_X11_169 : slFd RX11 169 8 0 := ⟨_, _, _, _, cl_8, by decide, lw_in1 _ (List.mem_of_getElem? (i := 218) (by decide +kernel))⟩
theorem fd_X11_172 : slFd RX11 172 1 9 := ⟨_, _, _, _, cl_1, by decide, lw_in1 _ (List.mem_of_getElem? (i := 100) (by decide +kernel))⟩
theorem fd_X11_175 : slFd RX11 175 8 1 := ⟨_, _, _, _, cl_8, by decide, lw_in1 _ (List.mem_of_getElem? (i := 222) (by decide +kernel))⟩
theorem fd_X11_178 : slFd RX11 178 1 10 := ⟨_, _, _, _, cl_1, by decide, lw_in1 _ (List.mem_of_getElem? (i := 105) (by decide +kernel))⟩
theorem fd_X11_181 : slFd RX11 181 1 11 := ⟨_, _, _, _, cl_1, by decide, lw_in1 _ (List.mem_of_getElem? (i := 108) (by decide +kernel))⟩
theorem fd_X11_184 : slFd RX11 184 1 13 := ⟨_, _, _, _, cl_1, by decide, lw_in1 _ (List.mem_of_getElem? (i := 114) (by decide +kernel))⟩
theorem fd_X11_187 : slFd RX11 187 1 14 := ⟨_, _, _, _, cl_1, by decide, lw_in1 _ (List.mem_of_getElem? (i := 118) (by decide +kernel))⟩
theorem fd_X11_197 : slFd RX11 197 8 2 := ⟨_, _, _, _, cl_8, by decide, lw_in1 _ (List.mem_of_getElem? (i := 227) (by decide +kernel))⟩
theorem fd_X11_200 : slFd RX11 200 8 3 := ⟨_, _, _, _, cl_8, by decide, lw_in1 _ (List.mem_of_getElem? (i := 230) (by decide +kernel))⟩
theorem fd_X11_386 : slFd RX11 386 3 2 := ⟨_, _, _, _, cl_3, by decide, lw_in2 _ (List.mem_of_getElem? (i := 106) (by decide +kernel))⟩
theorem fp_X11_386 : slFp RX11 386 3 2 .int := ⟨_, _, _, _, cl_3, by decide, lw_in2 _ (List.mem_of_getElem? (i := 106) (by decide +kernel)), rfl, rfl⟩
theorem fd_X11_401 : slFd RX11 401 7 2 := ⟨_, _, _, _, cl_7, by decide, lw_in2 _ (List.mem_of_getElem? (i := 58) (by decide +kernel))⟩
theorem fp_X11_401 : slFp RX11 401 7 2 (.object "SailingLights$Chart") := ⟨_, _, _, _, cl_7, by decide, lw_in2 _ (List.mem_of_getElem? (i := 58) (by decide +kernel)), rfl, rfl⟩
theorem fd_X11_402 : slFd RX11 402 7 3 := ⟨_, _, _, _, cl_7, by decide, lw_in2 _ (List.mem_of_getElem? (i := 60) (by decide +kernel))⟩
theorem fp_X11_402 : slFp RX11 402 7 3 (.object "SailingLights$Stand") := ⟨_, _, _, _, cl_7, by decide, lw_in2 _ (List.mem_of_getElem? (i := 60) (by decide +kernel)), rfl, rfl⟩
theorem fd_X0_9 : slFd RX0 9 0 0 := ⟨_, _, _, _, cl_0, by decide, lw_in1 _ (List.mem_of_getElem? (i := 173) (by decide +kernel))⟩
theorem fd_X0_15 : slFd RX0 15 0 1 := ⟨_, _, _, _, cl_0, by decide, lw_in1 _ (List.mem_of_getElem? (i := 175) (by decide +kernel))⟩
theorem fd_X0_18 : slFd RX0 18 0 2 := ⟨_, _, _, _, cl_0, by decide, lw_in1 _ (List.mem_of_getElem? (i := 177) (by decide +kernel))⟩
theorem fd_X0_21 : slFd RX0 21 0 3 := ⟨_, _, _, _, cl_0, by decide, lw_in1 _ (List.mem_of_getElem? (i := 179) (by decide +kernel))⟩
theorem fp_X0_21 : slFp RX0 21 0 3 .int := ⟨_, _, _, _, cl_0, by decide, lw_in1 _ (List.mem_of_getElem? (i := 179) (by decide +kernel)), rfl, rfl⟩
theorem fd_X1_9 : slFd RX1 9 1 0 := ⟨_, _, _, _, cl_1, by decide, lw_in1 _ (List.mem_of_getElem? (i := 67) (by decide +kernel))⟩
theorem fp_X1_9 : slFp RX1 9 1 0 .int := ⟨_, _, _, _, cl_1, by decide, lw_in1 _ (List.mem_of_getElem? (i := 67) (by decide +kernel)), rfl, rfl⟩
theorem fd_X1_15 : slFd RX1 15 1 1 := ⟨_, _, _, _, cl_1, by decide, lw_in1 _ (List.mem_of_getElem? (i := 70) (by decide +kernel))⟩
theorem fp_X1_15 : slFp RX1 15 1 1 .int := ⟨_, _, _, _, cl_1, by decide, lw_in1 _ (List.mem_of_getElem? (i := 70) (by decide +kernel)), rfl, rfl⟩
theorem fd_X1_18 : slFd RX1 18 1 2 := ⟨_, _, _, _, cl_1, by decide, lw_in1 _ (List.mem_of_getElem? (i := 73) (by decide +kernel))⟩
theorem fp_X1_18 : slFp RX1 18 1 2 .int := ⟨_, _, _, _, cl_1, by decide, lw_in1 _ (List.mem_of_getElem? (i := 73) (by decide +kernel)), rfl, rfl⟩
theorem fd_X1_21 : slFd RX1 21 1 3 := ⟨_, _, _, _, cl_1, by decide, lw_in1 _ (List.mem_of_getElem? (i := 76) (by decide +kernel))⟩
theorem fp_X1_21 : slFp RX1 21 1 3 .int := ⟨_, _, _, _, cl_1, by decide, lw_in1 _ (List.mem_of_getElem? (i := 76) (by decide +kernel)), rfl, rfl⟩
theorem fd_X1_24 : slFd RX1 24 1 4 := ⟨_, _, _, _, cl_1, by decide, lw_in1 _ (List.mem_of_getElem? (i := 83) (by decide +kernel))⟩
theorem fp_X1_24 : slFp RX1 24 1 4 .int := ⟨_, _, _, _, cl_1, by decide, lw_in1 _ (List.mem_of_getElem? (i := 83) (by decide +kernel)), rfl, rfl⟩
theorem fd_X1_27 : slFd RX1 27 1 5 := ⟨_, _, _, _, cl_1, by decide, lw_in1 _ (List.mem_of_getElem? (i := 89) (by decide +kernel))⟩
theorem fp_X1_27 : slFp RX1 27 1 5 .int := ⟨_, _, _, _, cl_1, by decide, lw_in1 _ (List.mem_of_getElem? (i := 89) (by decide +kernel)), rfl, rfl⟩
theorem fd_X1_30 : slFd RX1 30 1 6 := ⟨_, _, _, _, cl_1, by decide, lw_in1 _ (List.mem_of_getElem? (i := 91) (by decide +kernel))⟩
theorem fd_X1_34 : slFd RX1 34 1 7 := ⟨_, _, _, _, cl_1, by decide, lw_in1 _ (List.mem_of_getElem? (i := 93) (by decide +kernel))⟩
theorem fd_X1_38 : slFd RX1 38 1 8 := ⟨_, _, _, _, cl_1, by decide, lw_in1 _ (List.mem_of_getElem? (i := 95) (by decide +kernel))⟩
theorem fd_X1_41 : slFd RX1 41 1 9 := ⟨_, _, _, _, cl_1, by decide, lw_in1 _ (List.mem_of_getElem? (i := 97) (by decide +kernel))⟩
theorem fd_X1_44 : slFd RX1 44 1 10 := ⟨_, _, _, _, cl_1, by decide, lw_in1 _ (List.mem_of_getElem? (i := 103) (by decide +kernel))⟩
theorem fd_X1_47 : slFd RX1 47 1 11 := ⟨_, _, _, _, cl_1, by decide, lw_in1 _ (List.mem_of_getElem? (i := 107) (by decide +kernel))⟩
theorem fd_X1_50 : slFd RX1 50 1 12 := ⟨_, _, _, _, cl_1, by decide, lw_in1 _ (List.mem_of_getElem? (i := 110) (by decide +kernel))⟩
theorem fd_X1_53 : slFd RX1 53 1 13 := ⟨_, _, _, _, cl_1, by decide, lw_in1 _ (List.mem_of_getElem? (i := 112) (by decide +kernel))⟩
theorem fd_X1_56 : slFd RX1 56 1 14 := ⟨_, _, _, _, cl_1, by decide, lw_in1 _ (List.mem_of_getElem? (i := 116) (by decide +kernel))⟩
theorem fd_X1_59 : slFd RX1 59 1 15 := ⟨_, _, _, _, cl_1, by decide, lw_in1 _ (List.mem_of_getElem? (i := 120) (by decide +kernel))⟩
theorem fd_X1_65 : slFd RX1 65 1 16 := ⟨_, _, _, _, cl_1, by decide, lw_in1 _ (List.mem_of_getElem? (i := 122) (by decide +kernel))⟩
theorem fd_X2_9 : slFd RX2 9 2 0 := ⟨_, _, _, _, cl_2, by decide, lw_in2 _ (List.mem_of_getElem? (i := 151) (by decide +kernel))⟩
theorem fd_X2_15 : slFd RX2 15 2 1 := ⟨_, _, _, _, cl_2, by decide, lw_in2 _ (List.mem_of_getElem? (i := 152) (by decide +kernel))⟩
theorem fd_X2_18 : slFd RX2 18 1 3 := ⟨_, _, _, _, cl_1, by decide, lw_in1 _ (List.mem_of_getElem? (i := 79) (by decide +kernel))⟩
theorem fp_X2_18 : slFp RX2 18 1 3 .int := ⟨_, _, _, _, cl_1, by decide, lw_in1 _ (List.mem_of_getElem? (i := 79) (by decide +kernel)), rfl, rfl⟩
theorem fd_X2_24 : slFd RX2 24 1 4 := ⟨_, _, _, _, cl_1, by decide, lw_in1 _ (List.mem_of_getElem? (i := 85) (by decide +kernel))⟩
theorem fp_X2_24 : slFp RX2 24 1 4 .int := ⟨_, _, _, _, cl_1, by decide, lw_in1 _ (List.mem_of_getElem? (i := 85) (by decide +kernel)), rfl, rfl⟩
theorem fd_X2_46 : slFd RX2 46 1 14 := ⟨_, _, _, _, cl_1, by decide, lw_in1 _ (List.mem_of_getElem? (i := 117) (by decide +kernel))⟩
theorem fd_X2_49 : slFd RX2 49 1 13 := ⟨_, _, _, _, cl_1, by decide, lw_in1 _ (List.mem_of_getElem? (i := 113) (by decide +kernel))⟩
theorem fd_X3_9 : slFd RX3 9 3 0 := ⟨_, _, _, _, cl_3, by decide, lw_in2 _ (List.mem_of_getElem? (i := 103) (by decide +kernel))⟩
theorem fd_X3_15 : slFd RX3 15 3 1 := ⟨_, _, _, _, cl_3, by decide, lw_in2 _ (List.mem_of_getElem? (i := 104) (by decide +kernel))⟩
theorem fd_X3_18 : slFd RX3 18 3 2 := ⟨_, _, _, _, cl_3, by decide, lw_in2 _ (List.mem_of_getElem? (i := 105) (by decide +kernel))⟩
theorem fp_X3_18 : slFp RX3 18 3 2 .int := ⟨_, _, _, _, cl_3, by decide, lw_in2 _ (List.mem_of_getElem? (i := 105) (by decide +kernel)), rfl, rfl⟩
theorem fd_X3_22 : slFd RX3 22 1 3 := ⟨_, _, _, _, cl_1, by decide, lw_in1 _ (List.mem_of_getElem? (i := 80) (by decide +kernel))⟩
theorem fp_X3_22 : slFp RX3 22 1 3 .int := ⟨_, _, _, _, cl_1, by decide, lw_in1 _ (List.mem_of_getElem? (i := 80) (by decide +kernel)), rfl, rfl⟩
theorem fd_X3_27 : slFd RX3 27 8 0 := ⟨_, _, _, _, cl_8, by decide, lw_in1 _ (List.mem_of_getElem? (i := 217) (by decide +kernel))⟩
theorem fd_X3_32 : slFd RX3 32 10 1 := ⟨_, _, _, _, cl_10, by decide, lw_in2 _ (List.mem_of_getElem? (i := 88) (by decide +kernel))⟩
theorem fd_X3_60 : slFd RX3 60 1 4 := ⟨_, _, _, _, cl_1, by decide, lw_in1 _ (List.mem_of_getElem? (i := 87) (by decide +kernel))⟩
theorem fp_X3_60 : slFp RX3 60 1 4 .int := ⟨_, _, _, _, cl_1, by decide, lw_in1 _ (List.mem_of_getElem? (i := 87) (by decide +kernel)), rfl, rfl⟩
theorem fd_X3_63 : slFd RX3 63 8 1 := ⟨_, _, _, _, cl_8, by decide, lw_in1 _ (List.mem_of_getElem? (i := 223) (by decide +kernel))⟩
theorem fd_X3_74 : slFd RX3 74 1 9 := ⟨_, _, _, _, cl_1, by decide, lw_in1 _ (List.mem_of_getElem? (i := 102) (by decide +kernel))⟩
theorem fd_X3_81 : slFd RX3 81 8 3 := ⟨_, _, _, _, cl_8, by decide, lw_in1 _ (List.mem_of_getElem? (i := 232) (by decide +kernel))⟩
theorem fd_X4_9 : slFd RX4 9 4 0 := ⟨_, _, _, _, cl_4, by decide, lw_in1 _ (List.mem_of_getElem? (i := 47) (by decide +kernel))⟩
theorem fd_X4_15 : slFd RX4 15 4 1 := ⟨_, _, _, _, cl_4, by decide, lw_in1 _ (List.mem_of_getElem? (i := 48) (by decide +kernel))⟩
theorem fd_X4_18 : slFd RX4 18 4 2 := ⟨_, _, _, _, cl_4, by decide, lw_in1 _ (List.mem_of_getElem? (i := 49) (by decide +kernel))⟩
theorem fd_X4_21 : slFd RX4 21 4 3 := ⟨_, _, _, _, cl_4, by decide, lw_in1 _ (List.mem_of_getElem? (i := 50) (by decide +kernel))⟩
theorem fp_X4_21 : slFp RX4 21 4 3 .int := ⟨_, _, _, _, cl_4, by decide, lw_in1 _ (List.mem_of_getElem? (i := 50) (by decide +kernel)), rfl, rfl⟩
theorem fd_X4_25 : slFd RX4 25 4 4 := ⟨_, _, _, _, cl_4, by decide, lw_in1 _ (List.mem_of_getElem? (i := 51) (by decide +kernel))⟩
theorem fp_X4_25 : slFp RX4 25 4 4 .int := ⟨_, _, _, _, cl_4, by decide, lw_in1 _ (List.mem_of_getElem? (i := 51) (by decide +kernel)), rfl, rfl⟩
theorem fd_X5_9 : slFd RX5 9 5 0 := ⟨_, _, _, _, cl_5, by decide, lw_in1 _ (List.mem_of_getElem? (i := 198) (by decide +kernel))⟩
theorem fd_X5_15 : slFd RX5 15 5 1 := ⟨_, _, _, _, cl_5, by decide, lw_in1 _ (List.mem_of_getElem? (i := 199) (by decide +kernel))⟩
theorem fd_X5_18 : slFd RX5 18 5 2 := ⟨_, _, _, _, cl_5, by decide, lw_in1 _ (List.mem_of_getElem? (i := 200) (by decide +kernel))⟩
theorem fd_X5_21 : slFd RX5 21 5 3 := ⟨_, _, _, _, cl_5, by decide, lw_in1 _ (List.mem_of_getElem? (i := 201) (by decide +kernel))⟩
theorem fd_X5_24 : slFd RX5 24 5 4 := ⟨_, _, _, _, cl_5, by decide, lw_in1 _ (List.mem_of_getElem? (i := 202) (by decide +kernel))⟩
theorem fp_X5_24 : slFp RX5 24 5 4 .int := ⟨_, _, _, _, cl_5, by decide, lw_in1 _ (List.mem_of_getElem? (i := 202) (by decide +kernel)), rfl, rfl⟩
theorem fd_X6_9 : slFd RX6 9 6 0 := ⟨_, _, _, _, cl_6, by decide, lw_in2 _ (List.mem_of_getElem? (i := 120) (by decide +kernel))⟩
theorem fd_X6_15 : slFd RX6 15 6 1 := ⟨_, _, _, _, cl_6, by decide, lw_in2 _ (List.mem_of_getElem? (i := 121) (by decide +kernel))⟩
theorem fd_X6_18 : slFd RX6 18 6 2 := ⟨_, _, _, _, cl_6, by decide, lw_in2 _ (List.mem_of_getElem? (i := 122) (by decide +kernel))⟩
theorem fd_X6_21 : slFd RX6 21 6 3 := ⟨_, _, _, _, cl_6, by decide, lw_in2 _ (List.mem_of_getElem? (i := 123) (by decide +kernel))⟩
theorem fd_X6_24 : slFd RX6 24 6 4 := ⟨_, _, _, _, cl_6, by decide, lw_in2 _ (List.mem_of_getElem? (i := 124) (by decide +kernel))⟩
theorem fd_X6_27 : slFd RX6 27 6 5 := ⟨_, _, _, _, cl_6, by decide, lw_in2 _ (List.mem_of_getElem? (i := 125) (by decide +kernel))⟩
theorem fd_X6_30 : slFd RX6 30 6 6 := ⟨_, _, _, _, cl_6, by decide, lw_in2 _ (List.mem_of_getElem? (i := 126) (by decide +kernel))⟩
theorem fp_X6_30 : slFp RX6 30 6 6 .int := ⟨_, _, _, _, cl_6, by decide, lw_in2 _ (List.mem_of_getElem? (i := 126) (by decide +kernel)), rfl, rfl⟩
theorem fd_X6_34 : slFd RX6 34 6 7 := ⟨_, _, _, _, cl_6, by decide, lw_in2 _ (List.mem_of_getElem? (i := 127) (by decide +kernel))⟩
theorem fp_X6_34 : slFp RX6 34 6 7 .int := ⟨_, _, _, _, cl_6, by decide, lw_in2 _ (List.mem_of_getElem? (i := 127) (by decide +kernel)), rfl, rfl⟩
theorem fd_X6_37 : slFd RX6 37 1 3 := ⟨_, _, _, _, cl_1, by decide, lw_in1 _ (List.mem_of_getElem? (i := 77) (by decide +kernel))⟩
theorem fp_X6_37 : slFp RX6 37 1 3 .int := ⟨_, _, _, _, cl_1, by decide, lw_in1 _ (List.mem_of_getElem? (i := 77) (by decide +kernel)), rfl, rfl⟩
theorem fd_X6_40 : slFd RX6 40 1 4 := ⟨_, _, _, _, cl_1, by decide, lw_in1 _ (List.mem_of_getElem? (i := 84) (by decide +kernel))⟩
theorem fp_X6_40 : slFp RX6 40 1 4 .int := ⟨_, _, _, _, cl_1, by decide, lw_in1 _ (List.mem_of_getElem? (i := 84) (by decide +kernel)), rfl, rfl⟩
theorem fd_X6_47 : slFd RX6 47 8 2 := ⟨_, _, _, _, cl_8, by decide, lw_in1 _ (List.mem_of_getElem? (i := 226) (by decide +kernel))⟩
theorem fd_X6_62 : slFd RX6 62 1 9 := ⟨_, _, _, _, cl_1, by decide, lw_in1 _ (List.mem_of_getElem? (i := 99) (by decide +kernel))⟩
theorem fd_X7_12 : slFd RX7 12 7 0 := ⟨_, _, _, _, cl_7, by decide, lw_in2 _ (List.mem_of_getElem? (i := 55) (by decide +kernel))⟩
theorem fd_X7_18 : slFd RX7 18 7 1 := ⟨_, _, _, _, cl_7, by decide, lw_in2 _ (List.mem_of_getElem? (i := 56) (by decide +kernel))⟩
theorem fd_X7_25 : slFd RX7 25 7 2 := ⟨_, _, _, _, cl_7, by decide, lw_in2 _ (List.mem_of_getElem? (i := 57) (by decide +kernel))⟩
theorem fp_X7_25 : slFp RX7 25 7 2 (.object "SailingLights$Chart") := ⟨_, _, _, _, cl_7, by decide, lw_in2 _ (List.mem_of_getElem? (i := 57) (by decide +kernel)), rfl, rfl⟩
theorem fd_X7_32 : slFd RX7 32 7 3 := ⟨_, _, _, _, cl_7, by decide, lw_in2 _ (List.mem_of_getElem? (i := 59) (by decide +kernel))⟩
theorem fp_X7_32 : slFp RX7 32 7 3 (.object "SailingLights$Stand") := ⟨_, _, _, _, cl_7, by decide, lw_in2 _ (List.mem_of_getElem? (i := 59) (by decide +kernel)), rfl, rfl⟩
theorem fd_X7_36 : slFd RX7 36 7 4 := ⟨_, _, _, _, cl_7, by decide, lw_in2 _ (List.mem_of_getElem? (i := 61) (by decide +kernel))⟩
theorem fp_X7_36 : slFp RX7 36 7 4 .boolean := ⟨_, _, _, _, cl_7, by decide, lw_in2 _ (List.mem_of_getElem? (i := 61) (by decide +kernel)), rfl, rfl⟩
theorem fd_X7_40 : slFd RX7 40 7 5 := ⟨_, _, _, _, cl_7, by decide, lw_in2 _ (List.mem_of_getElem? (i := 62) (by decide +kernel))⟩
theorem fp_X7_40 : slFp RX7 40 7 5 .int := ⟨_, _, _, _, cl_7, by decide, lw_in2 _ (List.mem_of_getElem? (i := 62) (by decide +kernel)), rfl, rfl⟩
theorem fd_X7_44 : slFd RX7 44 7 6 := ⟨_, _, _, _, cl_7, by decide, lw_in2 _ (List.mem_of_getElem? (i := 63) (by decide +kernel))⟩
theorem fp_X7_44 : slFp RX7 44 7 6 .int := ⟨_, _, _, _, cl_7, by decide, lw_in2 _ (List.mem_of_getElem? (i := 63) (by decide +kernel)), rfl, rfl⟩
theorem fd_X7_50 : slFd RX7 50 8 4 := ⟨_, _, _, _, cl_8, by decide, lw_in1 _ (List.mem_of_getElem? (i := 234) (by decide +kernel))⟩
theorem fd_X7_54 : slFd RX7 54 0 3 := ⟨_, _, _, _, cl_0, by decide, lw_in1 _ (List.mem_of_getElem? (i := 180) (by decide +kernel))⟩
theorem fp_X7_54 : slFp RX7 54 0 3 .int := ⟨_, _, _, _, cl_0, by decide, lw_in1 _ (List.mem_of_getElem? (i := 180) (by decide +kernel)), rfl, rfl⟩
theorem fd_X7_59 : slFd RX7 59 8 5 := ⟨_, _, _, _, cl_8, by decide, lw_in1 _ (List.mem_of_getElem? (i := 237) (by decide +kernel))⟩
theorem fd_X7_63 : slFd RX7 63 5 4 := ⟨_, _, _, _, cl_5, by decide, lw_in1 _ (List.mem_of_getElem? (i := 203) (by decide +kernel))⟩
theorem fp_X7_63 : slFp RX7 63 5 4 .int := ⟨_, _, _, _, cl_5, by decide, lw_in1 _ (List.mem_of_getElem? (i := 203) (by decide +kernel)), rfl, rfl⟩
theorem fd_X7_80 : slFd RX7 80 9 4 := ⟨_, _, _, _, cl_9, by decide, lw_in2 _ (List.mem_of_getElem? (i := 35) (by decide +kernel))⟩
theorem fp_X7_80 : slFp RX7 80 9 4 .int := ⟨_, _, _, _, cl_9, by decide, lw_in2 _ (List.mem_of_getElem? (i := 35) (by decide +kernel)), rfl, rfl⟩
theorem fd_X7_86 : slFd RX7 86 1 16 := ⟨_, _, _, _, cl_1, by decide, lw_in1 _ (List.mem_of_getElem? (i := 123) (by decide +kernel))⟩
theorem fd_X7_90 : slFd RX7 90 4 4 := ⟨_, _, _, _, cl_4, by decide, lw_in1 _ (List.mem_of_getElem? (i := 52) (by decide +kernel))⟩
theorem fp_X7_90 : slFp RX7 90 4 4 .int := ⟨_, _, _, _, cl_4, by decide, lw_in1 _ (List.mem_of_getElem? (i := 52) (by decide +kernel)), rfl, rfl⟩
theorem fd_X7_95 : slFd RX7 95 8 6 := ⟨_, _, _, _, cl_8, by decide, lw_in2 _ (List.mem_of_getElem? (i := 0) (by decide +kernel))⟩
theorem fp_X7_95 : slFp RX7 95 8 6 .int := ⟨_, _, _, _, cl_8, by decide, lw_in2 _ (List.mem_of_getElem? (i := 0) (by decide +kernel)), rfl, rfl⟩
theorem fd_X7_98 : slFd RX7 98 9 2 := ⟨_, _, _, _, cl_9, by decide, lw_in2 _ (List.mem_of_getElem? (i := 32) (by decide +kernel))⟩
theorem fp_X7_98 : slFp RX7 98 9 2 .int := ⟨_, _, _, _, cl_9, by decide, lw_in2 _ (List.mem_of_getElem? (i := 32) (by decide +kernel)), rfl, rfl⟩
theorem fd_X7_135 : slFd RX7 135 1 0 := ⟨_, _, _, _, cl_1, by decide, lw_in1 _ (List.mem_of_getElem? (i := 68) (by decide +kernel))⟩
theorem fp_X7_135 : slFp RX7 135 1 0 .int := ⟨_, _, _, _, cl_1, by decide, lw_in1 _ (List.mem_of_getElem? (i := 68) (by decide +kernel)), rfl, rfl⟩
theorem fd_X7_138 : slFd RX7 138 1 1 := ⟨_, _, _, _, cl_1, by decide, lw_in1 _ (List.mem_of_getElem? (i := 71) (by decide +kernel))⟩
theorem fp_X7_138 : slFp RX7 138 1 1 .int := ⟨_, _, _, _, cl_1, by decide, lw_in1 _ (List.mem_of_getElem? (i := 71) (by decide +kernel)), rfl, rfl⟩
theorem fd_X7_144 : slFd RX7 144 1 2 := ⟨_, _, _, _, cl_1, by decide, lw_in1 _ (List.mem_of_getElem? (i := 75) (by decide +kernel))⟩
theorem fp_X7_144 : slFp RX7 144 1 2 .int := ⟨_, _, _, _, cl_1, by decide, lw_in1 _ (List.mem_of_getElem? (i := 75) (by decide +kernel)), rfl, rfl⟩
theorem fd_X7_150 : slFd RX7 150 1 6 := ⟨_, _, _, _, cl_1, by decide, lw_in1 _ (List.mem_of_getElem? (i := 92) (by decide +kernel))⟩
theorem fd_X7_154 : slFd RX7 154 1 7 := ⟨_, _, _, _, cl_1, by decide, lw_in1 _ (List.mem_of_getElem? (i := 94) (by decide +kernel))⟩
theorem fd_X7_161 : slFd RX7 161 1 8 := ⟨_, _, _, _, cl_1, by decide, lw_in1 _ (List.mem_of_getElem? (i := 96) (by decide +kernel))⟩
theorem fd_X7_167 : slFd RX7 167 1 3 := ⟨_, _, _, _, cl_1, by decide, lw_in1 _ (List.mem_of_getElem? (i := 82) (by decide +kernel))⟩
theorem fp_X7_167 : slFp RX7 167 1 3 .int := ⟨_, _, _, _, cl_1, by decide, lw_in1 _ (List.mem_of_getElem? (i := 82) (by decide +kernel)), rfl, rfl⟩
theorem fd_X7_170 : slFd RX7 170 8 0 := ⟨_, _, _, _, cl_8, by decide, lw_in1 _ (List.mem_of_getElem? (i := 219) (by decide +kernel))⟩
theorem fd_X7_173 : slFd RX7 173 1 9 := ⟨_, _, _, _, cl_1, by decide, lw_in1 _ (List.mem_of_getElem? (i := 101) (by decide +kernel))⟩
theorem fd_X7_176 : slFd RX7 176 8 1 := ⟨_, _, _, _, cl_8, by decide, lw_in1 _ (List.mem_of_getElem? (i := 224) (by decide +kernel))⟩
theorem fd_X7_179 : slFd RX7 179 1 10 := ⟨_, _, _, _, cl_1, by decide, lw_in1 _ (List.mem_of_getElem? (i := 106) (by decide +kernel))⟩
theorem fd_X7_188 : slFd RX7 188 1 4 := ⟨_, _, _, _, cl_1, by decide, lw_in1 _ (List.mem_of_getElem? (i := 88) (by decide +kernel))⟩
theorem fp_X7_188 : slFp RX7 188 1 4 .int := ⟨_, _, _, _, cl_1, by decide, lw_in1 _ (List.mem_of_getElem? (i := 88) (by decide +kernel)), rfl, rfl⟩
theorem fd_X7_191 : slFd RX7 191 8 2 := ⟨_, _, _, _, cl_8, by decide, lw_in1 _ (List.mem_of_getElem? (i := 228) (by decide +kernel))⟩
theorem fd_X7_194 : slFd RX7 194 8 3 := ⟨_, _, _, _, cl_8, by decide, lw_in1 _ (List.mem_of_getElem? (i := 231) (by decide +kernel))⟩
theorem fd_X7_197 : slFd RX7 197 1 15 := ⟨_, _, _, _, cl_1, by decide, lw_in1 _ (List.mem_of_getElem? (i := 121) (by decide +kernel))⟩
theorem fd_X7_199 : slFd RX7 199 1 5 := ⟨_, _, _, _, cl_1, by decide, lw_in1 _ (List.mem_of_getElem? (i := 90) (by decide +kernel))⟩
theorem fp_X7_199 : slFp RX7 199 1 5 .int := ⟨_, _, _, _, cl_1, by decide, lw_in1 _ (List.mem_of_getElem? (i := 90) (by decide +kernel)), rfl, rfl⟩
theorem fd_X7_208 : slFd RX7 208 9 5 := ⟨_, _, _, _, cl_9, by decide, lw_in2 _ (List.mem_of_getElem? (i := 37) (by decide +kernel))⟩
theorem fp_X7_208 : slFp RX7 208 9 5 .int := ⟨_, _, _, _, cl_9, by decide, lw_in2 _ (List.mem_of_getElem? (i := 37) (by decide +kernel)), rfl, rfl⟩
theorem fd_X7_233 : slFd RX7 233 1 11 := ⟨_, _, _, _, cl_1, by decide, lw_in1 _ (List.mem_of_getElem? (i := 109) (by decide +kernel))⟩
theorem fd_X7_236 : slFd RX7 236 1 12 := ⟨_, _, _, _, cl_1, by decide, lw_in1 _ (List.mem_of_getElem? (i := 111) (by decide +kernel))⟩
theorem fd_X7_241 : slFd RX7 241 1 13 := ⟨_, _, _, _, cl_1, by decide, lw_in1 _ (List.mem_of_getElem? (i := 115) (by decide +kernel))⟩
theorem fd_X7_244 : slFd RX7 244 1 14 := ⟨_, _, _, _, cl_1, by decide, lw_in1 _ (List.mem_of_getElem? (i := 119) (by decide +kernel))⟩
theorem fd_X8_9 : slFd RX8 9 8 0 := ⟨_, _, _, _, cl_8, by decide, lw_in1 _ (List.mem_of_getElem? (i := 216) (by decide +kernel))⟩
theorem fd_X8_15 : slFd RX8 15 8 1 := ⟨_, _, _, _, cl_8, by decide, lw_in1 _ (List.mem_of_getElem? (i := 220) (by decide +kernel))⟩
theorem fd_X8_18 : slFd RX8 18 8 2 := ⟨_, _, _, _, cl_8, by decide, lw_in1 _ (List.mem_of_getElem? (i := 225) (by decide +kernel))⟩
theorem fd_X8_21 : slFd RX8 21 8 3 := ⟨_, _, _, _, cl_8, by decide, lw_in1 _ (List.mem_of_getElem? (i := 229) (by decide +kernel))⟩
theorem fd_X8_27 : slFd RX8 27 8 4 := ⟨_, _, _, _, cl_8, by decide, lw_in1 _ (List.mem_of_getElem? (i := 233) (by decide +kernel))⟩
theorem fd_X8_34 : slFd RX8 34 8 5 := ⟨_, _, _, _, cl_8, by decide, lw_in1 _ (List.mem_of_getElem? (i := 236) (by decide +kernel))⟩
theorem fd_X8_38 : slFd RX8 38 8 6 := ⟨_, _, _, _, cl_8, by decide, lw_in1 _ (List.mem_of_getElem? (i := 239) (by decide +kernel))⟩
theorem fp_X8_38 : slFp RX8 38 8 6 .int := ⟨_, _, _, _, cl_8, by decide, lw_in1 _ (List.mem_of_getElem? (i := 239) (by decide +kernel)), rfl, rfl⟩
theorem fd_X8_55 : slFd RX8 55 0 3 := ⟨_, _, _, _, cl_0, by decide, lw_in1 _ (List.mem_of_getElem? (i := 181) (by decide +kernel))⟩
theorem fp_X8_55 : slFp RX8 55 0 3 .int := ⟨_, _, _, _, cl_0, by decide, lw_in1 _ (List.mem_of_getElem? (i := 181) (by decide +kernel)), rfl, rfl⟩
theorem fd_X8_58 : slFd RX8 58 0 0 := ⟨_, _, _, _, cl_0, by decide, lw_in1 _ (List.mem_of_getElem? (i := 174) (by decide +kernel))⟩
theorem fd_X8_61 : slFd RX8 61 0 1 := ⟨_, _, _, _, cl_0, by decide, lw_in1 _ (List.mem_of_getElem? (i := 176) (by decide +kernel))⟩
theorem fd_X8_64 : slFd RX8 64 0 2 := ⟨_, _, _, _, cl_0, by decide, lw_in1 _ (List.mem_of_getElem? (i := 178) (by decide +kernel))⟩
theorem fd_X9_7 : slFd RX9 7 9 0 := ⟨_, _, _, _, cl_9, by decide, lw_in2 _ (List.mem_of_getElem? (i := 29) (by decide +kernel))⟩
theorem fp_X9_7 : slFp RX9 7 9 0 (.array .int) := ⟨_, _, _, _, cl_9, by decide, lw_in2 _ (List.mem_of_getElem? (i := 29) (by decide +kernel)), rfl, rfl⟩
theorem fd_X9_13 : slFd RX9 13 9 1 := ⟨_, _, _, _, cl_9, by decide, lw_in2 _ (List.mem_of_getElem? (i := 30) (by decide +kernel))⟩
theorem fp_X9_13 : slFp RX9 13 9 1 .int := ⟨_, _, _, _, cl_9, by decide, lw_in2 _ (List.mem_of_getElem? (i := 30) (by decide +kernel)), rfl, rfl⟩
theorem fd_X9_17 : slFd RX9 17 9 2 := ⟨_, _, _, _, cl_9, by decide, lw_in2 _ (List.mem_of_getElem? (i := 31) (by decide +kernel))⟩
theorem fp_X9_17 : slFp RX9 17 9 2 .int := ⟨_, _, _, _, cl_9, by decide, lw_in2 _ (List.mem_of_getElem? (i := 31) (by decide +kernel)), rfl, rfl⟩
theorem fd_X9_20 : slFd RX9 20 9 3 := ⟨_, _, _, _, cl_9, by decide, lw_in2 _ (List.mem_of_getElem? (i := 33) (by decide +kernel))⟩
theorem fp_X9_20 : slFp RX9 20 9 3 .int := ⟨_, _, _, _, cl_9, by decide, lw_in2 _ (List.mem_of_getElem? (i := 33) (by decide +kernel)), rfl, rfl⟩
theorem fd_X9_23 : slFd RX9 23 9 4 := ⟨_, _, _, _, cl_9, by decide, lw_in2 _ (List.mem_of_getElem? (i := 34) (by decide +kernel))⟩
theorem fp_X9_23 : slFp RX9 23 9 4 .int := ⟨_, _, _, _, cl_9, by decide, lw_in2 _ (List.mem_of_getElem? (i := 34) (by decide +kernel)), rfl, rfl⟩
theorem fd_X9_26 : slFd RX9 26 9 5 := ⟨_, _, _, _, cl_9, by decide, lw_in2 _ (List.mem_of_getElem? (i := 36) (by decide +kernel))⟩
theorem fp_X9_26 : slFp RX9 26 9 5 .int := ⟨_, _, _, _, cl_9, by decide, lw_in2 _ (List.mem_of_getElem? (i := 36) (by decide +kernel)), rfl, rfl⟩
theorem fd_X10_9 : slFd RX10 9 10 0 := ⟨_, _, _, _, cl_10, by decide, lw_in2 _ (List.mem_of_getElem? (i := 86) (by decide +kernel))⟩
theorem fd_X10_15 : slFd RX10 15 10 1 := ⟨_, _, _, _, cl_10, by decide, lw_in2 _ (List.mem_of_getElem? (i := 87) (by decide +kernel))⟩
theorem fd_X10_20 : slFd RX10 20 10 2 := ⟨_, _, _, _, cl_10, by decide, lw_in2 _ (List.mem_of_getElem? (i := 89) (by decide +kernel))⟩
theorem fd_X10_23 : slFd RX10 23 1 3 := ⟨_, _, _, _, cl_1, by decide, lw_in1 _ (List.mem_of_getElem? (i := 78) (by decide +kernel))⟩
theorem fp_X10_23 : slFp RX10 23 1 3 .int := ⟨_, _, _, _, cl_1, by decide, lw_in1 _ (List.mem_of_getElem? (i := 78) (by decide +kernel)), rfl, rfl⟩
theorem fd_X10_29 : slFd RX10 29 8 1 := ⟨_, _, _, _, cl_8, by decide, lw_in1 _ (List.mem_of_getElem? (i := 221) (by decide +kernel))⟩
theorem fd_X10_42 : slFd RX10 42 1 10 := ⟨_, _, _, _, cl_1, by decide, lw_in1 _ (List.mem_of_getElem? (i := 104) (by decide +kernel))⟩
theorem fd_X10_45 : slFd RX10 45 1 9 := ⟨_, _, _, _, cl_1, by decide, lw_in1 _ (List.mem_of_getElem? (i := 98) (by decide +kernel))⟩
theorem fd_X10_56 : slFd RX10 56 1 16 := ⟨_, _, _, _, cl_1, by decide, lw_in1 _ (List.mem_of_getElem? (i := 124) (by decide +kernel))⟩
theorem fd_X12_7 : slFd RX12 7 12 1 := ⟨_, _, _, _, cl_12, by decide, lw_in7 _ (List.mem_of_getElem? (i := 42) (by decide +kernel))⟩
theorem fp_X12_7 : slFp RX12 7 12 1 .int := ⟨_, _, _, _, cl_12, by decide, lw_in7 _ (List.mem_of_getElem? (i := 42) (by decide +kernel)), rfl, rfl⟩
theorem fd_X12_13 : slFd RX12 13 12 2 := ⟨_, _, _, _, cl_12, by decide, lw_in7 _ (List.mem_of_getElem? (i := 43) (by decide +kernel))⟩
theorem fp_X12_13 : slFp RX12 13 12 2 .int := ⟨_, _, _, _, cl_12, by decide, lw_in7 _ (List.mem_of_getElem? (i := 43) (by decide +kernel)), rfl, rfl⟩
theorem fd_X12_16 : slFd RX12 16 12 8 := ⟨_, _, _, _, cl_12, by decide, lw_in7 _ (List.mem_of_getElem? (i := 49) (by decide +kernel))⟩
theorem fd_X12_20 : slFd RX12 20 12 9 := ⟨_, _, _, _, cl_12, by decide, lw_in7 _ (List.mem_of_getElem? (i := 50) (by decide +kernel))⟩
theorem fd_X12_23 : slFd RX12 23 12 10 := ⟨_, _, _, _, cl_12, by decide, lw_in7 _ (List.mem_of_getElem? (i := 51) (by decide +kernel))⟩
theorem fd_X12_26 : slFd RX12 26 12 11 := ⟨_, _, _, _, cl_12, by decide, lw_in7 _ (List.mem_of_getElem? (i := 52) (by decide +kernel))⟩
theorem fd_X12_29 : slFd RX12 29 12 12 := ⟨_, _, _, _, cl_12, by decide, lw_in7 _ (List.mem_of_getElem? (i := 53) (by decide +kernel))⟩
theorem fd_X12_32 : slFd RX12 32 12 13 := ⟨_, _, _, _, cl_12, by decide, lw_in7 _ (List.mem_of_getElem? (i := 54) (by decide +kernel))⟩
theorem fd_X12_35 : slFd RX12 35 12 14 := ⟨_, _, _, _, cl_12, by decide, lw_in7 _ (List.mem_of_getElem? (i := 55) (by decide +kernel))⟩
theorem fd_X12_38 : slFd RX12 38 12 15 := ⟨_, _, _, _, cl_12, by decide, lw_in7 _ (List.mem_of_getElem? (i := 56) (by decide +kernel))⟩
theorem fd_X12_41 : slFd RX12 41 12 16 := ⟨_, _, _, _, cl_12, by decide, lw_in7 _ (List.mem_of_getElem? (i := 57) (by decide +kernel))⟩
theorem fd_X12_44 : slFd RX12 44 12 17 := ⟨_, _, _, _, cl_12, by decide, lw_in7 _ (List.mem_of_getElem? (i := 58) (by decide +kernel))⟩
theorem fd_X12_47 : slFd RX12 47 12 18 := ⟨_, _, _, _, cl_12, by decide, lw_in7 _ (List.mem_of_getElem? (i := 59) (by decide +kernel))⟩
theorem fd_X12_51 : slFd RX12 51 12 19 := ⟨_, _, _, _, cl_12, by decide, lw_in7 _ (List.mem_of_getElem? (i := 60) (by decide +kernel))⟩
theorem fd_X12_54 : slFd RX12 54 12 22 := ⟨_, _, _, _, cl_12, by decide, lw_in7 _ (List.mem_of_getElem? (i := 63) (by decide +kernel))⟩
theorem fp_X12_54 : slFp RX12 54 12 22 .int := ⟨_, _, _, _, cl_12, by decide, lw_in7 _ (List.mem_of_getElem? (i := 63) (by decide +kernel)), rfl, rfl⟩
theorem fd_X12_57 : slFd RX12 57 12 23 := ⟨_, _, _, _, cl_12, by decide, lw_in7 _ (List.mem_of_getElem? (i := 64) (by decide +kernel))⟩
theorem fd_X12_60 : slFd RX12 60 12 42 := ⟨_, _, _, _, cl_12, by decide, lw_in7 _ (List.mem_of_getElem? (i := 83) (by decide +kernel))⟩
theorem fd_X12_63 : slFd RX12 63 12 43 := ⟨_, _, _, _, cl_12, by decide, lw_in7 _ (List.mem_of_getElem? (i := 84) (by decide +kernel))⟩
theorem fd_X12_66 : slFd RX12 66 12 44 := ⟨_, _, _, _, cl_12, by decide, lw_in7 _ (List.mem_of_getElem? (i := 85) (by decide +kernel))⟩
theorem fd_X12_69 : slFd RX12 69 12 45 := ⟨_, _, _, _, cl_12, by decide, lw_in7 _ (List.mem_of_getElem? (i := 86) (by decide +kernel))⟩
theorem fd_X12_72 : slFd RX12 72 12 46 := ⟨_, _, _, _, cl_12, by decide, lw_in7 _ (List.mem_of_getElem? (i := 87) (by decide +kernel))⟩
theorem fd_X12_75 : slFd RX12 75 12 47 := ⟨_, _, _, _, cl_12, by decide, lw_in7 _ (List.mem_of_getElem? (i := 88) (by decide +kernel))⟩
theorem fd_X12_78 : slFd RX12 78 12 48 := ⟨_, _, _, _, cl_12, by decide, lw_in7 _ (List.mem_of_getElem? (i := 89) (by decide +kernel))⟩
theorem fd_X12_81 : slFd RX12 81 12 49 := ⟨_, _, _, _, cl_12, by decide, lw_in7 _ (List.mem_of_getElem? (i := 90) (by decide +kernel))⟩
theorem fd_X12_84 : slFd RX12 84 12 50 := ⟨_, _, _, _, cl_12, by decide, lw_in7 _ (List.mem_of_getElem? (i := 91) (by decide +kernel))⟩
theorem fd_X12_87 : slFd RX12 87 12 51 := ⟨_, _, _, _, cl_12, by decide, lw_in7 _ (List.mem_of_getElem? (i := 92) (by decide +kernel))⟩
theorem fd_X12_90 : slFd RX12 90 12 52 := ⟨_, _, _, _, cl_12, by decide, lw_in7 _ (List.mem_of_getElem? (i := 93) (by decide +kernel))⟩
theorem fd_X12_93 : slFd RX12 93 12 53 := ⟨_, _, _, _, cl_12, by decide, lw_in7 _ (List.mem_of_getElem? (i := 94) (by decide +kernel))⟩
theorem fd_X12_96 : slFd RX12 96 12 54 := ⟨_, _, _, _, cl_12, by decide, lw_in7 _ (List.mem_of_getElem? (i := 95) (by decide +kernel))⟩
theorem fd_X12_99 : slFd RX12 99 12 55 := ⟨_, _, _, _, cl_12, by decide, lw_in7 _ (List.mem_of_getElem? (i := 96) (by decide +kernel))⟩
theorem fd_X12_102 : slFd RX12 102 12 56 := ⟨_, _, _, _, cl_12, by decide, lw_in7 _ (List.mem_of_getElem? (i := 97) (by decide +kernel))⟩
theorem fd_X12_105 : slFd RX12 105 12 57 := ⟨_, _, _, _, cl_12, by decide, lw_in7 _ (List.mem_of_getElem? (i := 98) (by decide +kernel))⟩
theorem fd_X12_108 : slFd RX12 108 12 59 := ⟨_, _, _, _, cl_12, by decide, lw_in7 _ (List.mem_of_getElem? (i := 100) (by decide +kernel))⟩
theorem fd_X12_111 : slFd RX12 111 12 60 := ⟨_, _, _, _, cl_12, by decide, lw_in7 _ (List.mem_of_getElem? (i := 101) (by decide +kernel))⟩
theorem fd_X12_114 : slFd RX12 114 12 61 := ⟨_, _, _, _, cl_12, by decide, lw_in7 _ (List.mem_of_getElem? (i := 102) (by decide +kernel))⟩
theorem fd_X12_117 : slFd RX12 117 12 62 := ⟨_, _, _, _, cl_12, by decide, lw_in7 _ (List.mem_of_getElem? (i := 103) (by decide +kernel))⟩
theorem fd_X12_120 : slFd RX12 120 12 63 := ⟨_, _, _, _, cl_12, by decide, lw_in7 _ (List.mem_of_getElem? (i := 104) (by decide +kernel))⟩
theorem fd_X12_123 : slFd RX12 123 12 64 := ⟨_, _, _, _, cl_12, by decide, lw_in7 _ (List.mem_of_getElem? (i := 105) (by decide +kernel))⟩
theorem fd_X12_126 : slFd RX12 126 12 66 := ⟨_, _, _, _, cl_12, by decide, lw_in7 _ (List.mem_of_getElem? (i := 107) (by decide +kernel))⟩
theorem fd_X12_129 : slFd RX12 129 12 67 := ⟨_, _, _, _, cl_12, by decide, lw_in7 _ (List.mem_of_getElem? (i := 108) (by decide +kernel))⟩
theorem fd_X12_132 : slFd RX12 132 12 68 := ⟨_, _, _, _, cl_12, by decide, lw_in7 _ (List.mem_of_getElem? (i := 109) (by decide +kernel))⟩
theorem fd_X12_135 : slFd RX12 135 12 69 := ⟨_, _, _, _, cl_12, by decide, lw_in7 _ (List.mem_of_getElem? (i := 110) (by decide +kernel))⟩
theorem fd_X12_138 : slFd RX12 138 12 70 := ⟨_, _, _, _, cl_12, by decide, lw_in7 _ (List.mem_of_getElem? (i := 111) (by decide +kernel))⟩
theorem fd_X12_141 : slFd RX12 141 12 71 := ⟨_, _, _, _, cl_12, by decide, lw_in7 _ (List.mem_of_getElem? (i := 112) (by decide +kernel))⟩
theorem fd_X12_144 : slFd RX12 144 12 73 := ⟨_, _, _, _, cl_12, by decide, lw_in7 _ (List.mem_of_getElem? (i := 114) (by decide +kernel))⟩
theorem fd_X12_147 : slFd RX12 147 12 75 := ⟨_, _, _, _, cl_12, by decide, lw_in7 _ (List.mem_of_getElem? (i := 116) (by decide +kernel))⟩
theorem fd_X12_150 : slFd RX12 150 12 79 := ⟨_, _, _, _, cl_12, by decide, lw_in7 _ (List.mem_of_getElem? (i := 120) (by decide +kernel))⟩
theorem fd_X12_153 : slFd RX12 153 12 80 := ⟨_, _, _, _, cl_12, by decide, lw_in7 _ (List.mem_of_getElem? (i := 121) (by decide +kernel))⟩
theorem fd_X12_156 : slFd RX12 156 12 81 := ⟨_, _, _, _, cl_12, by decide, lw_in7 _ (List.mem_of_getElem? (i := 122) (by decide +kernel))⟩
theorem fd_X12_159 : slFd RX12 159 12 0 := ⟨_, _, _, _, cl_12, by decide, lw_in7 _ (List.mem_of_getElem? (i := 41) (by decide +kernel))⟩
theorem fp_X12_159 : slFp RX12 159 12 0 .int := ⟨_, _, _, _, cl_12, by decide, lw_in7 _ (List.mem_of_getElem? (i := 41) (by decide +kernel)), rfl, rfl⟩
theorem fd_X12_162 : slFd RX12 162 12 20 := ⟨_, _, _, _, cl_12, by decide, lw_in7 _ (List.mem_of_getElem? (i := 61) (by decide +kernel))⟩
theorem fp_X12_162 : slFp RX12 162 12 20 .int := ⟨_, _, _, _, cl_12, by decide, lw_in7 _ (List.mem_of_getElem? (i := 61) (by decide +kernel)), rfl, rfl⟩
theorem fd_X12_169 : slFd RX12 169 12 24 := ⟨_, _, _, _, cl_12, by decide, lw_in7 _ (List.mem_of_getElem? (i := 65) (by decide +kernel))⟩
theorem fp_X12_169 : slFp RX12 169 12 24 .int := ⟨_, _, _, _, cl_12, by decide, lw_in7 _ (List.mem_of_getElem? (i := 65) (by decide +kernel)), rfl, rfl⟩
theorem fd_X12_172 : slFd RX12 172 12 25 := ⟨_, _, _, _, cl_12, by decide, lw_in7 _ (List.mem_of_getElem? (i := 66) (by decide +kernel))⟩
theorem fp_X12_172 : slFp RX12 172 12 25 .int := ⟨_, _, _, _, cl_12, by decide, lw_in7 _ (List.mem_of_getElem? (i := 66) (by decide +kernel)), rfl, rfl⟩
theorem fd_X12_179 : slFd RX12 179 12 27 := ⟨_, _, _, _, cl_12, by decide, lw_in7 _ (List.mem_of_getElem? (i := 68) (by decide +kernel))⟩
theorem fp_X12_179 : slFp RX12 179 12 27 .int := ⟨_, _, _, _, cl_12, by decide, lw_in7 _ (List.mem_of_getElem? (i := 68) (by decide +kernel)), rfl, rfl⟩
theorem fd_X12_182 : slFd RX12 182 12 31 := ⟨_, _, _, _, cl_12, by decide, lw_in7 _ (List.mem_of_getElem? (i := 72) (by decide +kernel))⟩
theorem fp_X12_182 : slFp RX12 182 12 31 .long := ⟨_, _, _, _, cl_12, by decide, lw_in7 _ (List.mem_of_getElem? (i := 72) (by decide +kernel)), rfl, rfl⟩
theorem fd_X12_186 : slFd RX12 186 12 29 := ⟨_, _, _, _, cl_12, by decide, lw_in7 _ (List.mem_of_getElem? (i := 70) (by decide +kernel))⟩
theorem fp_X12_186 : slFp RX12 186 12 29 .int := ⟨_, _, _, _, cl_12, by decide, lw_in7 _ (List.mem_of_getElem? (i := 70) (by decide +kernel)), rfl, rfl⟩
theorem fd_X12_189 : slFd RX12 189 12 30 := ⟨_, _, _, _, cl_12, by decide, lw_in7 _ (List.mem_of_getElem? (i := 71) (by decide +kernel))⟩
theorem fp_X12_189 : slFp RX12 189 12 30 .int := ⟨_, _, _, _, cl_12, by decide, lw_in7 _ (List.mem_of_getElem? (i := 71) (by decide +kernel)), rfl, rfl⟩
theorem fd_X12_192 : slFd RX12 192 12 26 := ⟨_, _, _, _, cl_12, by decide, lw_in7 _ (List.mem_of_getElem? (i := 67) (by decide +kernel))⟩
theorem fp_X12_192 : slFp RX12 192 12 26 .int := ⟨_, _, _, _, cl_12, by decide, lw_in7 _ (List.mem_of_getElem? (i := 67) (by decide +kernel)), rfl, rfl⟩
theorem fd_X12_202 : slFd RX12 202 12 28 := ⟨_, _, _, _, cl_12, by decide, lw_in7 _ (List.mem_of_getElem? (i := 69) (by decide +kernel))⟩
theorem fp_X12_202 : slFp RX12 202 12 28 .int := ⟨_, _, _, _, cl_12, by decide, lw_in7 _ (List.mem_of_getElem? (i := 69) (by decide +kernel)), rfl, rfl⟩
theorem fd_X12_215 : slFd RX12 215 12 21 := ⟨_, _, _, _, cl_12, by decide, lw_in7 _ (List.mem_of_getElem? (i := 62) (by decide +kernel))⟩
theorem fp_X12_215 : slFp RX12 215 12 21 .int := ⟨_, _, _, _, cl_12, by decide, lw_in7 _ (List.mem_of_getElem? (i := 62) (by decide +kernel)), rfl, rfl⟩
theorem fd_X12_232 : slFd RX12 232 12 39 := ⟨_, _, _, _, cl_12, by decide, lw_in7 _ (List.mem_of_getElem? (i := 80) (by decide +kernel))⟩
theorem fp_X12_232 : slFp RX12 232 12 39 .int := ⟨_, _, _, _, cl_12, by decide, lw_in7 _ (List.mem_of_getElem? (i := 80) (by decide +kernel)), rfl, rfl⟩
theorem fd_X12_235 : slFd RX12 235 12 40 := ⟨_, _, _, _, cl_12, by decide, lw_in7 _ (List.mem_of_getElem? (i := 81) (by decide +kernel))⟩
theorem fp_X12_235 : slFp RX12 235 12 40 .int := ⟨_, _, _, _, cl_12, by decide, lw_in7 _ (List.mem_of_getElem? (i := 81) (by decide +kernel)), rfl, rfl⟩
theorem fd_X12_251 : slFd RX12 251 12 41 := ⟨_, _, _, _, cl_12, by decide, lw_in7 _ (List.mem_of_getElem? (i := 82) (by decide +kernel))⟩
theorem fp_X12_251 : slFp RX12 251 12 41 .int := ⟨_, _, _, _, cl_12, by decide, lw_in7 _ (List.mem_of_getElem? (i := 82) (by decide +kernel)), rfl, rfl⟩
theorem fd_X12_279 : slFd RX12 279 12 32 := ⟨_, _, _, _, cl_12, by decide, lw_in7 _ (List.mem_of_getElem? (i := 73) (by decide +kernel))⟩
theorem fp_X12_279 : slFp RX12 279 12 32 .int := ⟨_, _, _, _, cl_12, by decide, lw_in7 _ (List.mem_of_getElem? (i := 73) (by decide +kernel)), rfl, rfl⟩
theorem fd_X12_286 : slFd RX12 286 12 33 := ⟨_, _, _, _, cl_12, by decide, lw_in7 _ (List.mem_of_getElem? (i := 74) (by decide +kernel))⟩
theorem fp_X12_286 : slFp RX12 286 12 33 .int := ⟨_, _, _, _, cl_12, by decide, lw_in7 _ (List.mem_of_getElem? (i := 74) (by decide +kernel)), rfl, rfl⟩
theorem fd_X12_295 : slFd RX12 295 12 35 := ⟨_, _, _, _, cl_12, by decide, lw_in7 _ (List.mem_of_getElem? (i := 76) (by decide +kernel))⟩
theorem fp_X12_295 : slFp RX12 295 12 35 .int := ⟨_, _, _, _, cl_12, by decide, lw_in7 _ (List.mem_of_getElem? (i := 76) (by decide +kernel)), rfl, rfl⟩
theorem fd_X12_305 : slFd RX12 305 12 37 := ⟨_, _, _, _, cl_12, by decide, lw_in7 _ (List.mem_of_getElem? (i := 78) (by decide +kernel))⟩
theorem fp_X12_305 : slFp RX12 305 12 37 .int := ⟨_, _, _, _, cl_12, by decide, lw_in7 _ (List.mem_of_getElem? (i := 78) (by decide +kernel)), rfl, rfl⟩
theorem fd_X12_308 : slFd RX12 308 12 34 := ⟨_, _, _, _, cl_12, by decide, lw_in7 _ (List.mem_of_getElem? (i := 75) (by decide +kernel))⟩
theorem fp_X12_308 : slFp RX12 308 12 34 .int := ⟨_, _, _, _, cl_12, by decide, lw_in7 _ (List.mem_of_getElem? (i := 75) (by decide +kernel)), rfl, rfl⟩
theorem fd_X12_314 : slFd RX12 314 12 36 := ⟨_, _, _, _, cl_12, by decide, lw_in7 _ (List.mem_of_getElem? (i := 77) (by decide +kernel))⟩
theorem fp_X12_314 : slFp RX12 314 12 36 .int := ⟨_, _, _, _, cl_12, by decide, lw_in7 _ (List.mem_of_getElem? (i := 77) (by decide +kernel)), rfl, rfl⟩
theorem fd_X12_320 : slFd RX12 320 12 38 := ⟨_, _, _, _, cl_12, by decide, lw_in7 _ (List.mem_of_getElem? (i := 79) (by decide +kernel))⟩
theorem fp_X12_320 : slFp RX12 320 12 38 .int := ⟨_, _, _, _, cl_12, by decide, lw_in7 _ (List.mem_of_getElem? (i := 79) (by decide +kernel)), rfl, rfl⟩
theorem fd_X12_336 : slFd RX12 336 12 3 := ⟨_, _, _, _, cl_12, by decide, lw_in7 _ (List.mem_of_getElem? (i := 44) (by decide +kernel))⟩
theorem fp_X12_336 : slFp RX12 336 12 3 .int := ⟨_, _, _, _, cl_12, by decide, lw_in7 _ (List.mem_of_getElem? (i := 44) (by decide +kernel)), rfl, rfl⟩
theorem fd_X12_339 : slFd RX12 339 12 4 := ⟨_, _, _, _, cl_12, by decide, lw_in7 _ (List.mem_of_getElem? (i := 45) (by decide +kernel))⟩
theorem fp_X12_339 : slFp RX12 339 12 4 .int := ⟨_, _, _, _, cl_12, by decide, lw_in7 _ (List.mem_of_getElem? (i := 45) (by decide +kernel)), rfl, rfl⟩
theorem fd_X12_342 : slFd RX12 342 12 5 := ⟨_, _, _, _, cl_12, by decide, lw_in7 _ (List.mem_of_getElem? (i := 46) (by decide +kernel))⟩
theorem fp_X12_342 : slFp RX12 342 12 5 .int := ⟨_, _, _, _, cl_12, by decide, lw_in7 _ (List.mem_of_getElem? (i := 46) (by decide +kernel)), rfl, rfl⟩
theorem fd_X12_345 : slFd RX12 345 12 6 := ⟨_, _, _, _, cl_12, by decide, lw_in7 _ (List.mem_of_getElem? (i := 47) (by decide +kernel))⟩
theorem fp_X12_345 : slFp RX12 345 12 6 .int := ⟨_, _, _, _, cl_12, by decide, lw_in7 _ (List.mem_of_getElem? (i := 47) (by decide +kernel)), rfl, rfl⟩
theorem fd_X12_348 : slFd RX12 348 12 7 := ⟨_, _, _, _, cl_12, by decide, lw_in7 _ (List.mem_of_getElem? (i := 48) (by decide +kernel))⟩
theorem fp_X12_348 : slFp RX12 348 12 7 .int := ⟨_, _, _, _, cl_12, by decide, lw_in7 _ (List.mem_of_getElem? (i := 48) (by decide +kernel)), rfl, rfl⟩
theorem fd_X12_355 : slFd RX12 355 12 58 := ⟨_, _, _, _, cl_12, by decide, lw_in7 _ (List.mem_of_getElem? (i := 99) (by decide +kernel))⟩
theorem fp_X12_355 : slFp RX12 355 12 58 .int := ⟨_, _, _, _, cl_12, by decide, lw_in7 _ (List.mem_of_getElem? (i := 99) (by decide +kernel)), rfl, rfl⟩
theorem fd_X12_358 : slFd RX12 358 12 72 := ⟨_, _, _, _, cl_12, by decide, lw_in7 _ (List.mem_of_getElem? (i := 113) (by decide +kernel))⟩
theorem fp_X12_358 : slFp RX12 358 12 72 .int := ⟨_, _, _, _, cl_12, by decide, lw_in7 _ (List.mem_of_getElem? (i := 113) (by decide +kernel)), rfl, rfl⟩
theorem fd_X12_361 : slFd RX12 361 12 76 := ⟨_, _, _, _, cl_12, by decide, lw_in7 _ (List.mem_of_getElem? (i := 117) (by decide +kernel))⟩
theorem fp_X12_361 : slFp RX12 361 12 76 .boolean := ⟨_, _, _, _, cl_12, by decide, lw_in7 _ (List.mem_of_getElem? (i := 117) (by decide +kernel)), rfl, rfl⟩
theorem fd_X12_378 : slFd RX12 378 12 65 := ⟨_, _, _, _, cl_12, by decide, lw_in7 _ (List.mem_of_getElem? (i := 106) (by decide +kernel))⟩
theorem fp_X12_378 : slFp RX12 378 12 65 .int := ⟨_, _, _, _, cl_12, by decide, lw_in7 _ (List.mem_of_getElem? (i := 106) (by decide +kernel)), rfl, rfl⟩
theorem fd_X12_515 : slFd RX12 515 12 74 := ⟨_, _, _, _, cl_12, by decide, lw_in7 _ (List.mem_of_getElem? (i := 115) (by decide +kernel))⟩
theorem fp_X12_515 : slFp RX12 515 12 74 .int := ⟨_, _, _, _, cl_12, by decide, lw_in7 _ (List.mem_of_getElem? (i := 115) (by decide +kernel)), rfl, rfl⟩
theorem fd_X12_525 : slFd RX12 525 12 77 := ⟨_, _, _, _, cl_12, by decide, lw_in7 _ (List.mem_of_getElem? (i := 118) (by decide +kernel))⟩
theorem fp_X12_525 : slFp RX12 525 12 77 .int := ⟨_, _, _, _, cl_12, by decide, lw_in7 _ (List.mem_of_getElem? (i := 118) (by decide +kernel)), rfl, rfl⟩
theorem fd_X12_528 : slFd RX12 528 12 78 := ⟨_, _, _, _, cl_12, by decide, lw_in7 _ (List.mem_of_getElem? (i := 119) (by decide +kernel))⟩
theorem fp_X12_528 : slFp RX12 528 12 78 .int := ⟨_, _, _, _, cl_12, by decide, lw_in7 _ (List.mem_of_getElem? (i := 119) (by decide +kernel)), rfl, rfl⟩
abbrev mX0_keep : slMt := (yX0_keep, cX0_keep, 4, none)
theorem ms_X0_keep : slMs mX0_keep 3 := ⟨lw_in1 _ (List.mem_of_getElem? (i := 5) (by decide +kernel)), lw_in3 _ (List.mem_of_getElem? (i := 11) (by decide +kernel)), by decide +kernel, by decide⟩
theorem mv_X0_keep : Cond.instanceMethod mX0_keep.1 ∈ lw_tbl ∧ Cond.selects mX0_keep.1.cls mX0_keep.1 mX0_keep.1 ∈ lw_tbl ∧ (slR 0).1 = 0 ∧ ∃ (T : u_T) (N : Nat), vwCl[0]? = some (mX0_keep.1.cls, T, N) := ⟨lw_in3 _ (List.mem_of_getElem? (i := 9) (by decide +kernel)), lw_in3 _ (List.mem_of_getElem? (i := 10) (by decide +kernel)), rfl, _, _, rfl⟩
abbrev mX0_take : slMt := (yX0_take, cX0_take, 2, none)
theorem ms_X0_take : slMs mX0_take 1 := ⟨lw_in1 _ (List.mem_of_getElem? (i := 5) (by decide +kernel)), lw_in3 _ (List.mem_of_getElem? (i := 183) (by decide +kernel)), by decide +kernel, by decide⟩
theorem mv_X0_take : Cond.instanceMethod mX0_take.1 ∈ lw_tbl ∧ Cond.selects mX0_take.1.cls mX0_take.1 mX0_take.1 ∈ lw_tbl ∧ (slR 0).1 = 0 ∧ ∃ (T : u_T) (N : Nat), vwCl[0]? = some (mX0_take.1.cls, T, N) := ⟨lw_in3 _ (List.mem_of_getElem? (i := 181) (by decide +kernel)), lw_in3 _ (List.mem_of_getElem? (i := 182) (by decide +kernel)), rfl, _, _, rfl⟩
abbrev mX1_clear : slMt := (yX1_clear, cX1_clear, 2, none)
theorem ms_X1_clear : slMs mX1_clear 0 := ⟨lw_in1 _ (List.mem_of_getElem? (i := 2) (by decide +kernel)), lw_in4 _ (List.mem_of_getElem? (i := 35) (by decide +kernel)), by decide +kernel, by decide⟩
theorem mv_X1_clear : Cond.instanceMethod mX1_clear.1 ∈ lw_tbl ∧ Cond.selects mX1_clear.1.cls mX1_clear.1 mX1_clear.1 ∈ lw_tbl ∧ (slR 1).1 = 0 ∧ ∃ (T : u_T) (N : Nat), vwCl[1]? = some (mX1_clear.1.cls, T, N) := ⟨lw_in4 _ (List.mem_of_getElem? (i := 33) (by decide +kernel)), lw_in4 _ (List.mem_of_getElem? (i := 34) (by decide +kernel)), rfl, _, _, rfl⟩
abbrev mX1_cells : slMt := (yX1_cells, cX1_cells, 1, (some .int))
theorem ms_X1_cells : slMs mX1_cells 0 := ⟨lw_in1 _ (List.mem_of_getElem? (i := 2) (by decide +kernel)), lw_in3 _ (List.mem_of_getElem? (i := 39) (by decide +kernel)), by decide +kernel, by decide⟩
theorem mv_X1_cells : Cond.instanceMethod mX1_cells.1 ∈ lw_tbl ∧ Cond.selects mX1_cells.1.cls mX1_cells.1 mX1_cells.1 ∈ lw_tbl ∧ (slR 1).1 = 0 ∧ ∃ (T : u_T) (N : Nat), vwCl[1]? = some (mX1_cells.1.cls, T, N) := ⟨lw_in3 _ (List.mem_of_getElem? (i := 37) (by decide +kernel)), lw_in3 _ (List.mem_of_getElem? (i := 38) (by decide +kernel)), rfl, _, _, rfl⟩
abbrev mX1_isOpen : slMt := (yX1_isOpen, cX1_isOpen, 2, (some .boolean))
theorem ms_X1_isOpen : slMs mX1_isOpen 1 := ⟨lw_in1 _ (List.mem_of_getElem? (i := 2) (by decide +kernel)), lw_in3 _ (List.mem_of_getElem? (i := 116) (by decide +kernel)), by decide +kernel, by decide⟩
theorem mv_X1_isOpen : Cond.instanceMethod mX1_isOpen.1 ∈ lw_tbl ∧ Cond.selects mX1_isOpen.1.cls mX1_isOpen.1 mX1_isOpen.1 ∈ lw_tbl ∧ (slR 1).1 = 0 ∧ ∃ (T : u_T) (N : Nat), vwCl[1]? = some (mX1_isOpen.1.cls, T, N) := ⟨lw_in3 _ (List.mem_of_getElem? (i := 114) (by decide +kernel)), lw_in3 _ (List.mem_of_getElem? (i := 115) (by decide +kernel)), rfl, _, _, rfl⟩
abbrev mX1_columnOf : slMt := (yX1_columnOf, cX1_columnOf, 2, (some .int))
theorem ms_X1_columnOf : slMs mX1_columnOf 1 := ⟨lw_in1 _ (List.mem_of_getElem? (i := 2) (by decide +kernel)), lw_in3 _ (List.mem_of_getElem? (i := 47) (by decide +kernel)), by decide +kernel, by decide⟩
theorem mv_X1_columnOf : Cond.instanceMethod mX1_columnOf.1 ∈ lw_tbl ∧ Cond.selects mX1_columnOf.1.cls mX1_columnOf.1 mX1_columnOf.1 ∈ lw_tbl ∧ (slR 1).1 = 0 ∧ ∃ (T : u_T) (N : Nat), vwCl[1]? = some (mX1_columnOf.1.cls, T, N) := ⟨lw_in3 _ (List.mem_of_getElem? (i := 45) (by decide +kernel)), lw_in3 _ (List.mem_of_getElem? (i := 46) (by decide +kernel)), rfl, _, _, rfl⟩
abbrev mX1_rowOf : slMt := (yX1_rowOf, cX1_rowOf, 2, (some .int))
theorem ms_X1_rowOf : slMs mX1_rowOf 1 := ⟨lw_in1 _ (List.mem_of_getElem? (i := 2) (by decide +kernel)), lw_in3 _ (List.mem_of_getElem? (i := 51) (by decide +kernel)), by decide +kernel, by decide⟩
theorem mv_X1_rowOf : Cond.instanceMethod mX1_rowOf.1 ∈ lw_tbl ∧ Cond.selects mX1_rowOf.1.cls mX1_rowOf.1 mX1_rowOf.1 ∈ lw_tbl ∧ (slR 1).1 = 0 ∧ ∃ (T : u_T) (N : Nat), vwCl[1]? = some (mX1_rowOf.1.cls, T, N) := ⟨lw_in3 _ (List.mem_of_getElem? (i := 49) (by decide +kernel)), lw_in3 _ (List.mem_of_getElem? (i := 50) (by decide +kernel)), rfl, _, _, rfl⟩
abbrev mX1_stepOf : slMt := (yX1_stepOf, cX1_stepOf, 3, (some .int))
theorem ms_X1_stepOf : slMs mX1_stepOf 2 := ⟨lw_in1 _ (List.mem_of_getElem? (i := 2) (by decide +kernel)), lw_in3 _ (List.mem_of_getElem? (i := 105) (by decide +kernel)), by decide +kernel, by decide⟩
theorem mv_X1_stepOf : Cond.instanceMethod mX1_stepOf.1 ∈ lw_tbl ∧ Cond.selects mX1_stepOf.1.cls mX1_stepOf.1 mX1_stepOf.1 ∈ lw_tbl ∧ (slR 1).1 = 0 ∧ ∃ (T : u_T) (N : Nat), vwCl[1]? = some (mX1_stepOf.1.cls, T, N) := ⟨lw_in3 _ (List.mem_of_getElem? (i := 103) (by decide +kernel)), lw_in3 _ (List.mem_of_getElem? (i := 104) (by decide +kernel)), rfl, _, _, rfl⟩
abbrev mX1_cellBehind : slMt := (yX1_cellBehind, cX1_cellBehind, 5, (some .int))
theorem ms_X1_cellBehind : slMs mX1_cellBehind 2 := ⟨lw_in1 _ (List.mem_of_getElem? (i := 2) (by decide +kernel)), lw_in3 _ (List.mem_of_getElem? (i := 112) (by decide +kernel)), by decide +kernel, by decide⟩
theorem mv_X1_cellBehind : Cond.instanceMethod mX1_cellBehind.1 ∈ lw_tbl ∧ Cond.selects mX1_cellBehind.1.cls mX1_cellBehind.1 mX1_cellBehind.1 ∈ lw_tbl ∧ (slR 1).1 = 0 ∧ ∃ (T : u_T) (N : Nat), vwCl[1]? = some (mX1_cellBehind.1.cls, T, N) := ⟨lw_in3 _ (List.mem_of_getElem? (i := 110) (by decide +kernel)), lw_in3 _ (List.mem_of_getElem? (i := 111) (by decide +kernel)), rfl, _, _, rfl⟩
abbrev mX1_farBetween : slMt := (yX1_farBetween, cX1_farBetween, 3, (some .int))
theorem ms_X1_farBetween : slMs mX1_farBetween 2 := ⟨lw_in1 _ (List.mem_of_getElem? (i := 2) (by decide +kernel)), lw_in5 _ (List.mem_of_getElem? (i := 197) (by decide +kernel)), by decide +kernel, by decide⟩
theorem mv_X1_farBetween : Cond.instanceMethod mX1_farBetween.1 ∈ lw_tbl ∧ Cond.selects mX1_farBetween.1.cls mX1_farBetween.1 mX1_farBetween.1 ∈ lw_tbl ∧ (slR 1).1 = 0 ∧ ∃ (T : u_T) (N : Nat), vwCl[1]? = some (mX1_farBetween.1.cls, T, N) := ⟨lw_in5 _ (List.mem_of_getElem? (i := 195) (by decide +kernel)), lw_in5 _ (List.mem_of_getElem? (i := 196) (by decide +kernel)), rfl, _, _, rfl⟩
abbrev mX1_sight : slMt := (yX1_sight, cX1_sight, 8, (some .int))
theorem ms_X1_sight : slMs mX1_sight 2 := ⟨lw_in1 _ (List.mem_of_getElem? (i := 2) (by decide +kernel)), lw_in3 _ (List.mem_of_getElem? (i := 43) (by decide +kernel)), by decide +kernel, by decide⟩
theorem mv_X1_sight : Cond.instanceMethod mX1_sight.1 ∈ lw_tbl ∧ Cond.selects mX1_sight.1.cls mX1_sight.1 mX1_sight.1 ∈ lw_tbl ∧ (slR 1).1 = 0 ∧ ∃ (T : u_T) (N : Nat), vwCl[1]? = some (mX1_sight.1.cls, T, N) := ⟨lw_in3 _ (List.mem_of_getElem? (i := 41) (by decide +kernel)), lw_in3 _ (List.mem_of_getElem? (i := 42) (by decide +kernel)), rfl, _, _, rfl⟩
abbrev mX1_isBetween : slMt := (yX1_isBetween, cX1_isBetween, 4, (some .boolean))
theorem ms_X1_isBetween : slMs mX1_isBetween 4 := ⟨lw_in1 _ (List.mem_of_getElem? (i := 2) (by decide +kernel)), lw_in3 _ (List.mem_of_getElem? (i := 54) (by decide +kernel)), by decide +kernel, by decide⟩
theorem mt_X1_isBetween : Cond.static mX1_isBetween.1 ∈ lw_tbl := lw_in3 _ (List.mem_of_getElem? (i := 53) (by decide +kernel))
abbrev mX1_isWithin : slMt := (yX1_isWithin, cX1_isWithin, 2, (some .boolean))
theorem ms_X1_isWithin : slMs mX1_isWithin 2 := ⟨lw_in1 _ (List.mem_of_getElem? (i := 2) (by decide +kernel)), lw_in3 _ (List.mem_of_getElem? (i := 57) (by decide +kernel)), by decide +kernel, by decide⟩
theorem mt_X1_isWithin : Cond.static mX1_isWithin.1 ∈ lw_tbl := lw_in3 _ (List.mem_of_getElem? (i := 56) (by decide +kernel))
abbrev mX1_fogIn : slMt := (yX1_fogIn, cX1_fogIn, 2, (some .int))
theorem ms_X1_fogIn : slMs mX1_fogIn 1 := ⟨lw_in1 _ (List.mem_of_getElem? (i := 2) (by decide +kernel)), lw_in3 _ (List.mem_of_getElem? (i := 125) (by decide +kernel)), by decide +kernel, by decide⟩
theorem mv_X1_fogIn : Cond.instanceMethod mX1_fogIn.1 ∈ lw_tbl ∧ Cond.selects mX1_fogIn.1.cls mX1_fogIn.1 mX1_fogIn.1 ∈ lw_tbl ∧ (slR 1).1 = 0 ∧ ∃ (T : u_T) (N : Nat), vwCl[1]? = some (mX1_fogIn.1.cls, T, N) := ⟨lw_in3 _ (List.mem_of_getElem? (i := 123) (by decide +kernel)), lw_in3 _ (List.mem_of_getElem? (i := 124) (by decide +kernel)), rfl, _, _, rfl⟩
abbrev mX1_mayFlash : slMt := (yX1_mayFlash, cX1_mayFlash, 5, (some .boolean))
theorem ms_X1_mayFlash : slMs mX1_mayFlash 3 := ⟨lw_in1 _ (List.mem_of_getElem? (i := 2) (by decide +kernel)), lw_in6 _ (List.mem_of_getElem? (i := 49) (by decide +kernel)), by decide +kernel, by decide⟩
theorem mv_X1_mayFlash : Cond.instanceMethod mX1_mayFlash.1 ∈ lw_tbl ∧ Cond.selects mX1_mayFlash.1.cls mX1_mayFlash.1 mX1_mayFlash.1 ∈ lw_tbl ∧ (slR 1).1 = 0 ∧ ∃ (T : u_T) (N : Nat), vwCl[1]? = some (mX1_mayFlash.1.cls, T, N) := ⟨lw_in6 _ (List.mem_of_getElem? (i := 47) (by decide +kernel)), lw_in6 _ (List.mem_of_getElem? (i := 48) (by decide +kernel)), rfl, _, _, rfl⟩
abbrev mX1_flashesFrom : slMt := (yX1_flashesFrom, cX1_flashesFrom, 9, (some .boolean))
theorem ms_X1_flashesFrom : slMs mX1_flashesFrom 4 := ⟨lw_in1 _ (List.mem_of_getElem? (i := 2) (by decide +kernel)), lw_in6 _ (List.mem_of_getElem? (i := 53) (by decide +kernel)), by decide +kernel, by decide⟩
theorem mv_X1_flashesFrom : Cond.instanceMethod mX1_flashesFrom.1 ∈ lw_tbl ∧ Cond.selects mX1_flashesFrom.1.cls mX1_flashesFrom.1 mX1_flashesFrom.1 ∈ lw_tbl ∧ (slR 1).1 = 0 ∧ ∃ (T : u_T) (N : Nat), vwCl[1]? = some (mX1_flashesFrom.1.cls, T, N) := ⟨lw_in6 _ (List.mem_of_getElem? (i := 51) (by decide +kernel)), lw_in6 _ (List.mem_of_getElem? (i := 52) (by decide +kernel)), rfl, _, _, rfl⟩
abbrev mX2_gather : slMt := (yX2_gather, cX2_gather, 6, none)
theorem ms_X2_gather : slMs mX2_gather 3 := ⟨lw_in1 _ (List.mem_of_getElem? (i := 12) (by decide +kernel)), lw_in6 _ (List.mem_of_getElem? (i := 18) (by decide +kernel)), by decide +kernel, by decide⟩
theorem mv_X2_gather : Cond.instanceMethod mX2_gather.1 ∈ lw_tbl ∧ Cond.selects mX2_gather.1.cls mX2_gather.1 mX2_gather.1 ∈ lw_tbl ∧ (slR 2).1 = 0 ∧ ∃ (T : u_T) (N : Nat), vwCl[2]? = some (mX2_gather.1.cls, T, N) := ⟨lw_in6 _ (List.mem_of_getElem? (i := 16) (by decide +kernel)), lw_in6 _ (List.mem_of_getElem? (i := 17) (by decide +kernel)), rfl, _, _, rfl⟩
abbrev mX2_gatherFrom : slMt := (yX2_gatherFrom, cX2_gatherFrom, 4, none)
theorem ms_X2_gatherFrom : slMs mX2_gatherFrom 2 := ⟨lw_in1 _ (List.mem_of_getElem? (i := 12) (by decide +kernel)), lw_in6 _ (List.mem_of_getElem? (i := 23) (by decide +kernel)), by decide +kernel, by decide⟩
theorem mv_X2_gatherFrom : Cond.instanceMethod mX2_gatherFrom.1 ∈ lw_tbl ∧ Cond.selects mX2_gatherFrom.1.cls mX2_gatherFrom.1 mX2_gatherFrom.1 ∈ lw_tbl ∧ (slR 2).1 = 0 ∧ ∃ (T : u_T) (N : Nat), vwCl[2]? = some (mX2_gatherFrom.1.cls, T, N) := ⟨lw_in6 _ (List.mem_of_getElem? (i := 22) (by decide +kernel)), lw_in0 _ (List.mem_of_getElem? (i := 40) (by decide +kernel)), rfl, _, _, rfl⟩
abbrev mX2_fewestSigns : slMt := (yX2_fewestSigns, cX2_fewestSigns, 5, (some .int))
theorem ms_X2_fewestSigns : slMs mX2_fewestSigns 1 := ⟨lw_in1 _ (List.mem_of_getElem? (i := 12) (by decide +kernel)), lw_in6 _ (List.mem_of_getElem? (i := 27) (by decide +kernel)), by decide +kernel, by decide⟩
theorem mv_X2_fewestSigns : Cond.instanceMethod mX2_fewestSigns.1 ∈ lw_tbl ∧ Cond.selects mX2_fewestSigns.1.cls mX2_fewestSigns.1 mX2_fewestSigns.1 ∈ lw_tbl ∧ (slR 2).1 = 0 ∧ ∃ (T : u_T) (N : Nat), vwCl[2]? = some (mX2_fewestSigns.1.cls, T, N) := ⟨lw_in6 _ (List.mem_of_getElem? (i := 25) (by decide +kernel)), lw_in6 _ (List.mem_of_getElem? (i := 26) (by decide +kernel)), rfl, _, _, rfl⟩
abbrev mX2_isPeaceful : slMt := (yX2_isPeaceful, cX2_isPeaceful, 4, (some .boolean))
theorem ms_X2_isPeaceful : slMs mX2_isPeaceful 2 := ⟨lw_in1 _ (List.mem_of_getElem? (i := 12) (by decide +kernel)), lw_in6 _ (List.mem_of_getElem? (i := 31) (by decide +kernel)), by decide +kernel, by decide⟩
theorem mv_X2_isPeaceful : Cond.instanceMethod mX2_isPeaceful.1 ∈ lw_tbl ∧ Cond.selects mX2_isPeaceful.1.cls mX2_isPeaceful.1 mX2_isPeaceful.1 ∈ lw_tbl ∧ (slR 2).1 = 0 ∧ ∃ (T : u_T) (N : Nat), vwCl[2]? = some (mX2_isPeaceful.1.cls, T, N) := ⟨lw_in6 _ (List.mem_of_getElem? (i := 30) (by decide +kernel)), lw_in0 _ (List.mem_of_getElem? (i := 41) (by decide +kernel)), rfl, _, _, rfl⟩
abbrev mX2_takenCouples : slMt := (yX2_takenCouples, cX2_takenCouples, 5, (some .int))
theorem ms_X2_takenCouples : slMs mX2_takenCouples 1 := ⟨lw_in1 _ (List.mem_of_getElem? (i := 12) (by decide +kernel)), lw_in6 _ (List.mem_of_getElem? (i := 36) (by decide +kernel)), by decide +kernel, by decide⟩
theorem mv_X2_takenCouples : Cond.instanceMethod mX2_takenCouples.1 ∈ lw_tbl ∧ Cond.selects mX2_takenCouples.1.cls mX2_takenCouples.1 mX2_takenCouples.1 ∈ lw_tbl ∧ (slR 2).1 = 0 ∧ ∃ (T : u_T) (N : Nat), vwCl[2]? = some (mX2_takenCouples.1.cls, T, N) := ⟨lw_in6 _ (List.mem_of_getElem? (i := 34) (by decide +kernel)), lw_in6 _ (List.mem_of_getElem? (i := 35) (by decide +kernel)), rfl, _, _, rfl⟩
abbrev mX3_cellOf : slMt := (yX3_cellOf, cX3_cellOf, 3, (some .int))
theorem ms_X3_cellOf : slMs mX3_cellOf 2 := ⟨lw_in1 _ (List.mem_of_getElem? (i := 10) (by decide +kernel)), lw_in5 _ (List.mem_of_getElem? (i := 143) (by decide +kernel)), by decide +kernel, by decide⟩
theorem mv_X3_cellOf : Cond.instanceMethod mX3_cellOf.1 ∈ lw_tbl ∧ Cond.selects mX3_cellOf.1.cls mX3_cellOf.1 mX3_cellOf.1 ∈ lw_tbl ∧ (slR 3).1 = 0 ∧ ∃ (T : u_T) (N : Nat), vwCl[3]? = some (mX3_cellOf.1.cls, T, N) := ⟨lw_in5 _ (List.mem_of_getElem? (i := 141) (by decide +kernel)), lw_in5 _ (List.mem_of_getElem? (i := 142) (by decide +kernel)), rfl, _, _, rfl⟩
abbrev mX3_sightsOf : slMt := (yX3_sightsOf, cX3_sightsOf, 3, (some .int))
theorem ms_X3_sightsOf : slMs mX3_sightsOf 2 := ⟨lw_in1 _ (List.mem_of_getElem? (i := 10) (by decide +kernel)), lw_in3 _ (List.mem_of_getElem? (i := 162) (by decide +kernel)), by decide +kernel, by decide⟩
theorem mv_X3_sightsOf : Cond.instanceMethod mX3_sightsOf.1 ∈ lw_tbl ∧ Cond.selects mX3_sightsOf.1.cls mX3_sightsOf.1 mX3_sightsOf.1 ∈ lw_tbl ∧ (slR 3).1 = 0 ∧ ∃ (T : u_T) (N : Nat), vwCl[3]? = some (mX3_sightsOf.1.cls, T, N) := ⟨lw_in3 _ (List.mem_of_getElem? (i := 160) (by decide +kernel)), lw_in3 _ (List.mem_of_getElem? (i := 161) (by decide +kernel)), rfl, _, _, rfl⟩
abbrev mX3_sail : slMt := (yX3_sail, cX3_sail, 7, none)
theorem ms_X3_sail : slMs mX3_sail 4 := ⟨lw_in1 _ (List.mem_of_getElem? (i := 10) (by decide +kernel)), lw_in3 _ (List.mem_of_getElem? (i := 97) (by decide +kernel)), by decide +kernel, by decide⟩
theorem mv_X3_sail : Cond.instanceMethod mX3_sail.1 ∈ lw_tbl ∧ Cond.selects mX3_sail.1.cls mX3_sail.1 mX3_sail.1 ∈ lw_tbl ∧ (slR 3).1 = 0 ∧ ∃ (T : u_T) (N : Nat), vwCl[3]? = some (mX3_sail.1.cls, T, N) := ⟨lw_in3 _ (List.mem_of_getElem? (i := 95) (by decide +kernel)), lw_in3 _ (List.mem_of_getElem? (i := 96) (by decide +kernel)), rfl, _, _, rfl⟩
abbrev mX3_go : slMt := (yX3_go, cX3_go, 7, none)
theorem ms_X3_go : slMs mX3_go 3 := ⟨lw_in1 _ (List.mem_of_getElem? (i := 10) (by decide +kernel)), lw_in3 _ (List.mem_of_getElem? (i := 101) (by decide +kernel)), by decide +kernel, by decide⟩
theorem mv_X3_go : Cond.instanceMethod mX3_go.1 ∈ lw_tbl ∧ Cond.selects mX3_go.1.cls mX3_go.1 mX3_go.1 ∈ lw_tbl ∧ (slR 3).1 = 0 ∧ ∃ (T : u_T) (N : Nat), vwCl[3]? = some (mX3_go.1.cls, T, N) := ⟨lw_in3 _ (List.mem_of_getElem? (i := 100) (by decide +kernel)), lw_in0 _ (List.mem_of_getElem? (i := 6) (by decide +kernel)), rfl, _, _, rfl⟩
abbrev mX3_look : slMt := (yX3_look, cX3_look, 5, none)
theorem ms_X3_look : slMs mX3_look 3 := ⟨lw_in1 _ (List.mem_of_getElem? (i := 10) (by decide +kernel)), lw_in3 _ (List.mem_of_getElem? (i := 121) (by decide +kernel)), by decide +kernel, by decide⟩
theorem mv_X3_look : Cond.instanceMethod mX3_look.1 ∈ lw_tbl ∧ Cond.selects mX3_look.1.cls mX3_look.1 mX3_look.1 ∈ lw_tbl ∧ (slR 3).1 = 0 ∧ ∃ (T : u_T) (N : Nat), vwCl[3]? = some (mX3_look.1.cls, T, N) := ⟨lw_in3 _ (List.mem_of_getElem? (i := 119) (by decide +kernel)), lw_in3 _ (List.mem_of_getElem? (i := 120) (by decide +kernel)), rfl, _, _, rfl⟩
abbrev mX3_lookInNight : slMt := (yX3_lookInNight, cX3_lookInNight, 8, none)
theorem ms_X3_lookInNight : slMs mX3_lookInNight 5 := ⟨lw_in1 _ (List.mem_of_getElem? (i := 10) (by decide +kernel)), lw_in3 _ (List.mem_of_getElem? (i := 129) (by decide +kernel)), by decide +kernel, by decide⟩
theorem mv_X3_lookInNight : Cond.instanceMethod mX3_lookInNight.1 ∈ lw_tbl ∧ Cond.selects mX3_lookInNight.1.cls mX3_lookInNight.1 mX3_lookInNight.1 ∈ lw_tbl ∧ (slR 3).1 = 0 ∧ ∃ (T : u_T) (N : Nat), vwCl[3]? = some (mX3_lookInNight.1.cls, T, N) := ⟨lw_in3 _ (List.mem_of_getElem? (i := 127) (by decide +kernel)), lw_in3 _ (List.mem_of_getElem? (i := 128) (by decide +kernel)), rfl, _, _, rfl⟩
abbrev mX3_show : slMt := (yX3_show, cX3_show, 9, none)
theorem ms_X3_show : slMs mX3_show 5 := ⟨lw_in1 _ (List.mem_of_getElem? (i := 10) (by decide +kernel)), lw_in3 _ (List.mem_of_getElem? (i := 134) (by decide +kernel)), by decide +kernel, by decide⟩
theorem mv_X3_show : Cond.instanceMethod mX3_show.1 ∈ lw_tbl ∧ Cond.selects mX3_show.1.cls mX3_show.1 mX3_show.1 ∈ lw_tbl ∧ (slR 3).1 = 0 ∧ ∃ (T : u_T) (N : Nat), vwCl[3]? = some (mX3_show.1.cls, T, N) := ⟨lw_in3 _ (List.mem_of_getElem? (i := 133) (by decide +kernel)), lw_in0 _ (List.mem_of_getElem? (i := 7) (by decide +kernel)), rfl, _, _, rfl⟩
abbrev mX3_hoursBy : slMt := (yX3_hoursBy, cX3_hoursBy, 7, (some .int))
theorem ms_X3_hoursBy : slMs mX3_hoursBy 3 := ⟨lw_in1 _ (List.mem_of_getElem? (i := 10) (by decide +kernel)), lw_in3 _ (List.mem_of_getElem? (i := 146) (by decide +kernel)), by decide +kernel, by decide⟩
theorem mv_X3_hoursBy : Cond.instanceMethod mX3_hoursBy.1 ∈ lw_tbl ∧ Cond.selects mX3_hoursBy.1.cls mX3_hoursBy.1 mX3_hoursBy.1 ∈ lw_tbl ∧ (slR 3).1 = 0 ∧ ∃ (T : u_T) (N : Nat), vwCl[3]? = some (mX3_hoursBy.1.cls, T, N) := ⟨lw_in3 _ (List.mem_of_getElem? (i := 144) (by decide +kernel)), lw_in3 _ (List.mem_of_getElem? (i := 145) (by decide +kernel)), rfl, _, _, rfl⟩
abbrev mX3_contentBy : slMt := (yX3_contentBy, cX3_contentBy, 7, (some .int))
theorem ms_X3_contentBy : slMs mX3_contentBy 4 := ⟨lw_in1 _ (List.mem_of_getElem? (i := 10) (by decide +kernel)), lw_in5 _ (List.mem_of_getElem? (i := 182) (by decide +kernel)), by decide +kernel, by decide⟩
theorem mv_X3_contentBy : Cond.instanceMethod mX3_contentBy.1 ∈ lw_tbl ∧ Cond.selects mX3_contentBy.1.cls mX3_contentBy.1 mX3_contentBy.1 ∈ lw_tbl ∧ (slR 3).1 = 0 ∧ ∃ (T : u_T) (N : Nat), vwCl[3]? = some (mX3_contentBy.1.cls, T, N) := ⟨lw_in5 _ (List.mem_of_getElem? (i := 180) (by decide +kernel)), lw_in5 _ (List.mem_of_getElem? (i := 181) (by decide +kernel)), rfl, _, _, rfl⟩
abbrev mX3_sumOfWatches : slMt := (yX3_sumOfWatches, cX3_sumOfWatches, 5, (some .int))
theorem ms_X3_sumOfWatches : slMs mX3_sumOfWatches 1 := ⟨lw_in1 _ (List.mem_of_getElem? (i := 10) (by decide +kernel)), lw_in3 _ (List.mem_of_getElem? (i := 142) (by decide +kernel)), by decide +kernel, by decide⟩
theorem mv_X3_sumOfWatches : Cond.instanceMethod mX3_sumOfWatches.1 ∈ lw_tbl ∧ Cond.selects mX3_sumOfWatches.1.cls mX3_sumOfWatches.1 mX3_sumOfWatches.1 ∈ lw_tbl ∧ (slR 3).1 = 0 ∧ ∃ (T : u_T) (N : Nat), vwCl[3]? = some (mX3_sumOfWatches.1.cls, T, N) := ⟨lw_in3 _ (List.mem_of_getElem? (i := 140) (by decide +kernel)), lw_in3 _ (List.mem_of_getElem? (i := 141) (by decide +kernel)), rfl, _, _, rfl⟩
abbrev mX3_lightsIn : slMt := (yX3_lightsIn, cX3_lightsIn, 6, (some .int))
theorem ms_X3_lightsIn : slMs mX3_lightsIn 2 := ⟨lw_in1 _ (List.mem_of_getElem? (i := 10) (by decide +kernel)), lw_in5 _ (List.mem_of_getElem? (i := 123) (by decide +kernel)), by decide +kernel, by decide⟩
theorem mv_X3_lightsIn : Cond.instanceMethod mX3_lightsIn.1 ∈ lw_tbl ∧ Cond.selects mX3_lightsIn.1.cls mX3_lightsIn.1 mX3_lightsIn.1 ∈ lw_tbl ∧ (slR 3).1 = 0 ∧ ∃ (T : u_T) (N : Nat), vwCl[3]? = some (mX3_lightsIn.1.cls, T, N) := ⟨lw_in5 _ (List.mem_of_getElem? (i := 121) (by decide +kernel)), lw_in5 _ (List.mem_of_getElem? (i := 122) (by decide +kernel)), rfl, _, _, rfl⟩
abbrev mX3_firstUnseen : slMt := (yX3_firstUnseen, cX3_firstUnseen, 3, (some .int))
theorem ms_X3_firstUnseen : slMs mX3_firstUnseen 1 := ⟨lw_in1 _ (List.mem_of_getElem? (i := 10) (by decide +kernel)), lw_in5 _ (List.mem_of_getElem? (i := 119) (by decide +kernel)), by decide +kernel, by decide⟩
theorem mv_X3_firstUnseen : Cond.instanceMethod mX3_firstUnseen.1 ∈ lw_tbl ∧ Cond.selects mX3_firstUnseen.1.cls mX3_firstUnseen.1 mX3_firstUnseen.1 ∈ lw_tbl ∧ (slR 3).1 = 0 ∧ ∃ (T : u_T) (N : Nat), vwCl[3]? = some (mX3_firstUnseen.1.cls, T, N) := ⟨lw_in5 _ (List.mem_of_getElem? (i := 117) (by decide +kernel)), lw_in5 _ (List.mem_of_getElem? (i := 118) (by decide +kernel)), rfl, _, _, rfl⟩
abbrev mX3_longestDark : slMt := (yX3_longestDark, cX3_longestDark, 5, (some .int))
theorem ms_X3_longestDark : slMs mX3_longestDark 1 := ⟨lw_in1 _ (List.mem_of_getElem? (i := 10) (by decide +kernel)), lw_in5 _ (List.mem_of_getElem? (i := 127) (by decide +kernel)), by decide +kernel, by decide⟩
theorem mv_X3_longestDark : Cond.instanceMethod mX3_longestDark.1 ∈ lw_tbl ∧ Cond.selects mX3_longestDark.1.cls mX3_longestDark.1 mX3_longestDark.1 ∈ lw_tbl ∧ (slR 3).1 = 0 ∧ ∃ (T : u_T) (N : Nat), vwCl[3]? = some (mX3_longestDark.1.cls, T, N) := ⟨lw_in5 _ (List.mem_of_getElem? (i := 125) (by decide +kernel)), lw_in5 _ (List.mem_of_getElem? (i := 126) (by decide +kernel)), rfl, _, _, rfl⟩
abbrev mX3_travelsOf : slMt := (yX3_travelsOf, cX3_travelsOf, 4, (some .int))
theorem ms_X3_travelsOf : slMs mX3_travelsOf 1 := ⟨lw_in1 _ (List.mem_of_getElem? (i := 10) (by decide +kernel)), lw_in6 _ (List.mem_of_getElem? (i := 238) (by decide +kernel)), by decide +kernel, by decide⟩
theorem mv_X3_travelsOf : Cond.instanceMethod mX3_travelsOf.1 ∈ lw_tbl ∧ Cond.selects mX3_travelsOf.1.cls mX3_travelsOf.1 mX3_travelsOf.1 ∈ lw_tbl ∧ (slR 3).1 = 0 ∧ ∃ (T : u_T) (N : Nat), vwCl[3]? = some (mX3_travelsOf.1.cls, T, N) := ⟨lw_in6 _ (List.mem_of_getElem? (i := 236) (by decide +kernel)), lw_in6 _ (List.mem_of_getElem? (i := 237) (by decide +kernel)), rfl, _, _, rfl⟩
abbrev mX3_stuckOf : slMt := (yX3_stuckOf, cX3_stuckOf, 5, (some .int))
theorem ms_X3_stuckOf : slMs mX3_stuckOf 2 := ⟨lw_in1 _ (List.mem_of_getElem? (i := 10) (by decide +kernel)), lw_in7 _ (List.mem_of_getElem? (i := 3) (by decide +kernel)), by decide +kernel, by decide⟩
theorem mv_X3_stuckOf : Cond.instanceMethod mX3_stuckOf.1 ∈ lw_tbl ∧ Cond.selects mX3_stuckOf.1.cls mX3_stuckOf.1 mX3_stuckOf.1 ∈ lw_tbl ∧ (slR 3).1 = 0 ∧ ∃ (T : u_T) (N : Nat), vwCl[3]? = some (mX3_stuckOf.1.cls, T, N) := ⟨lw_in7 _ (List.mem_of_getElem? (i := 1) (by decide +kernel)), lw_in7 _ (List.mem_of_getElem? (i := 2) (by decide +kernel)), rfl, _, _, rfl⟩
abbrev mX3_showsOf : slMt := (yX3_showsOf, cX3_showsOf, 6, (some .int))
theorem ms_X3_showsOf : slMs mX3_showsOf 2 := ⟨lw_in1 _ (List.mem_of_getElem? (i := 10) (by decide +kernel)), lw_in3 _ (List.mem_of_getElem? (i := 170) (by decide +kernel)), by decide +kernel, by decide⟩
theorem mv_X3_showsOf : Cond.instanceMethod mX3_showsOf.1 ∈ lw_tbl ∧ Cond.selects mX3_showsOf.1.cls mX3_showsOf.1 mX3_showsOf.1 ∈ lw_tbl ∧ (slR 3).1 = 0 ∧ ∃ (T : u_T) (N : Nat), vwCl[3]? = some (mX3_showsOf.1.cls, T, N) := ⟨lw_in3 _ (List.mem_of_getElem? (i := 168) (by decide +kernel)), lw_in3 _ (List.mem_of_getElem? (i := 169) (by decide +kernel)), rfl, _, _, rfl⟩
abbrev mX4_clear : slMt := (yX4_clear, cX4_clear, 1, none)
theorem ms_X4_clear : slMs mX4_clear 0 := ⟨lw_in1 _ (List.mem_of_getElem? (i := 3) (by decide +kernel)), lw_in4 _ (List.mem_of_getElem? (i := 39) (by decide +kernel)), by decide +kernel, by decide⟩
theorem mv_X4_clear : Cond.instanceMethod mX4_clear.1 ∈ lw_tbl ∧ Cond.selects mX4_clear.1.cls mX4_clear.1 mX4_clear.1 ∈ lw_tbl ∧ (slR 4).1 = 0 ∧ ∃ (T : u_T) (N : Nat), vwCl[4]? = some (mX4_clear.1.cls, T, N) := ⟨lw_in4 _ (List.mem_of_getElem? (i := 37) (by decide +kernel)), lw_in4 _ (List.mem_of_getElem? (i := 38) (by decide +kernel)), rfl, _, _, rfl⟩
abbrev mX4_put : slMt := (yX4_put, cX4_put, 2, none)
theorem ms_X4_put : slMs mX4_put 1 := ⟨lw_in1 _ (List.mem_of_getElem? (i := 3) (by decide +kernel)), lw_in5 _ (List.mem_of_getElem? (i := 54) (by decide +kernel)), by decide +kernel, by decide⟩
theorem mv_X4_put : Cond.instanceMethod mX4_put.1 ∈ lw_tbl ∧ Cond.selects mX4_put.1.cls mX4_put.1 mX4_put.1 ∈ lw_tbl ∧ (slR 4).1 = 0 ∧ ∃ (T : u_T) (N : Nat), vwCl[4]? = some (mX4_put.1.cls, T, N) := ⟨lw_in5 _ (List.mem_of_getElem? (i := 52) (by decide +kernel)), lw_in5 _ (List.mem_of_getElem? (i := 53) (by decide +kernel)), rfl, _, _, rfl⟩
abbrev mX4_close : slMt := (yX4_close, cX4_close, 1, none)
theorem ms_X4_close : slMs mX4_close 0 := ⟨lw_in1 _ (List.mem_of_getElem? (i := 3) (by decide +kernel)), lw_in5 _ (List.mem_of_getElem? (i := 60) (by decide +kernel)), by decide +kernel, by decide⟩
theorem mv_X4_close : Cond.instanceMethod mX4_close.1 ∈ lw_tbl ∧ Cond.selects mX4_close.1.cls mX4_close.1 mX4_close.1 ∈ lw_tbl ∧ (slR 4).1 = 0 ∧ ∃ (T : u_T) (N : Nat), vwCl[4]? = some (mX4_close.1.cls, T, N) := ⟨lw_in5 _ (List.mem_of_getElem? (i := 58) (by decide +kernel)), lw_in5 _ (List.mem_of_getElem? (i := 59) (by decide +kernel)), rfl, _, _, rfl⟩
abbrev mX4_give : slMt := (yX4_give, cX4_give, 6, (some .int))
theorem ms_X4_give : slMs mX4_give 2 := ⟨lw_in1 _ (List.mem_of_getElem? (i := 3) (by decide +kernel)), lw_in3 _ (List.mem_of_getElem? (i := 83) (by decide +kernel)), by decide +kernel, by decide⟩
theorem mv_X4_give : Cond.instanceMethod mX4_give.1 ∈ lw_tbl ∧ Cond.selects mX4_give.1.cls mX4_give.1 mX4_give.1 ∈ lw_tbl ∧ (slR 4).1 = 0 ∧ ∃ (T : u_T) (N : Nat), vwCl[4]? = some (mX4_give.1.cls, T, N) := ⟨lw_in3 _ (List.mem_of_getElem? (i := 81) (by decide +kernel)), lw_in3 _ (List.mem_of_getElem? (i := 82) (by decide +kernel)), rfl, _, _, rfl⟩
abbrev mX4_join : slMt := (yX4_join, cX4_join, 3, (some .int))
theorem ms_X4_join : slMs mX4_join 3 := ⟨lw_in1 _ (List.mem_of_getElem? (i := 3) (by decide +kernel)), lw_in3 _ (List.mem_of_getElem? (i := 86) (by decide +kernel)), by decide +kernel, by decide⟩
theorem mt_X4_join : Cond.static mX4_join.1 ∈ lw_tbl := lw_in3 _ (List.mem_of_getElem? (i := 85) (by decide +kernel))
abbrev mX5_enter : slMt := (yX5_enter, cX5_enter, 5, none)
theorem ms_X5_enter : slMs mX5_enter 4 := ⟨lw_in1 _ (List.mem_of_getElem? (i := 6) (by decide +kernel)), lw_in6 _ (List.mem_of_getElem? (i := 160) (by decide +kernel)), by decide +kernel, by decide⟩
theorem mv_X5_enter : Cond.instanceMethod mX5_enter.1 ∈ lw_tbl ∧ Cond.selects mX5_enter.1.cls mX5_enter.1 mX5_enter.1 ∈ lw_tbl ∧ (slR 5).1 = 0 ∧ ∃ (T : u_T) (N : Nat), vwCl[5]? = some (mX5_enter.1.cls, T, N) := ⟨lw_in6 _ (List.mem_of_getElem? (i := 158) (by decide +kernel)), lw_in6 _ (List.mem_of_getElem? (i := 159) (by decide +kernel)), rfl, _, _, rfl⟩
abbrev mX5_falseBy : slMt := (yX5_falseBy, cX5_falseBy, 4, (some .int))
theorem ms_X5_falseBy : slMs mX5_falseBy 1 := ⟨lw_in1 _ (List.mem_of_getElem? (i := 6) (by decide +kernel)), lw_in3 _ (List.mem_of_getElem? (i := 158) (by decide +kernel)), by decide +kernel, by decide⟩
theorem mv_X5_falseBy : Cond.instanceMethod mX5_falseBy.1 ∈ lw_tbl ∧ Cond.selects mX5_falseBy.1.cls mX5_falseBy.1 mX5_falseBy.1 ∈ lw_tbl ∧ (slR 5).1 = 0 ∧ ∃ (T : u_T) (N : Nat), vwCl[5]? = some (mX5_falseBy.1.cls, T, N) := ⟨lw_in3 _ (List.mem_of_getElem? (i := 156) (by decide +kernel)), lw_in3 _ (List.mem_of_getElem? (i := 157) (by decide +kernel)), rfl, _, _, rfl⟩
abbrev mX5_take : slMt := (yX5_take, cX5_take, 2, none)
theorem ms_X5_take : slMs mX5_take 1 := ⟨lw_in1 _ (List.mem_of_getElem? (i := 6) (by decide +kernel)), lw_in3 _ (List.mem_of_getElem? (i := 187) (by decide +kernel)), by decide +kernel, by decide⟩
theorem mv_X5_take : Cond.instanceMethod mX5_take.1 ∈ lw_tbl ∧ Cond.selects mX5_take.1.cls mX5_take.1 mX5_take.1 ∈ lw_tbl ∧ (slR 5).1 = 0 ∧ ∃ (T : u_T) (N : Nat), vwCl[5]? = some (mX5_take.1.cls, T, N) := ⟨lw_in3 _ (List.mem_of_getElem? (i := 185) (by decide +kernel)), lw_in3 _ (List.mem_of_getElem? (i := 186) (by decide +kernel)), rfl, _, _, rfl⟩
abbrev mX6_rankAll : slMt := (yX6_rankAll, cX6_rankAll, 7, none)
theorem ms_X6_rankAll : slMs mX6_rankAll 4 := ⟨lw_in1 _ (List.mem_of_getElem? (i := 11) (by decide +kernel)), lw_in6 _ (List.mem_of_getElem? (i := 64) (by decide +kernel)), by decide +kernel, by decide⟩
theorem mv_X6_rankAll : Cond.instanceMethod mX6_rankAll.1 ∈ lw_tbl ∧ Cond.selects mX6_rankAll.1.cls mX6_rankAll.1 mX6_rankAll.1 ∈ lw_tbl ∧ (slR 6).1 = 0 ∧ ∃ (T : u_T) (N : Nat), vwCl[6]? = some (mX6_rankAll.1.cls, T, N) := ⟨lw_in6 _ (List.mem_of_getElem? (i := 62) (by decide +kernel)), lw_in6 _ (List.mem_of_getElem? (i := 63) (by decide +kernel)), rfl, _, _, rfl⟩
abbrev mX6_nearerShips : slMt := (yX6_nearerShips, cX6_nearerShips, 7, (some .int))
theorem ms_X6_nearerShips : slMs mX6_nearerShips 2 := ⟨lw_in1 _ (List.mem_of_getElem? (i := 11) (by decide +kernel)), lw_in6 _ (List.mem_of_getElem? (i := 70) (by decide +kernel)), by decide +kernel, by decide⟩
theorem mv_X6_nearerShips : Cond.instanceMethod mX6_nearerShips.1 ∈ lw_tbl ∧ Cond.selects mX6_nearerShips.1.cls mX6_nearerShips.1 mX6_nearerShips.1 ∈ lw_tbl ∧ (slR 6).1 = 0 ∧ ∃ (T : u_T) (N : Nat), vwCl[6]? = some (mX6_nearerShips.1.cls, T, N) := ⟨lw_in6 _ (List.mem_of_getElem? (i := 69) (by decide +kernel)), lw_in0 _ (List.mem_of_getElem? (i := 42) (by decide +kernel)), rfl, _, _, rfl⟩
abbrev mX6_brighterLights : slMt := (yX6_brighterLights, cX6_brighterLights, 8, (some .int))
theorem ms_X6_brighterLights : slMs mX6_brighterLights 3 := ⟨lw_in1 _ (List.mem_of_getElem? (i := 11) (by decide +kernel)), lw_in6 _ (List.mem_of_getElem? (i := 74) (by decide +kernel)), by decide +kernel, by decide⟩
theorem mv_X6_brighterLights : Cond.instanceMethod mX6_brighterLights.1 ∈ lw_tbl ∧ Cond.selects mX6_brighterLights.1.cls mX6_brighterLights.1 mX6_brighterLights.1 ∈ lw_tbl ∧ (slR 6).1 = 0 ∧ ∃ (T : u_T) (N : Nat), vwCl[6]? = some (mX6_brighterLights.1.cls, T, N) := ⟨lw_in6 _ (List.mem_of_getElem? (i := 73) (by decide +kernel)), lw_in0 _ (List.mem_of_getElem? (i := 43) (by decide +kernel)), rfl, _, _, rfl⟩
abbrev mX6_bestShipFor : slMt := (yX6_bestShipFor, cX6_bestShipFor, 4, (some .int))
theorem ms_X6_bestShipFor : slMs mX6_bestShipFor 1 := ⟨lw_in1 _ (List.mem_of_getElem? (i := 11) (by decide +kernel)), lw_in6 _ (List.mem_of_getElem? (i := 117) (by decide +kernel)), by decide +kernel, by decide⟩
theorem mv_X6_bestShipFor : Cond.instanceMethod mX6_bestShipFor.1 ∈ lw_tbl ∧ Cond.selects mX6_bestShipFor.1.cls mX6_bestShipFor.1 mX6_bestShipFor.1 ∈ lw_tbl ∧ (slR 6).1 = 0 ∧ ∃ (T : u_T) (N : Nat), vwCl[6]? = some (mX6_bestShipFor.1.cls, T, N) := ⟨lw_in6 _ (List.mem_of_getElem? (i := 115) (by decide +kernel)), lw_in6 _ (List.mem_of_getElem? (i := 116) (by decide +kernel)), rfl, _, _, rfl⟩
abbrev mX6_ask : slMt := (yX6_ask, cX6_ask, 4, none)
theorem ms_X6_ask : slMs mX6_ask 1 := ⟨lw_in1 _ (List.mem_of_getElem? (i := 11) (by decide +kernel)), lw_in6 _ (List.mem_of_getElem? (i := 121) (by decide +kernel)), by decide +kernel, by decide⟩
theorem mv_X6_ask : Cond.instanceMethod mX6_ask.1 ∈ lw_tbl ∧ Cond.selects mX6_ask.1.cls mX6_ask.1 mX6_ask.1 ∈ lw_tbl ∧ (slR 6).1 = 0 ∧ ∃ (T : u_T) (N : Nat), vwCl[6]? = some (mX6_ask.1.cls, T, N) := ⟨lw_in6 _ (List.mem_of_getElem? (i := 120) (by decide +kernel)), lw_in0 _ (List.mem_of_getElem? (i := 51) (by decide +kernel)), rfl, _, _, rfl⟩
abbrev mX6_wouldRather : slMt := (yX6_wouldRather, cX6_wouldRather, 4, (some .boolean))
theorem ms_X6_wouldRather : slMs mX6_wouldRather 3 := ⟨lw_in1 _ (List.mem_of_getElem? (i := 11) (by decide +kernel)), lw_in6 _ (List.mem_of_getElem? (i := 102) (by decide +kernel)), by decide +kernel, by decide⟩
theorem mv_X6_wouldRather : Cond.instanceMethod mX6_wouldRather.1 ∈ lw_tbl ∧ Cond.selects mX6_wouldRather.1.cls mX6_wouldRather.1 mX6_wouldRather.1 ∈ lw_tbl ∧ (slR 6).1 = 0 ∧ ∃ (T : u_T) (N : Nat), vwCl[6]? = some (mX6_wouldRather.1.cls, T, N) := ⟨lw_in6 _ (List.mem_of_getElem? (i := 101) (by decide +kernel)), lw_in0 _ (List.mem_of_getElem? (i := 49) (by decide +kernel)), rfl, _, _, rfl⟩
abbrev mX6_lightWouldRather : slMt := (yX6_lightWouldRather, cX6_lightWouldRather, 4, (some .boolean))
theorem ms_X6_lightWouldRather : slMs mX6_lightWouldRather 3 := ⟨lw_in1 _ (List.mem_of_getElem? (i := 11) (by decide +kernel)), lw_in6 _ (List.mem_of_getElem? (i := 90) (by decide +kernel)), by decide +kernel, by decide⟩
theorem mv_X6_lightWouldRather : Cond.instanceMethod mX6_lightWouldRather.1 ∈ lw_tbl ∧ Cond.selects mX6_lightWouldRather.1.cls mX6_lightWouldRather.1 mX6_lightWouldRather.1 ∈ lw_tbl ∧ (slR 6).1 = 0 ∧ ∃ (T : u_T) (N : Nat), vwCl[6]? = some (mX6_lightWouldRather.1.cls, T, N) := ⟨lw_in6 _ (List.mem_of_getElem? (i := 89) (by decide +kernel)), lw_in0 _ (List.mem_of_getElem? (i := 46) (by decide +kernel)), rfl, _, _, rfl⟩
abbrev mX6_stableOnes : slMt := (yX6_stableOnes, cX6_stableOnes, 2, (some .int))
theorem ms_X6_stableOnes : slMs mX6_stableOnes 0 := ⟨lw_in1 _ (List.mem_of_getElem? (i := 11) (by decide +kernel)), lw_in6 _ (List.mem_of_getElem? (i := 78) (by decide +kernel)), by decide +kernel, by decide⟩
theorem mv_X6_stableOnes : Cond.instanceMethod mX6_stableOnes.1 ∈ lw_tbl ∧ Cond.selects mX6_stableOnes.1.cls mX6_stableOnes.1 mX6_stableOnes.1 ∈ lw_tbl ∧ (slR 6).1 = 0 ∧ ∃ (T : u_T) (N : Nat), vwCl[6]? = some (mX6_stableOnes.1.cls, T, N) := ⟨lw_in6 _ (List.mem_of_getElem? (i := 76) (by decide +kernel)), lw_in6 _ (List.mem_of_getElem? (i := 77) (by decide +kernel)), rfl, _, _, rfl⟩
abbrev mX6_stableFrom : slMt := (yX6_stableFrom, cX6_stableFrom, 4, (some .int))
theorem ms_X6_stableFrom : slMs mX6_stableFrom 1 := ⟨lw_in1 _ (List.mem_of_getElem? (i := 11) (by decide +kernel)), lw_in6 _ (List.mem_of_getElem? (i := 82) (by decide +kernel)), by decide +kernel, by decide⟩
theorem mv_X6_stableFrom : Cond.instanceMethod mX6_stableFrom.1 ∈ lw_tbl ∧ Cond.selects mX6_stableFrom.1.cls mX6_stableFrom.1 mX6_stableFrom.1 ∈ lw_tbl ∧ (slR 6).1 = 0 ∧ ∃ (T : u_T) (N : Nat), vwCl[6]? = some (mX6_stableFrom.1.cls, T, N) := ⟨lw_in6 _ (List.mem_of_getElem? (i := 81) (by decide +kernel)), lw_in0 _ (List.mem_of_getElem? (i := 44) (by decide +kernel)), rfl, _, _, rfl⟩
abbrev mX6_stableWith : slMt := (yX6_stableWith, cX6_stableWith, 4, (some .int))
theorem ms_X6_stableWith : slMs mX6_stableWith 2 := ⟨lw_in1 _ (List.mem_of_getElem? (i := 11) (by decide +kernel)), lw_in6 _ (List.mem_of_getElem? (i := 106) (by decide +kernel)), by decide +kernel, by decide⟩
theorem mv_X6_stableWith : Cond.instanceMethod mX6_stableWith.1 ∈ lw_tbl ∧ Cond.selects mX6_stableWith.1.cls mX6_stableWith.1 mX6_stableWith.1 ∈ lw_tbl ∧ (slR 6).1 = 0 ∧ ∃ (T : u_T) (N : Nat), vwCl[6]? = some (mX6_stableWith.1.cls, T, N) := ⟨lw_in6 _ (List.mem_of_getElem? (i := 105) (by decide +kernel)), lw_in0 _ (List.mem_of_getElem? (i := 50) (by decide +kernel)), rfl, _, _, rfl⟩
abbrev mX6_isQuietBelow : slMt := (yX6_isQuietBelow, cX6_isQuietBelow, 3, (some .boolean))
theorem ms_X6_isQuietBelow : slMs mX6_isQuietBelow 1 := ⟨lw_in1 _ (List.mem_of_getElem? (i := 11) (by decide +kernel)), lw_in6 _ (List.mem_of_getElem? (i := 94) (by decide +kernel)), by decide +kernel, by decide⟩
theorem mv_X6_isQuietBelow : Cond.instanceMethod mX6_isQuietBelow.1 ∈ lw_tbl ∧ Cond.selects mX6_isQuietBelow.1.cls mX6_isQuietBelow.1 mX6_isQuietBelow.1 ∈ lw_tbl ∧ (slR 6).1 = 0 ∧ ∃ (T : u_T) (N : Nat), vwCl[6]? = some (mX6_isQuietBelow.1.cls, T, N) := ⟨lw_in6 _ (List.mem_of_getElem? (i := 93) (by decide +kernel)), lw_in0 _ (List.mem_of_getElem? (i := 47) (by decide +kernel)), rfl, _, _, rfl⟩
abbrev mX6_wantsShipOf : slMt := (yX6_wantsShipOf, cX6_wantsShipOf, 4, (some .boolean))
theorem ms_X6_wantsShipOf : slMs mX6_wantsShipOf 2 := ⟨lw_in1 _ (List.mem_of_getElem? (i := 11) (by decide +kernel)), lw_in6 _ (List.mem_of_getElem? (i := 98) (by decide +kernel)), by decide +kernel, by decide⟩
theorem mv_X6_wantsShipOf : Cond.instanceMethod mX6_wantsShipOf.1 ∈ lw_tbl ∧ Cond.selects mX6_wantsShipOf.1.cls mX6_wantsShipOf.1 mX6_wantsShipOf.1 ∈ lw_tbl ∧ (slR 6).1 = 0 ∧ ∃ (T : u_T) (N : Nat), vwCl[6]? = some (mX6_wantsShipOf.1.cls, T, N) := ⟨lw_in6 _ (List.mem_of_getElem? (i := 97) (by decide +kernel)), lw_in0 _ (List.mem_of_getElem? (i := 48) (by decide +kernel)), rfl, _, _, rfl⟩
abbrev mX6_isNoShipLeftLonging : slMt := (yX6_isNoShipLeftLonging, cX6_isNoShipLeftLonging, 3, (some .boolean))
theorem ms_X6_isNoShipLeftLonging : slMs mX6_isNoShipLeftLonging 0 := ⟨lw_in1 _ (List.mem_of_getElem? (i := 11) (by decide +kernel)), lw_in6 _ (List.mem_of_getElem? (i := 86) (by decide +kernel)), by decide +kernel, by decide⟩
theorem mv_X6_isNoShipLeftLonging : Cond.instanceMethod mX6_isNoShipLeftLonging.1 ∈ lw_tbl ∧ Cond.selects mX6_isNoShipLeftLonging.1.cls mX6_isNoShipLeftLonging.1 mX6_isNoShipLeftLonging.1 ∈ lw_tbl ∧ (slR 6).1 = 0 ∧ ∃ (T : u_T) (N : Nat), vwCl[6]? = some (mX6_isNoShipLeftLonging.1.cls, T, N) := ⟨lw_in6 _ (List.mem_of_getElem? (i := 85) (by decide +kernel)), lw_in0 _ (List.mem_of_getElem? (i := 45) (by decide +kernel)), rfl, _, _, rfl⟩
abbrev mX7_read : slMt := (yX7_read, cX7_read, 4, (some .int))
theorem ms_X7_read : slMs mX7_read 2 := ⟨lw_in1 _ (List.mem_of_getElem? (i := 7) (by decide +kernel)), lw_in4 _ (List.mem_of_getElem? (i := 31) (by decide +kernel)), by decide +kernel, by decide⟩
theorem mv_X7_read : Cond.instanceMethod mX7_read.1 ∈ lw_tbl ∧ Cond.selects mX7_read.1.cls mX7_read.1 mX7_read.1 ∈ lw_tbl ∧ (slR 7).1 = 0 ∧ ∃ (T : u_T) (N : Nat), vwCl[7]? = some (mX7_read.1.cls, T, N) := ⟨lw_in4 _ (List.mem_of_getElem? (i := 29) (by decide +kernel)), lw_in4 _ (List.mem_of_getElem? (i := 30) (by decide +kernel)), rfl, _, _, rfl⟩
abbrev mX7_refuse : slMt := (yX7_refuse, cX7_refuse, 2, (some .boolean))
theorem ms_X7_refuse : slMs mX7_refuse 1 := ⟨lw_in1 _ (List.mem_of_getElem? (i := 7) (by decide +kernel)), lw_in4 _ (List.mem_of_getElem? (i := 182) (by decide +kernel)), by decide +kernel, by decide⟩
theorem mv_X7_refuse : Cond.instanceMethod mX7_refuse.1 ∈ lw_tbl ∧ Cond.selects mX7_refuse.1.cls mX7_refuse.1 mX7_refuse.1 ∈ lw_tbl ∧ (slR 7).1 = 0 ∧ ∃ (T : u_T) (N : Nat), vwCl[7]? = some (mX7_refuse.1.cls, T, N) := ⟨lw_in4 _ (List.mem_of_getElem? (i := 181) (by decide +kernel)), lw_in0 _ (List.mem_of_getElem? (i := 13) (by decide +kernel)), rfl, _, _, rfl⟩
abbrev mX7_readLine : slMt := (yX7_readLine, cX7_readLine, 1, (some .boolean))
theorem ms_X7_readLine : slMs mX7_readLine 0 := ⟨lw_in1 _ (List.mem_of_getElem? (i := 7) (by decide +kernel)), lw_in4 _ (List.mem_of_getElem? (i := 190) (by decide +kernel)), by decide +kernel, by decide⟩
theorem mv_X7_readLine : Cond.instanceMethod mX7_readLine.1 ∈ lw_tbl ∧ Cond.selects mX7_readLine.1.cls mX7_readLine.1 mX7_readLine.1 ∈ lw_tbl ∧ (slR 7).1 = 0 ∧ ∃ (T : u_T) (N : Nat), vwCl[7]? = some (mX7_readLine.1.cls, T, N) := ⟨lw_in4 _ (List.mem_of_getElem? (i := 189) (by decide +kernel)), lw_in0 _ (List.mem_of_getElem? (i := 15) (by decide +kernel)), rfl, _, _, rfl⟩
abbrev mX7_readSea : slMt := (yX7_readSea, cX7_readSea, 3, (some .boolean))
theorem ms_X7_readSea : slMs mX7_readSea 0 := ⟨lw_in1 _ (List.mem_of_getElem? (i := 7) (by decide +kernel)), lw_in4 _ (List.mem_of_getElem? (i := 169) (by decide +kernel)), by decide +kernel, by decide⟩
theorem mv_X7_readSea : Cond.instanceMethod mX7_readSea.1 ∈ lw_tbl ∧ Cond.selects mX7_readSea.1.cls mX7_readSea.1 mX7_readSea.1 ∈ lw_tbl ∧ (slR 7).1 = 0 ∧ ∃ (T : u_T) (N : Nat), vwCl[7]? = some (mX7_readSea.1.cls, T, N) := ⟨lw_in4 _ (List.mem_of_getElem? (i := 168) (by decide +kernel)), lw_in0 _ (List.mem_of_getElem? (i := 10) (by decide +kernel)), rfl, _, _, rfl⟩
abbrev mX7_readCape : slMt := (yX7_readCape, cX7_readCape, 2, (some .boolean))
theorem ms_X7_readCape : slMs mX7_readCape 0 := ⟨lw_in1 _ (List.mem_of_getElem? (i := 7) (by decide +kernel)), lw_in4 _ (List.mem_of_getElem? (i := 195) (by decide +kernel)), by decide +kernel, by decide⟩
theorem mv_X7_readCape : Cond.instanceMethod mX7_readCape.1 ∈ lw_tbl ∧ Cond.selects mX7_readCape.1.cls mX7_readCape.1 mX7_readCape.1 ∈ lw_tbl ∧ (slR 7).1 = 0 ∧ ∃ (T : u_T) (N : Nat), vwCl[7]? = some (mX7_readCape.1.cls, T, N) := ⟨lw_in4 _ (List.mem_of_getElem? (i := 194) (by decide +kernel)), lw_in0 _ (List.mem_of_getElem? (i := 16) (by decide +kernel)), rfl, _, _, rfl⟩
abbrev mX7_readLight : slMt := (yX7_readLight, cX7_readLight, 2, (some .boolean))
theorem ms_X7_readLight : slMs mX7_readLight 0 := ⟨lw_in1 _ (List.mem_of_getElem? (i := 7) (by decide +kernel)), lw_in4 _ (List.mem_of_getElem? (i := 206) (by decide +kernel)), by decide +kernel, by decide⟩
theorem mv_X7_readLight : Cond.instanceMethod mX7_readLight.1 ∈ lw_tbl ∧ Cond.selects mX7_readLight.1.cls mX7_readLight.1 mX7_readLight.1 ∈ lw_tbl ∧ (slR 7).1 = 0 ∧ ∃ (T : u_T) (N : Nat), vwCl[7]? = some (mX7_readLight.1.cls, T, N) := ⟨lw_in4 _ (List.mem_of_getElem? (i := 205) (by decide +kernel)), lw_in0 _ (List.mem_of_getElem? (i := 18) (by decide +kernel)), rfl, _, _, rfl⟩
abbrev mX7_readShip : slMt := (yX7_readShip, cX7_readShip, 2, (some .boolean))
theorem ms_X7_readShip : slMs mX7_readShip 0 := ⟨lw_in1 _ (List.mem_of_getElem? (i := 7) (by decide +kernel)), lw_in4 _ (List.mem_of_getElem? (i := 234) (by decide +kernel)), by decide +kernel, by decide⟩
theorem mv_X7_readShip : Cond.instanceMethod mX7_readShip.1 ∈ lw_tbl ∧ Cond.selects mX7_readShip.1.cls mX7_readShip.1 mX7_readShip.1 ∈ lw_tbl ∧ (slR 7).1 = 0 ∧ ∃ (T : u_T) (N : Nat), vwCl[7]? = some (mX7_readShip.1.cls, T, N) := ⟨lw_in4 _ (List.mem_of_getElem? (i := 233) (by decide +kernel)), lw_in0 _ (List.mem_of_getElem? (i := 22) (by decide +kernel)), rfl, _, _, rfl⟩
abbrev mX7_readFog : slMt := (yX7_readFog, cX7_readFog, 3, (some .boolean))
theorem ms_X7_readFog : slMs mX7_readFog 0 := ⟨lw_in1 _ (List.mem_of_getElem? (i := 7) (by decide +kernel)), lw_in4 _ (List.mem_of_getElem? (i := 239) (by decide +kernel)), by decide +kernel, by decide⟩
theorem mv_X7_readFog : Cond.instanceMethod mX7_readFog.1 ∈ lw_tbl ∧ Cond.selects mX7_readFog.1.cls mX7_readFog.1 mX7_readFog.1 ∈ lw_tbl ∧ (slR 7).1 = 0 ∧ ∃ (T : u_T) (N : Nat), vwCl[7]? = some (mX7_readFog.1.cls, T, N) := ⟨lw_in4 _ (List.mem_of_getElem? (i := 238) (by decide +kernel)), lw_in0 _ (List.mem_of_getElem? (i := 23) (by decide +kernel)), rfl, _, _, rfl⟩
abbrev mX7_readLaw : slMt := (yX7_readLaw, cX7_readLaw, 1, (some .boolean))
theorem ms_X7_readLaw : slMs mX7_readLaw 0 := ⟨lw_in1 _ (List.mem_of_getElem? (i := 7) (by decide +kernel)), lw_in5 _ (List.mem_of_getElem? (i := 4) (by decide +kernel)), by decide +kernel, by decide⟩
theorem mv_X7_readLaw : Cond.instanceMethod mX7_readLaw.1 ∈ lw_tbl ∧ Cond.selects mX7_readLaw.1.cls mX7_readLaw.1 mX7_readLaw.1 ∈ lw_tbl ∧ (slR 7).1 = 0 ∧ ∃ (T : u_T) (N : Nat), vwCl[7]? = some (mX7_readLaw.1.cls, T, N) := ⟨lw_in5 _ (List.mem_of_getElem? (i := 3) (by decide +kernel)), lw_in0 _ (List.mem_of_getElem? (i := 24) (by decide +kernel)), rfl, _, _, rfl⟩
abbrev mX7_readSign : slMt := (yX7_readSign, cX7_readSign, 2, (some .boolean))
theorem ms_X7_readSign : slMs mX7_readSign 1 := ⟨lw_in1 _ (List.mem_of_getElem? (i := 7) (by decide +kernel)), lw_in4 _ (List.mem_of_getElem? (i := 186) (by decide +kernel)), by decide +kernel, by decide⟩
theorem mv_X7_readSign : Cond.instanceMethod mX7_readSign.1 ∈ lw_tbl ∧ Cond.selects mX7_readSign.1.cls mX7_readSign.1 mX7_readSign.1 ∈ lw_tbl ∧ (slR 7).1 = 0 ∧ ∃ (T : u_T) (N : Nat), vwCl[7]? = some (mX7_readSign.1.cls, T, N) := ⟨lw_in4 _ (List.mem_of_getElem? (i := 185) (by decide +kernel)), lw_in0 _ (List.mem_of_getElem? (i := 14) (by decide +kernel)), rfl, _, _, rfl⟩
abbrev mX7_numberHere : slMt := (yX7_numberHere, cX7_numberHere, 3, (some .int))
theorem ms_X7_numberHere : slMs mX7_numberHere 2 := ⟨lw_in1 _ (List.mem_of_getElem? (i := 7) (by decide +kernel)), lw_in4 _ (List.mem_of_getElem? (i := 178) (by decide +kernel)), by decide +kernel, by decide⟩
theorem mv_X7_numberHere : Cond.instanceMethod mX7_numberHere.1 ∈ lw_tbl ∧ Cond.selects mX7_numberHere.1.cls mX7_numberHere.1 mX7_numberHere.1 ∈ lw_tbl ∧ (slR 7).1 = 0 ∧ ∃ (T : u_T) (N : Nat), vwCl[7]? = some (mX7_numberHere.1.cls, T, N) := ⟨lw_in4 _ (List.mem_of_getElem? (i := 177) (by decide +kernel)), lw_in0 _ (List.mem_of_getElem? (i := 12) (by decide +kernel)), rfl, _, _, rfl⟩
abbrev mX7_readNumber : slMt := (yX7_readNumber, cX7_readNumber, 4, (some .int))
theorem ms_X7_readNumber : slMs mX7_readNumber 2 := ⟨lw_in1 _ (List.mem_of_getElem? (i := 7) (by decide +kernel)), lw_in4 _ (List.mem_of_getElem? (i := 174) (by decide +kernel)), by decide +kernel, by decide⟩
theorem mv_X7_readNumber : Cond.instanceMethod mX7_readNumber.1 ∈ lw_tbl ∧ Cond.selects mX7_readNumber.1.cls mX7_readNumber.1 mX7_readNumber.1 ∈ lw_tbl ∧ (slR 7).1 = 0 ∧ ∃ (T : u_T) (N : Nat), vwCl[7]? = some (mX7_readNumber.1.cls, T, N) := ⟨lw_in4 _ (List.mem_of_getElem? (i := 173) (by decide +kernel)), lw_in0 _ (List.mem_of_getElem? (i := 11) (by decide +kernel)), rfl, _, _, rfl⟩
abbrev mX7_readCell : slMt := (yX7_readCell, cX7_readCell, 6, (some .int))
theorem ms_X7_readCell : slMs mX7_readCell 2 := ⟨lw_in1 _ (List.mem_of_getElem? (i := 7) (by decide +kernel)), lw_in4 _ (List.mem_of_getElem? (i := 199) (by decide +kernel)), by decide +kernel, by decide⟩
theorem mv_X7_readCell : Cond.instanceMethod mX7_readCell.1 ∈ lw_tbl ∧ Cond.selects mX7_readCell.1.cls mX7_readCell.1 mX7_readCell.1 ∈ lw_tbl ∧ (slR 7).1 = 0 ∧ ∃ (T : u_T) (N : Nat), vwCl[7]? = some (mX7_readCell.1.cls, T, N) := ⟨lw_in4 _ (List.mem_of_getElem? (i := 198) (by decide +kernel)), lw_in0 _ (List.mem_of_getElem? (i := 17) (by decide +kernel)), rfl, _, _, rfl⟩
abbrev mX7_isWordOf : slMt := (yX7_isWordOf, cX7_isWordOf, 4, (some .boolean))
theorem ms_X7_isWordOf : slMs mX7_isWordOf 2 := ⟨lw_in1 _ (List.mem_of_getElem? (i := 7) (by decide +kernel)), lw_in4 _ (List.mem_of_getElem? (i := 215) (by decide +kernel)), by decide +kernel, by decide⟩
theorem mv_X7_isWordOf : Cond.instanceMethod mX7_isWordOf.1 ∈ lw_tbl ∧ Cond.selects mX7_isWordOf.1.cls mX7_isWordOf.1 mX7_isWordOf.1 ∈ lw_tbl ∧ (slR 7).1 = 0 ∧ ∃ (T : u_T) (N : Nat), vwCl[7]? = some (mX7_isWordOf.1.cls, T, N) := ⟨lw_in4 _ (List.mem_of_getElem? (i := 214) (by decide +kernel)), lw_in0 _ (List.mem_of_getElem? (i := 20) (by decide +kernel)), rfl, _, _, rfl⟩
abbrev mX7_readWay : slMt := (yX7_readWay, cX7_readWay, 3, (some .boolean))
theorem ms_X7_readWay : slMs mX7_readWay 1 := ⟨lw_in1 _ (List.mem_of_getElem? (i := 7) (by decide +kernel)), lw_in4 _ (List.mem_of_getElem? (i := 210) (by decide +kernel)), by decide +kernel, by decide⟩
theorem mv_X7_readWay : Cond.instanceMethod mX7_readWay.1 ∈ lw_tbl ∧ Cond.selects mX7_readWay.1.cls mX7_readWay.1 mX7_readWay.1 ∈ lw_tbl ∧ (slR 7).1 = 0 ∧ ∃ (T : u_T) (N : Nat), vwCl[7]? = some (mX7_readWay.1.cls, T, N) := ⟨lw_in4 _ (List.mem_of_getElem? (i := 209) (by decide +kernel)), lw_in0 _ (List.mem_of_getElem? (i := 19) (by decide +kernel)), rfl, _, _, rfl⟩
abbrev mX7_readFlashes : slMt := (yX7_readFlashes, cX7_readFlashes, 3, (some .boolean))
theorem ms_X7_readFlashes : slMs mX7_readFlashes 1 := ⟨lw_in1 _ (List.mem_of_getElem? (i := 7) (by decide +kernel)), lw_in4 _ (List.mem_of_getElem? (i := 228) (by decide +kernel)), by decide +kernel, by decide⟩
theorem mv_X7_readFlashes : Cond.instanceMethod mX7_readFlashes.1 ∈ lw_tbl ∧ Cond.selects mX7_readFlashes.1.cls mX7_readFlashes.1 mX7_readFlashes.1 ∈ lw_tbl ∧ (slR 7).1 = 0 ∧ ∃ (T : u_T) (N : Nat), vwCl[7]? = some (mX7_readFlashes.1.cls, T, N) := ⟨lw_in4 _ (List.mem_of_getElem? (i := 227) (by decide +kernel)), lw_in0 _ (List.mem_of_getElem? (i := 21) (by decide +kernel)), rfl, _, _, rfl⟩
abbrev mX7_canBeginExpr : slMt := (yX7_canBeginExpr, cX7_canBeginExpr, 1, (some .boolean))
theorem ms_X7_canBeginExpr : slMs mX7_canBeginExpr 0 := ⟨lw_in1 _ (List.mem_of_getElem? (i := 7) (by decide +kernel)), lw_in5 _ (List.mem_of_getElem? (i := 12) (by decide +kernel)), by decide +kernel, by decide⟩
theorem mv_X7_canBeginExpr : Cond.instanceMethod mX7_canBeginExpr.1 ∈ lw_tbl ∧ Cond.selects mX7_canBeginExpr.1.cls mX7_canBeginExpr.1 mX7_canBeginExpr.1 ∈ lw_tbl ∧ (slR 7).1 = 0 ∧ ∃ (T : u_T) (N : Nat), vwCl[7]? = some (mX7_canBeginExpr.1.cls, T, N) := ⟨lw_in5 _ (List.mem_of_getElem? (i := 11) (by decide +kernel)), lw_in0 _ (List.mem_of_getElem? (i := 26) (by decide +kernel)), rfl, _, _, rfl⟩
abbrev mX7_readExpr : slMt := (yX7_readExpr, cX7_readExpr, 3, (some .boolean))
theorem ms_X7_readExpr : slMs mX7_readExpr 1 := ⟨lw_in1 _ (List.mem_of_getElem? (i := 7) (by decide +kernel)), lw_in5 _ (List.mem_of_getElem? (i := 8) (by decide +kernel)), by decide +kernel, by decide⟩
theorem mv_X7_readExpr : Cond.instanceMethod mX7_readExpr.1 ∈ lw_tbl ∧ Cond.selects mX7_readExpr.1.cls mX7_readExpr.1 mX7_readExpr.1 ∈ lw_tbl ∧ (slR 7).1 = 0 ∧ ∃ (T : u_T) (N : Nat), vwCl[7]? = some (mX7_readExpr.1.cls, T, N) := ⟨lw_in5 _ (List.mem_of_getElem? (i := 7) (by decide +kernel)), lw_in0 _ (List.mem_of_getElem? (i := 25) (by decide +kernel)), rfl, _, _, rfl⟩
abbrev mX7_readAnd : slMt := (yX7_readAnd, cX7_readAnd, 3, (some .boolean))
theorem ms_X7_readAnd : slMs mX7_readAnd 1 := ⟨lw_in1 _ (List.mem_of_getElem? (i := 7) (by decide +kernel)), lw_in5 _ (List.mem_of_getElem? (i := 16) (by decide +kernel)), by decide +kernel, by decide⟩
theorem mv_X7_readAnd : Cond.instanceMethod mX7_readAnd.1 ∈ lw_tbl ∧ Cond.selects mX7_readAnd.1.cls mX7_readAnd.1 mX7_readAnd.1 ∈ lw_tbl ∧ (slR 7).1 = 0 ∧ ∃ (T : u_T) (N : Nat), vwCl[7]? = some (mX7_readAnd.1.cls, T, N) := ⟨lw_in5 _ (List.mem_of_getElem? (i := 15) (by decide +kernel)), lw_in0 _ (List.mem_of_getElem? (i := 27) (by decide +kernel)), rfl, _, _, rfl⟩
abbrev mX7_readNot : slMt := (yX7_readNot, cX7_readNot, 4, (some .boolean))
theorem ms_X7_readNot : slMs mX7_readNot 1 := ⟨lw_in1 _ (List.mem_of_getElem? (i := 7) (by decide +kernel)), lw_in5 _ (List.mem_of_getElem? (i := 20) (by decide +kernel)), by decide +kernel, by decide⟩
theorem mv_X7_readNot : Cond.instanceMethod mX7_readNot.1 ∈ lw_tbl ∧ Cond.selects mX7_readNot.1.cls mX7_readNot.1 mX7_readNot.1 ∈ lw_tbl ∧ (slR 7).1 = 0 ∧ ∃ (T : u_T) (N : Nat), vwCl[7]? = some (mX7_readNot.1.cls, T, N) := ⟨lw_in5 _ (List.mem_of_getElem? (i := 19) (by decide +kernel)), lw_in0 _ (List.mem_of_getElem? (i := 28) (by decide +kernel)), rfl, _, _, rfl⟩
abbrev mX7_readTest : slMt := (yX7_readTest, cX7_readTest, 3, (some .boolean))
theorem ms_X7_readTest : slMs mX7_readTest 1 := ⟨lw_in1 _ (List.mem_of_getElem? (i := 7) (by decide +kernel)), lw_in5 _ (List.mem_of_getElem? (i := 25) (by decide +kernel)), by decide +kernel, by decide⟩
theorem mv_X7_readTest : Cond.instanceMethod mX7_readTest.1 ∈ lw_tbl ∧ Cond.selects mX7_readTest.1.cls mX7_readTest.1 mX7_readTest.1 ∈ lw_tbl ∧ (slR 7).1 = 0 ∧ ∃ (T : u_T) (N : Nat), vwCl[7]? = some (mX7_readTest.1.cls, T, N) := ⟨lw_in5 _ (List.mem_of_getElem? (i := 24) (by decide +kernel)), lw_in0 _ (List.mem_of_getElem? (i := 29) (by decide +kernel)), rfl, _, _, rfl⟩
abbrev mX7_readSum : slMt := (yX7_readSum, cX7_readSum, 4, (some .boolean))
theorem ms_X7_readSum : slMs mX7_readSum 1 := ⟨lw_in1 _ (List.mem_of_getElem? (i := 7) (by decide +kernel)), lw_in5 _ (List.mem_of_getElem? (i := 29) (by decide +kernel)), by decide +kernel, by decide⟩
theorem mv_X7_readSum : Cond.instanceMethod mX7_readSum.1 ∈ lw_tbl ∧ Cond.selects mX7_readSum.1.cls mX7_readSum.1 mX7_readSum.1 ∈ lw_tbl ∧ (slR 7).1 = 0 ∧ ∃ (T : u_T) (N : Nat), vwCl[7]? = some (mX7_readSum.1.cls, T, N) := ⟨lw_in5 _ (List.mem_of_getElem? (i := 28) (by decide +kernel)), lw_in0 _ (List.mem_of_getElem? (i := 30) (by decide +kernel)), rfl, _, _, rfl⟩
abbrev mX7_readProduct : slMt := (yX7_readProduct, cX7_readProduct, 4, (some .boolean))
theorem ms_X7_readProduct : slMs mX7_readProduct 1 := ⟨lw_in1 _ (List.mem_of_getElem? (i := 7) (by decide +kernel)), lw_in5 _ (List.mem_of_getElem? (i := 33) (by decide +kernel)), by decide +kernel, by decide⟩
theorem mv_X7_readProduct : Cond.instanceMethod mX7_readProduct.1 ∈ lw_tbl ∧ Cond.selects mX7_readProduct.1.cls mX7_readProduct.1 mX7_readProduct.1 ∈ lw_tbl ∧ (slR 7).1 = 0 ∧ ∃ (T : u_T) (N : Nat), vwCl[7]? = some (mX7_readProduct.1.cls, T, N) := ⟨lw_in5 _ (List.mem_of_getElem? (i := 32) (by decide +kernel)), lw_in0 _ (List.mem_of_getElem? (i := 31) (by decide +kernel)), rfl, _, _, rfl⟩
abbrev mX7_readPart : slMt := (yX7_readPart, cX7_readPart, 3, (some .boolean))
theorem ms_X7_readPart : slMs mX7_readPart 1 := ⟨lw_in1 _ (List.mem_of_getElem? (i := 7) (by decide +kernel)), lw_in5 _ (List.mem_of_getElem? (i := 37) (by decide +kernel)), by decide +kernel, by decide⟩
theorem mv_X7_readPart : Cond.instanceMethod mX7_readPart.1 ∈ lw_tbl ∧ Cond.selects mX7_readPart.1.cls mX7_readPart.1 mX7_readPart.1 ∈ lw_tbl ∧ (slR 7).1 = 0 ∧ ∃ (T : u_T) (N : Nat), vwCl[7]? = some (mX7_readPart.1.cls, T, N) := ⟨lw_in5 _ (List.mem_of_getElem? (i := 36) (by decide +kernel)), lw_in0 _ (List.mem_of_getElem? (i := 32) (by decide +kernel)), rfl, _, _, rfl⟩
abbrev mX7_readValue : slMt := (yX7_readValue, cX7_readValue, 2, (some .boolean))
theorem ms_X7_readValue : slMs mX7_readValue 0 := ⟨lw_in1 _ (List.mem_of_getElem? (i := 7) (by decide +kernel)), lw_in5 _ (List.mem_of_getElem? (i := 41) (by decide +kernel)), by decide +kernel, by decide⟩
theorem mv_X7_readValue : Cond.instanceMethod mX7_readValue.1 ∈ lw_tbl ∧ Cond.selects mX7_readValue.1.cls mX7_readValue.1 mX7_readValue.1 ∈ lw_tbl ∧ (slR 7).1 = 0 ∧ ∃ (T : u_T) (N : Nat), vwCl[7]? = some (mX7_readValue.1.cls, T, N) := ⟨lw_in5 _ (List.mem_of_getElem? (i := 40) (by decide +kernel)), lw_in0 _ (List.mem_of_getElem? (i := 33) (by decide +kernel)), rfl, _, _, rfl⟩
abbrev mX7_valueHere : slMt := (yX7_valueHere, cX7_valueHere, 1, (some .int))
theorem ms_X7_valueHere : slMs mX7_valueHere 0 := ⟨lw_in1 _ (List.mem_of_getElem? (i := 7) (by decide +kernel)), lw_in5 _ (List.mem_of_getElem? (i := 45) (by decide +kernel)), by decide +kernel, by decide⟩
theorem mv_X7_valueHere : Cond.instanceMethod mX7_valueHere.1 ∈ lw_tbl ∧ Cond.selects mX7_valueHere.1.cls mX7_valueHere.1 mX7_valueHere.1 ∈ lw_tbl ∧ (slR 7).1 = 0 ∧ ∃ (T : u_T) (N : Nat), vwCl[7]? = some (mX7_valueHere.1.cls, T, N) := ⟨lw_in5 _ (List.mem_of_getElem? (i := 44) (by decide +kernel)), lw_in0 _ (List.mem_of_getElem? (i := 34) (by decide +kernel)), rfl, _, _, rfl⟩
abbrev mX8_take : slMt := (yX8_take, cX8_take, 2, none)
theorem ms_X8_take : slMs mX8_take 1 := ⟨lw_in1 _ (List.mem_of_getElem? (i := 4) (by decide +kernel)), lw_in3 _ (List.mem_of_getElem? (i := 178) (by decide +kernel)), by decide +kernel, by decide⟩
theorem mv_X8_take : Cond.instanceMethod mX8_take.1 ∈ lw_tbl ∧ Cond.selects mX8_take.1.cls mX8_take.1 mX8_take.1 ∈ lw_tbl ∧ (slR 8).1 = 0 ∧ ∃ (T : u_T) (N : Nat), vwCl[8]? = some (mX8_take.1.cls, T, N) := ⟨lw_in3 _ (List.mem_of_getElem? (i := 176) (by decide +kernel)), lw_in3 _ (List.mem_of_getElem? (i := 177) (by decide +kernel)), rfl, _, _, rfl⟩
abbrev mX8_undoLast : slMt := (yX8_undoLast, cX8_undoLast, 1, none)
theorem ms_X8_undoLast : slMs mX8_undoLast 0 := ⟨lw_in1 _ (List.mem_of_getElem? (i := 4) (by decide +kernel)), lw_in3 _ (List.mem_of_getElem? (i := 22) (by decide +kernel)), by decide +kernel, by decide⟩
theorem mv_X8_undoLast : Cond.instanceMethod mX8_undoLast.1 ∈ lw_tbl ∧ Cond.selects mX8_undoLast.1.cls mX8_undoLast.1 mX8_undoLast.1 ∈ lw_tbl ∧ (slR 8).1 = 0 ∧ ∃ (T : u_T) (N : Nat), vwCl[8]? = some (mX8_undoLast.1.cls, T, N) := ⟨lw_in3 _ (List.mem_of_getElem? (i := 20) (by decide +kernel)), lw_in3 _ (List.mem_of_getElem? (i := 21) (by decide +kernel)), rfl, _, _, rfl⟩
abbrev mX8_change : slMt := (yX8_change, cX8_change, 5, (some .int))
theorem ms_X8_change : slMs mX8_change 3 := ⟨lw_in1 _ (List.mem_of_getElem? (i := 4) (by decide +kernel)), lw_in3 _ (List.mem_of_getElem? (i := 7) (by decide +kernel)), by decide +kernel, by decide⟩
theorem mv_X8_change : Cond.instanceMethod mX8_change.1 ∈ lw_tbl ∧ Cond.selects mX8_change.1.cls mX8_change.1 mX8_change.1 ∈ lw_tbl ∧ (slR 8).1 = 0 ∧ ∃ (T : u_T) (N : Nat), vwCl[8]? = some (mX8_change.1.cls, T, N) := ⟨lw_in3 _ (List.mem_of_getElem? (i := 5) (by decide +kernel)), lw_in3 _ (List.mem_of_getElem? (i := 6) (by decide +kernel)), rfl, _, _, rfl⟩
abbrev mX9_begin : slMt := (yX9_begin, cX9_begin, 3, none)
theorem ms_X9_begin : slMs mX9_begin 2 := ⟨lw_in1 _ (List.mem_of_getElem? (i := 8) (by decide +kernel)), lw_in4 _ (List.mem_of_getElem? (i := 43) (by decide +kernel)), by decide +kernel, by decide⟩
theorem mv_X9_begin : Cond.instanceMethod mX9_begin.1 ∈ lw_tbl ∧ Cond.selects mX9_begin.1.cls mX9_begin.1 mX9_begin.1 ∈ lw_tbl ∧ (slR 9).1 = 0 ∧ ∃ (T : u_T) (N : Nat), vwCl[9]? = some (mX9_begin.1.cls, T, N) := ⟨lw_in4 _ (List.mem_of_getElem? (i := 41) (by decide +kernel)), lw_in4 _ (List.mem_of_getElem? (i := 42) (by decide +kernel)), rfl, _, _, rfl⟩
abbrev mX9_next : slMt := (yX9_next, cX9_next, 1, none)
theorem ms_X9_next : slMs mX9_next 0 := ⟨lw_in1 _ (List.mem_of_getElem? (i := 8) (by decide +kernel)), lw_in4 _ (List.mem_of_getElem? (i := 50) (by decide +kernel)), by decide +kernel, by decide⟩
theorem mv_X9_next : Cond.instanceMethod mX9_next.1 ∈ lw_tbl ∧ Cond.selects mX9_next.1.cls mX9_next.1 mX9_next.1 ∈ lw_tbl ∧ (slR 9).1 = 0 ∧ ∃ (T : u_T) (N : Nat), vwCl[9]? = some (mX9_next.1.cls, T, N) := ⟨lw_in4 _ (List.mem_of_getElem? (i := 48) (by decide +kernel)), lw_in4 _ (List.mem_of_getElem? (i := 49) (by decide +kernel)), rfl, _, _, rfl⟩
abbrev mX9_isLetter : slMt := (yX9_isLetter, cX9_isLetter, 1, (some .boolean))
theorem ms_X9_isLetter : slMs mX9_isLetter 1 := ⟨lw_in1 _ (List.mem_of_getElem? (i := 8) (by decide +kernel)), lw_in4 _ (List.mem_of_getElem? (i := 53) (by decide +kernel)), by decide +kernel, by decide⟩
theorem mt_X9_isLetter : Cond.static mX9_isLetter.1 ∈ lw_tbl := lw_in4 _ (List.mem_of_getElem? (i := 52) (by decide +kernel))
abbrev mX9_isDigit : slMt := (yX9_isDigit, cX9_isDigit, 1, (some .boolean))
theorem ms_X9_isDigit : slMs mX9_isDigit 1 := ⟨lw_in1 _ (List.mem_of_getElem? (i := 8) (by decide +kernel)), lw_in4 _ (List.mem_of_getElem? (i := 56) (by decide +kernel)), by decide +kernel, by decide⟩
theorem mt_X9_isDigit : Cond.static mX9_isDigit.1 ∈ lw_tbl := lw_in4 _ (List.mem_of_getElem? (i := 55) (by decide +kernel))
abbrev mX9_letters : slMt := (yX9_letters, cX9_letters, 1, (some .int))
theorem ms_X9_letters : slMs mX9_letters 0 := ⟨lw_in1 _ (List.mem_of_getElem? (i := 8) (by decide +kernel)), lw_in4 _ (List.mem_of_getElem? (i := 219) (by decide +kernel)), by decide +kernel, by decide⟩
theorem mv_X9_letters : Cond.instanceMethod mX9_letters.1 ∈ lw_tbl ∧ Cond.selects mX9_letters.1.cls mX9_letters.1 mX9_letters.1 ∈ lw_tbl ∧ (slR 9).1 = 0 ∧ ∃ (T : u_T) (N : Nat), vwCl[9]? = some (mX9_letters.1.cls, T, N) := ⟨lw_in4 _ (List.mem_of_getElem? (i := 217) (by decide +kernel)), lw_in4 _ (List.mem_of_getElem? (i := 218) (by decide +kernel)), rfl, _, _, rfl⟩
abbrev mX9_letterAt : slMt := (yX9_letterAt, cX9_letterAt, 2, (some .char))
theorem ms_X9_letterAt : slMs mX9_letterAt 1 := ⟨lw_in1 _ (List.mem_of_getElem? (i := 8) (by decide +kernel)), lw_in4 _ (List.mem_of_getElem? (i := 223) (by decide +kernel)), by decide +kernel, by decide⟩
theorem mv_X9_letterAt : Cond.instanceMethod mX9_letterAt.1 ∈ lw_tbl ∧ Cond.selects mX9_letterAt.1.cls mX9_letterAt.1 mX9_letterAt.1 ∈ lw_tbl ∧ (slR 9).1 = 0 ∧ ∃ (T : u_T) (N : Nat), vwCl[9]? = some (mX9_letterAt.1.cls, T, N) := ⟨lw_in4 _ (List.mem_of_getElem? (i := 221) (by decide +kernel)), lw_in4 _ (List.mem_of_getElem? (i := 222) (by decide +kernel)), rfl, _, _, rfl⟩
abbrev mX9_isWord : slMt := (yX9_isWord, cX9_isWord, 3, (some .boolean))
theorem ms_X9_isWord : slMs mX9_isWord 1 := ⟨lw_in1 _ (List.mem_of_getElem? (i := 8) (by decide +kernel)), lw_in4 _ (List.mem_of_getElem? (i := 144) (by decide +kernel)), by decide +kernel, by decide⟩
theorem mv_X9_isWord : Cond.instanceMethod mX9_isWord.1 ∈ lw_tbl ∧ Cond.selects mX9_isWord.1.cls mX9_isWord.1 mX9_isWord.1 ∈ lw_tbl ∧ (slR 9).1 = 0 ∧ ∃ (T : u_T) (N : Nat), vwCl[9]? = some (mX9_isWord.1.cls, T, N) := ⟨lw_in4 _ (List.mem_of_getElem? (i := 142) (by decide +kernel)), lw_in4 _ (List.mem_of_getElem? (i := 143) (by decide +kernel)), rfl, _, _, rfl⟩
abbrev mX10_plan : slMt := (yX10_plan, cX10_plan, 5, none)
theorem ms_X10_plan : slMs mX10_plan 3 := ⟨lw_in1 _ (List.mem_of_getElem? (i := 9) (by decide +kernel)), lw_in3 _ (List.mem_of_getElem? (i := 67) (by decide +kernel)), by decide +kernel, by decide⟩
theorem mv_X10_plan : Cond.instanceMethod mX10_plan.1 ∈ lw_tbl ∧ Cond.selects mX10_plan.1.cls mX10_plan.1 mX10_plan.1 ∈ lw_tbl ∧ (slR 10).1 = 0 ∧ ∃ (T : u_T) (N : Nat), vwCl[10]? = some (mX10_plan.1.cls, T, N) := ⟨lw_in3 _ (List.mem_of_getElem? (i := 65) (by decide +kernel)), lw_in3 _ (List.mem_of_getElem? (i := 66) (by decide +kernel)), rfl, _, _, rfl⟩
abbrev mX10_weigh : slMt := (yX10_weigh, cX10_weigh, 7, none)
theorem ms_X10_weigh : slMs mX10_weigh 4 := ⟨lw_in1 _ (List.mem_of_getElem? (i := 9) (by decide +kernel)), lw_in3 _ (List.mem_of_getElem? (i := 71) (by decide +kernel)), by decide +kernel, by decide⟩
theorem mv_X10_weigh : Cond.instanceMethod mX10_weigh.1 ∈ lw_tbl ∧ Cond.selects mX10_weigh.1.cls mX10_weigh.1 mX10_weigh.1 ∈ lw_tbl ∧ (slR 10).1 = 0 ∧ ∃ (T : u_T) (N : Nat), vwCl[10]? = some (mX10_weigh.1.cls, T, N) := ⟨lw_in3 _ (List.mem_of_getElem? (i := 69) (by decide +kernel)), lw_in3 _ (List.mem_of_getElem? (i := 70) (by decide +kernel)), rfl, _, _, rfl⟩
abbrev mX10_arrange : slMt := (yX10_arrange, cX10_arrange, 6, none)
theorem ms_X10_arrange : slMs mX10_arrange 1 := ⟨lw_in1 _ (List.mem_of_getElem? (i := 9) (by decide +kernel)), lw_in3 _ (List.mem_of_getElem? (i := 93) (by decide +kernel)), by decide +kernel, by decide⟩
theorem mv_X10_arrange : Cond.instanceMethod mX10_arrange.1 ∈ lw_tbl ∧ Cond.selects mX10_arrange.1.cls mX10_arrange.1 mX10_arrange.1 ∈ lw_tbl ∧ (slR 10).1 = 0 ∧ ∃ (T : u_T) (N : Nat), vwCl[10]? = some (mX10_arrange.1.cls, T, N) := ⟨lw_in3 _ (List.mem_of_getElem? (i := 91) (by decide +kernel)), lw_in3 _ (List.mem_of_getElem? (i := 92) (by decide +kernel)), rfl, _, _, rfl⟩
abbrev mX11_feed : slMt := (yX11_feed, cX11_feed, 6, (some .int))
theorem ms_X11_feed : slMs mX11_feed 5 := ⟨lw_in1 _ (List.mem_of_getElem? (i := 1) (by decide +kernel)), lw_in2 _ (List.mem_of_getElem? (i := 219) (by decide +kernel)), by decide +kernel, by decide⟩
theorem mv_X11_feed : Cond.instanceMethod mX11_feed.1 ∈ lw_tbl ∧ Cond.selects mX11_feed.1.cls mX11_feed.1 mX11_feed.1 ∈ lw_tbl ∧ (slR 11).1 = 0 ∧ ∃ (T : u_T) (N : Nat), vwCl[11]? = some (mX11_feed.1.cls, T, N) := ⟨lw_in2 _ (List.mem_of_getElem? (i := 217) (by decide +kernel)), lw_in2 _ (List.mem_of_getElem? (i := 218) (by decide +kernel)), rfl, _, _, rfl⟩
abbrev mX11_coast : slMt := (yX11_coast, cX11_coast, 3, (some .int))
theorem ms_X11_coast : slMs mX11_coast 1 := ⟨lw_in1 _ (List.mem_of_getElem? (i := 1) (by decide +kernel)), lw_in3 _ (List.mem_of_getElem? (i := 200) (by decide +kernel)), by decide +kernel, by decide⟩
theorem mv_X11_coast : Cond.instanceMethod mX11_coast.1 ∈ lw_tbl ∧ Cond.selects mX11_coast.1.cls mX11_coast.1 mX11_coast.1 ∈ lw_tbl ∧ (slR 11).1 = 0 ∧ ∃ (T : u_T) (N : Nat), vwCl[11]? = some (mX11_coast.1.cls, T, N) := ⟨lw_in3 _ (List.mem_of_getElem? (i := 198) (by decide +kernel)), lw_in3 _ (List.mem_of_getElem? (i := 199) (by decide +kernel)), rfl, _, _, rfl⟩
abbrev mX11_fault : slMt := (yX11_fault, cX11_fault, 1, (some .int))
theorem ms_X11_fault : slMs mX11_fault 0 := ⟨lw_in1 _ (List.mem_of_getElem? (i := 1) (by decide +kernel)), lw_in2 _ (List.mem_of_getElem? (i := 227) (by decide +kernel)), by decide +kernel, by decide⟩
theorem mv_X11_fault : Cond.instanceMethod mX11_fault.1 ∈ lw_tbl ∧ Cond.selects mX11_fault.1.cls mX11_fault.1 mX11_fault.1 ∈ lw_tbl ∧ (slR 11).1 = 0 ∧ ∃ (T : u_T) (N : Nat), vwCl[11]? = some (mX11_fault.1.cls, T, N) := ⟨lw_in2 _ (List.mem_of_getElem? (i := 225) (by decide +kernel)), lw_in2 _ (List.mem_of_getElem? (i := 226) (by decide +kernel)), rfl, _, _, rfl⟩
abbrev mX11_count : slMt := (yX11_count, cX11_count, 2, (some .int))
theorem ms_X11_count : slMs mX11_count 1 := ⟨lw_in1 _ (List.mem_of_getElem? (i := 1) (by decide +kernel)), lw_in5 _ (List.mem_of_getElem? (i := 72) (by decide +kernel)), by decide +kernel, by decide⟩
theorem mv_X11_count : Cond.instanceMethod mX11_count.1 ∈ lw_tbl ∧ Cond.selects mX11_count.1.cls mX11_count.1 mX11_count.1 ∈ lw_tbl ∧ (slR 11).1 = 0 ∧ ∃ (T : u_T) (N : Nat), vwCl[11]? = some (mX11_count.1.cls, T, N) := ⟨lw_in5 _ (List.mem_of_getElem? (i := 70) (by decide +kernel)), lw_in5 _ (List.mem_of_getElem? (i := 71) (by decide +kernel)), rfl, _, _, rfl⟩
abbrev mX11_light : slMt := (yX11_light, cX11_light, 3, (some .int))
theorem ms_X11_light : slMs mX11_light 2 := ⟨lw_in1 _ (List.mem_of_getElem? (i := 1) (by decide +kernel)), lw_in5 _ (List.mem_of_getElem? (i := 95) (by decide +kernel)), by decide +kernel, by decide⟩
theorem mv_X11_light : Cond.instanceMethod mX11_light.1 ∈ lw_tbl ∧ Cond.selects mX11_light.1.cls mX11_light.1 mX11_light.1 ∈ lw_tbl ∧ (slR 11).1 = 0 ∧ ∃ (T : u_T) (N : Nat), vwCl[11]? = some (mX11_light.1.cls, T, N) := ⟨lw_in5 _ (List.mem_of_getElem? (i := 93) (by decide +kernel)), lw_in5 _ (List.mem_of_getElem? (i := 94) (by decide +kernel)), rfl, _, _, rfl⟩
abbrev mX11_ship : slMt := (yX11_ship, cX11_ship, 3, (some .int))
theorem ms_X11_ship : slMs mX11_ship 2 := ⟨lw_in1 _ (List.mem_of_getElem? (i := 1) (by decide +kernel)), lw_in5 _ (List.mem_of_getElem? (i := 107) (by decide +kernel)), by decide +kernel, by decide⟩
theorem mv_X11_ship : Cond.instanceMethod mX11_ship.1 ∈ lw_tbl ∧ Cond.selects mX11_ship.1.cls mX11_ship.1 mX11_ship.1 ∈ lw_tbl ∧ (slR 11).1 = 0 ∧ ∃ (T : u_T) (N : Nat), vwCl[11]? = some (mX11_ship.1.cls, T, N) := ⟨lw_in5 _ (List.mem_of_getElem? (i := 105) (by decide +kernel)), lw_in5 _ (List.mem_of_getElem? (i := 106) (by decide +kernel)), rfl, _, _, rfl⟩
abbrev mX11_where : slMt := (yX11_where, cX11_where, 3, (some .int))
theorem ms_X11_where : slMs mX11_where 2 := ⟨lw_in1 _ (List.mem_of_getElem? (i := 1) (by decide +kernel)), lw_in5 _ (List.mem_of_getElem? (i := 135) (by decide +kernel)), by decide +kernel, by decide⟩
theorem mv_X11_where : Cond.instanceMethod mX11_where.1 ∈ lw_tbl ∧ Cond.selects mX11_where.1.cls mX11_where.1 mX11_where.1 ∈ lw_tbl ∧ (slR 11).1 = 0 ∧ ∃ (T : u_T) (N : Nat), vwCl[11]? = some (mX11_where.1.cls, T, N) := ⟨lw_in5 _ (List.mem_of_getElem? (i := 133) (by decide +kernel)), lw_in5 _ (List.mem_of_getElem? (i := 134) (by decide +kernel)), rfl, _, _, rfl⟩
abbrev mX11_lamp : slMt := (yX11_lamp, cX11_lamp, 4, (some .int))
theorem ms_X11_lamp : slMs mX11_lamp 3 := ⟨lw_in1 _ (List.mem_of_getElem? (i := 1) (by decide +kernel)), lw_in5 _ (List.mem_of_getElem? (i := 150) (by decide +kernel)), by decide +kernel, by decide⟩
theorem mv_X11_lamp : Cond.instanceMethod mX11_lamp.1 ∈ lw_tbl ∧ Cond.selects mX11_lamp.1.cls mX11_lamp.1 mX11_lamp.1 ∈ lw_tbl ∧ (slR 11).1 = 0 ∧ ∃ (T : u_T) (N : Nat), vwCl[11]? = some (mX11_lamp.1.cls, T, N) := ⟨lw_in5 _ (List.mem_of_getElem? (i := 148) (by decide +kernel)), lw_in5 _ (List.mem_of_getElem? (i := 149) (by decide +kernel)), rfl, _, _, rfl⟩
abbrev mX11_seen : slMt := (yX11_seen, cX11_seen, 3, (some .int))
theorem ms_X11_seen : slMs mX11_seen 2 := ⟨lw_in1 _ (List.mem_of_getElem? (i := 1) (by decide +kernel)), lw_in5 _ (List.mem_of_getElem? (i := 158) (by decide +kernel)), by decide +kernel, by decide⟩
theorem mv_X11_seen : Cond.instanceMethod mX11_seen.1 ∈ lw_tbl ∧ Cond.selects mX11_seen.1.cls mX11_seen.1 mX11_seen.1 ∈ lw_tbl ∧ (slR 11).1 = 0 ∧ ∃ (T : u_T) (N : Nat), vwCl[11]? = some (mX11_seen.1.cls, T, N) := ⟨lw_in5 _ (List.mem_of_getElem? (i := 156) (by decide +kernel)), lw_in5 _ (List.mem_of_getElem? (i := 157) (by decide +kernel)), rfl, _, _, rfl⟩
abbrev mX11_watch : slMt := (yX11_watch, cX11_watch, 3, (some .int))
theorem ms_X11_watch : slMs mX11_watch 2 := ⟨lw_in1 _ (List.mem_of_getElem? (i := 1) (by decide +kernel)), lw_in5 _ (List.mem_of_getElem? (i := 166) (by decide +kernel)), by decide +kernel, by decide⟩
theorem mv_X11_watch : Cond.instanceMethod mX11_watch.1 ∈ lw_tbl ∧ Cond.selects mX11_watch.1.cls mX11_watch.1 mX11_watch.1 ∈ lw_tbl ∧ (slR 11).1 = 0 ∧ ∃ (T : u_T) (N : Nat), vwCl[11]? = some (mX11_watch.1.cls, T, N) := ⟨lw_in5 _ (List.mem_of_getElem? (i := 164) (by decide +kernel)), lw_in5 _ (List.mem_of_getElem? (i := 165) (by decide +kernel)), rfl, _, _, rfl⟩
abbrev mX11_content : slMt := (yX11_content, cX11_content, 2, (some .int))
theorem ms_X11_content : slMs mX11_content 1 := ⟨lw_in1 _ (List.mem_of_getElem? (i := 1) (by decide +kernel)), lw_in5 _ (List.mem_of_getElem? (i := 178) (by decide +kernel)), by decide +kernel, by decide⟩
theorem mv_X11_content : Cond.instanceMethod mX11_content.1 ∈ lw_tbl ∧ Cond.selects mX11_content.1.cls mX11_content.1 mX11_content.1 ∈ lw_tbl ∧ (slR 11).1 = 0 ∧ ∃ (T : u_T) (N : Nat), vwCl[11]? = some (mX11_content.1.cls, T, N) := ⟨lw_in5 _ (List.mem_of_getElem? (i := 176) (by decide +kernel)), lw_in5 _ (List.mem_of_getElem? (i := 177) (by decide +kernel)), rfl, _, _, rfl⟩
abbrev mX11_met : slMt := (yX11_met, cX11_met, 4, (some .int))
theorem ms_X11_met : slMs mX11_met 2 := ⟨lw_in1 _ (List.mem_of_getElem? (i := 1) (by decide +kernel)), lw_in5 _ (List.mem_of_getElem? (i := 189) (by decide +kernel)), by decide +kernel, by decide⟩
theorem mv_X11_met : Cond.instanceMethod mX11_met.1 ∈ lw_tbl ∧ Cond.selects mX11_met.1.cls mX11_met.1 mX11_met.1 ∈ lw_tbl ∧ (slR 11).1 = 0 ∧ ∃ (T : u_T) (N : Nat), vwCl[11]? = some (mX11_met.1.cls, T, N) := ⟨lw_in5 _ (List.mem_of_getElem? (i := 187) (by decide +kernel)), lw_in5 _ (List.mem_of_getElem? (i := 188) (by decide +kernel)), rfl, _, _, rfl⟩
abbrev mX11_fill : slMt := (yX11_fill, cX11_fill, 3, (some .int))
theorem ms_X11_fill : slMs mX11_fill 2 := ⟨lw_in1 _ (List.mem_of_getElem? (i := 1) (by decide +kernel)), lw_in5 _ (List.mem_of_getElem? (i := 204) (by decide +kernel)), by decide +kernel, by decide⟩
theorem mv_X11_fill : Cond.instanceMethod mX11_fill.1 ∈ lw_tbl ∧ Cond.selects mX11_fill.1.cls mX11_fill.1 mX11_fill.1 ∈ lw_tbl ∧ (slR 11).1 = 0 ∧ ∃ (T : u_T) (N : Nat), vwCl[11]? = some (mX11_fill.1.cls, T, N) := ⟨lw_in5 _ (List.mem_of_getElem? (i := 202) (by decide +kernel)), lw_in5 _ (List.mem_of_getElem? (i := 203) (by decide +kernel)), rfl, _, _, rfl⟩
abbrev mX11_moor : slMt := (yX11_moor, cX11_moor, 3, (some .int))
theorem ms_X11_moor : slMs mX11_moor 2 := ⟨lw_in1 _ (List.mem_of_getElem? (i := 1) (by decide +kernel)), lw_in5 _ (List.mem_of_getElem? (i := 211) (by decide +kernel)), by decide +kernel, by decide⟩
theorem mv_X11_moor : Cond.instanceMethod mX11_moor.1 ∈ lw_tbl ∧ Cond.selects mX11_moor.1.cls mX11_moor.1 mX11_moor.1 ∈ lw_tbl ∧ (slR 11).1 = 0 ∧ ∃ (T : u_T) (N : Nat), vwCl[11]? = some (mX11_moor.1.cls, T, N) := ⟨lw_in5 _ (List.mem_of_getElem? (i := 209) (by decide +kernel)), lw_in5 _ (List.mem_of_getElem? (i := 210) (by decide +kernel)), rfl, _, _, rfl⟩
abbrev mX11_push : slMt := (yX11_push, cX11_push, 3, (some .int))
theorem ms_X11_push : slMs mX11_push 2 := ⟨lw_in1 _ (List.mem_of_getElem? (i := 1) (by decide +kernel)), lw_in5 _ (List.mem_of_getElem? (i := 223) (by decide +kernel)), by decide +kernel, by decide⟩
theorem mv_X11_push : Cond.instanceMethod mX11_push.1 ∈ lw_tbl ∧ Cond.selects mX11_push.1.cls mX11_push.1 mX11_push.1 ∈ lw_tbl ∧ (slR 11).1 = 0 ∧ ∃ (T : u_T) (N : Nat), vwCl[11]? = some (mX11_push.1.cls, T, N) := ⟨lw_in5 _ (List.mem_of_getElem? (i := 221) (by decide +kernel)), lw_in5 _ (List.mem_of_getElem? (i := 222) (by decide +kernel)), rfl, _, _, rfl⟩
abbrev mX11_obey : slMt := (yX11_obey, cX11_obey, 2, (some .boolean))
theorem ms_X11_obey : slMs mX11_obey 1 := ⟨lw_in1 _ (List.mem_of_getElem? (i := 1) (by decide +kernel)), lw_in2 _ (List.mem_of_getElem? (i := 231) (by decide +kernel)), by decide +kernel, by decide⟩
theorem mv_X11_obey : Cond.instanceMethod mX11_obey.1 ∈ lw_tbl ∧ Cond.selects mX11_obey.1.cls mX11_obey.1 mX11_obey.1 ∈ lw_tbl ∧ (slR 11).1 = 0 ∧ ∃ (T : u_T) (N : Nat), vwCl[11]? = some (mX11_obey.1.cls, T, N) := ⟨lw_in2 _ (List.mem_of_getElem? (i := 229) (by decide +kernel)), lw_in2 _ (List.mem_of_getElem? (i := 230) (by decide +kernel)), rfl, _, _, rfl⟩
abbrev mX11_want : slMt := (yX11_want, cX11_want, 3, (some .int))
theorem ms_X11_want : slMs mX11_want 2 := ⟨lw_in1 _ (List.mem_of_getElem? (i := 1) (by decide +kernel)), lw_in5 _ (List.mem_of_getElem? (i := 234) (by decide +kernel)), by decide +kernel, by decide⟩
theorem mv_X11_want : Cond.instanceMethod mX11_want.1 ∈ lw_tbl ∧ Cond.selects mX11_want.1.cls mX11_want.1 mX11_want.1 ∈ lw_tbl ∧ (slR 11).1 = 0 ∧ ∃ (T : u_T) (N : Nat), vwCl[11]? = some (mX11_want.1.cls, T, N) := ⟨lw_in5 _ (List.mem_of_getElem? (i := 232) (by decide +kernel)), lw_in5 _ (List.mem_of_getElem? (i := 233) (by decide +kernel)), rfl, _, _, rfl⟩
abbrev mX11_undo : slMt := (yX11_undo, cX11_undo, 1, (some .int))
theorem ms_X11_undo : slMs mX11_undo 0 := ⟨lw_in1 _ (List.mem_of_getElem? (i := 1) (by decide +kernel)), lw_in3 _ (List.mem_of_getElem? (i := 18) (by decide +kernel)), by decide +kernel, by decide⟩
theorem mv_X11_undo : Cond.instanceMethod mX11_undo.1 ∈ lw_tbl ∧ Cond.selects mX11_undo.1.cls mX11_undo.1 mX11_undo.1 ∈ lw_tbl ∧ (slR 11).1 = 0 ∧ ∃ (T : u_T) (N : Nat), vwCl[11]? = some (mX11_undo.1.cls, T, N) := ⟨lw_in3 _ (List.mem_of_getElem? (i := 16) (by decide +kernel)), lw_in3 _ (List.mem_of_getElem? (i := 17) (by decide +kernel)), rfl, _, _, rfl⟩
abbrev mX11_lamps : slMt := (yX11_lamps, cX11_lamps, 6, (some .int))
theorem ms_X11_lamps : slMs mX11_lamps 1 := ⟨lw_in1 _ (List.mem_of_getElem? (i := 1) (by decide +kernel)), lw_in6 _ (List.mem_of_getElem? (i := 1) (by decide +kernel)), by decide +kernel, by decide⟩
theorem mv_X11_lamps : Cond.instanceMethod mX11_lamps.1 ∈ lw_tbl ∧ Cond.selects mX11_lamps.1.cls mX11_lamps.1 mX11_lamps.1 ∈ lw_tbl ∧ (slR 11).1 = 0 ∧ ∃ (T : u_T) (N : Nat), vwCl[11]? = some (mX11_lamps.1.cls, T, N) := ⟨lw_in5 _ (List.mem_of_getElem? (i := 239) (by decide +kernel)), lw_in6 _ (List.mem_of_getElem? (i := 0) (by decide +kernel)), rfl, _, _, rfl⟩
abbrev mX11_signs : slMt := (yX11_signs, cX11_signs, 3, (some .int))
theorem ms_X11_signs : slMs mX11_signs 2 := ⟨lw_in1 _ (List.mem_of_getElem? (i := 1) (by decide +kernel)), lw_in6 _ (List.mem_of_getElem? (i := 14) (by decide +kernel)), by decide +kernel, by decide⟩
theorem mv_X11_signs : Cond.instanceMethod mX11_signs.1 ∈ lw_tbl ∧ Cond.selects mX11_signs.1.cls mX11_signs.1 mX11_signs.1 ∈ lw_tbl ∧ (slR 11).1 = 0 ∧ ∃ (T : u_T) (N : Nat), vwCl[11]? = some (mX11_signs.1.cls, T, N) := ⟨lw_in6 _ (List.mem_of_getElem? (i := 12) (by decide +kernel)), lw_in6 _ (List.mem_of_getElem? (i := 13) (by decide +kernel)), rfl, _, _, rfl⟩
abbrev mX11_who : slMt := (yX11_who, cX11_who, 6, (some .int))
theorem ms_X11_who : slMs mX11_who 2 := ⟨lw_in1 _ (List.mem_of_getElem? (i := 1) (by decide +kernel)), lw_in6 _ (List.mem_of_getElem? (i := 43) (by decide +kernel)), by decide +kernel, by decide⟩
theorem mv_X11_who : Cond.instanceMethod mX11_who.1 ∈ lw_tbl ∧ Cond.selects mX11_who.1.cls mX11_who.1 mX11_who.1 ∈ lw_tbl ∧ (slR 11).1 = 0 ∧ ∃ (T : u_T) (N : Nat), vwCl[11]? = some (mX11_who.1.cls, T, N) := ⟨lw_in6 _ (List.mem_of_getElem? (i := 41) (by decide +kernel)), lw_in6 _ (List.mem_of_getElem? (i := 42) (by decide +kernel)), rfl, _, _, rfl⟩
abbrev mX11_visits : slMt := (yX11_visits, cX11_visits, 2, (some .int))
theorem ms_X11_visits : slMs mX11_visits 1 := ⟨lw_in1 _ (List.mem_of_getElem? (i := 1) (by decide +kernel)), lw_in6 _ (List.mem_of_getElem? (i := 60) (by decide +kernel)), by decide +kernel, by decide⟩
theorem mv_X11_visits : Cond.instanceMethod mX11_visits.1 ∈ lw_tbl ∧ Cond.selects mX11_visits.1.cls mX11_visits.1 mX11_visits.1 ∈ lw_tbl ∧ (slR 11).1 = 0 ∧ ∃ (T : u_T) (N : Nat), vwCl[11]? = some (mX11_visits.1.cls, T, N) := ⟨lw_in6 _ (List.mem_of_getElem? (i := 58) (by decide +kernel)), lw_in6 _ (List.mem_of_getElem? (i := 59) (by decide +kernel)), rfl, _, _, rfl⟩
abbrev mX11_visit : slMt := (yX11_visit, cX11_visit, 3, (some .int))
theorem ms_X11_visit : slMs mX11_visit 2 := ⟨lw_in1 _ (List.mem_of_getElem? (i := 1) (by decide +kernel)), lw_in6 _ (List.mem_of_getElem? (i := 113) (by decide +kernel)), by decide +kernel, by decide⟩
theorem mv_X11_visit : Cond.instanceMethod mX11_visit.1 ∈ lw_tbl ∧ Cond.selects mX11_visit.1.cls mX11_visit.1 mX11_visit.1 ∈ lw_tbl ∧ (slR 11).1 = 0 ∧ ∃ (T : u_T) (N : Nat), vwCl[11]? = some (mX11_visit.1.cls, T, N) := ⟨lw_in6 _ (List.mem_of_getElem? (i := 111) (by decide +kernel)), lw_in6 _ (List.mem_of_getElem? (i := 112) (by decide +kernel)), rfl, _, _, rfl⟩
abbrev mX11_compared : slMt := (yX11_compared, cX11_compared, 2, (some .int))
theorem ms_X11_compared : slMs mX11_compared 1 := ⟨lw_in1 _ (List.mem_of_getElem? (i := 1) (by decide +kernel)), lw_in6 _ (List.mem_of_getElem? (i := 128) (by decide +kernel)), by decide +kernel, by decide⟩
theorem mv_X11_compared : Cond.instanceMethod mX11_compared.1 ∈ lw_tbl ∧ Cond.selects mX11_compared.1.cls mX11_compared.1 mX11_compared.1 ∈ lw_tbl ∧ (slR 11).1 = 0 ∧ ∃ (T : u_T) (N : Nat), vwCl[11]? = some (mX11_compared.1.cls, T, N) := ⟨lw_in6 _ (List.mem_of_getElem? (i := 126) (by decide +kernel)), lw_in6 _ (List.mem_of_getElem? (i := 127) (by decide +kernel)), rfl, _, _, rfl⟩
abbrev mX11_best : slMt := (yX11_best, cX11_best, 5, (some .int))
theorem ms_X11_best : slMs mX11_best 0 := ⟨lw_in1 _ (List.mem_of_getElem? (i := 1) (by decide +kernel)), lw_in3 _ (List.mem_of_getElem? (i := 27) (by decide +kernel)), by decide +kernel, by decide⟩
theorem mv_X11_best : Cond.instanceMethod mX11_best.1 ∈ lw_tbl ∧ Cond.selects mX11_best.1.cls mX11_best.1 mX11_best.1 ∈ lw_tbl ∧ (slR 11).1 = 0 ∧ ∃ (T : u_T) (N : Nat), vwCl[11]? = some (mX11_best.1.cls, T, N) := ⟨lw_in3 _ (List.mem_of_getElem? (i := 25) (by decide +kernel)), lw_in3 _ (List.mem_of_getElem? (i := 26) (by decide +kernel)), rfl, _, _, rfl⟩
abbrev mX11_mooring : slMt := (yX11_mooring, cX11_mooring, 9, (some .int))
theorem ms_X11_mooring : slMs mX11_mooring 3 := ⟨lw_in1 _ (List.mem_of_getElem? (i := 1) (by decide +kernel)), lw_in6 _ (List.mem_of_getElem? (i := 140) (by decide +kernel)), by decide +kernel, by decide⟩
theorem mv_X11_mooring : Cond.instanceMethod mX11_mooring.1 ∈ lw_tbl ∧ Cond.selects mX11_mooring.1.cls mX11_mooring.1 mX11_mooring.1 ∈ lw_tbl ∧ (slR 11).1 = 0 ∧ ∃ (T : u_T) (N : Nat), vwCl[11]? = some (mX11_mooring.1.cls, T, N) := ⟨lw_in6 _ (List.mem_of_getElem? (i := 138) (by decide +kernel)), lw_in6 _ (List.mem_of_getElem? (i := 139) (by decide +kernel)), rfl, _, _, rfl⟩
abbrev mX11_log : slMt := (yX11_log, cX11_log, 5, (some .int))
theorem ms_X11_log : slMs mX11_log 4 := ⟨lw_in1 _ (List.mem_of_getElem? (i := 1) (by decide +kernel)), lw_in6 _ (List.mem_of_getElem? (i := 156) (by decide +kernel)), by decide +kernel, by decide⟩
theorem mv_X11_log : Cond.instanceMethod mX11_log.1 ∈ lw_tbl ∧ Cond.selects mX11_log.1.cls mX11_log.1 mX11_log.1 ∈ lw_tbl ∧ (slR 11).1 = 0 ∧ ∃ (T : u_T) (N : Nat), vwCl[11]? = some (mX11_log.1.cls, T, N) := ⟨lw_in6 _ (List.mem_of_getElem? (i := 154) (by decide +kernel)), lw_in6 _ (List.mem_of_getElem? (i := 155) (by decide +kernel)), rfl, _, _, rfl⟩
abbrev mX11_forget : slMt := (yX11_forget, cX11_forget, 1, none)
theorem ms_X11_forget : slMs mX11_forget 0 := ⟨lw_in1 _ (List.mem_of_getElem? (i := 1) (by decide +kernel)), lw_in3 _ (List.mem_of_getElem? (i := 150) (by decide +kernel)), by decide +kernel, by decide⟩
theorem mv_X11_forget : Cond.instanceMethod mX11_forget.1 ∈ lw_tbl ∧ Cond.selects mX11_forget.1.cls mX11_forget.1 mX11_forget.1 ∈ lw_tbl ∧ (slR 11).1 = 0 ∧ ∃ (T : u_T) (N : Nat), vwCl[11]? = some (mX11_forget.1.cls, T, N) := ⟨lw_in3 _ (List.mem_of_getElem? (i := 148) (by decide +kernel)), lw_in3 _ (List.mem_of_getElem? (i := 149) (by decide +kernel)), rfl, _, _, rfl⟩
abbrev mX11_falsely : slMt := (yX11_falsely, cX11_falsely, 1, (some .int))
theorem ms_X11_falsely : slMs mX11_falsely 0 := ⟨lw_in1 _ (List.mem_of_getElem? (i := 1) (by decide +kernel)), lw_in3 _ (List.mem_of_getElem? (i := 154) (by decide +kernel)), by decide +kernel, by decide⟩
theorem mv_X11_falsely : Cond.instanceMethod mX11_falsely.1 ∈ lw_tbl ∧ Cond.selects mX11_falsely.1.cls mX11_falsely.1 mX11_falsely.1 ∈ lw_tbl ∧ (slR 11).1 = 0 ∧ ∃ (T : u_T) (N : Nat), vwCl[11]? = some (mX11_falsely.1.cls, T, N) := ⟨lw_in3 _ (List.mem_of_getElem? (i := 152) (by decide +kernel)), lw_in3 _ (List.mem_of_getElem? (i := 153) (by decide +kernel)), rfl, _, _, rfl⟩
abbrev mX11_begun : slMt := (yX11_begun, cX11_begun, 9, (some .int))
theorem ms_X11_begun : slMs mX11_begun 2 := ⟨lw_in1 _ (List.mem_of_getElem? (i := 1) (by decide +kernel)), lw_in6 _ (List.mem_of_getElem? (i := 167) (by decide +kernel)), by decide +kernel, by decide⟩
theorem mv_X11_begun : Cond.instanceMethod mX11_begun.1 ∈ lw_tbl ∧ Cond.selects mX11_begun.1.cls mX11_begun.1 mX11_begun.1 ∈ lw_tbl ∧ (slR 11).1 = 0 ∧ ∃ (T : u_T) (N : Nat), vwCl[11]? = some (mX11_begun.1.cls, T, N) := ⟨lw_in6 _ (List.mem_of_getElem? (i := 165) (by decide +kernel)), lw_in6 _ (List.mem_of_getElem? (i := 166) (by decide +kernel)), rfl, _, _, rfl⟩
abbrev mX11_game : slMt := (yX11_game, cX11_game, 11, (some .int))
theorem ms_X11_game : slMs mX11_game 5 := ⟨lw_in1 _ (List.mem_of_getElem? (i := 1) (by decide +kernel)), lw_in6 _ (List.mem_of_getElem? (i := 179) (by decide +kernel)), by decide +kernel, by decide⟩
theorem mv_X11_game : Cond.instanceMethod mX11_game.1 ∈ lw_tbl ∧ Cond.selects mX11_game.1.cls mX11_game.1 mX11_game.1 ∈ lw_tbl ∧ (slR 11).1 = 0 ∧ ∃ (T : u_T) (N : Nat), vwCl[11]? = some (mX11_game.1.cls, T, N) := ⟨lw_in6 _ (List.mem_of_getElem? (i := 177) (by decide +kernel)), lw_in6 _ (List.mem_of_getElem? (i := 178) (by decide +kernel)), rfl, _, _, rfl⟩
abbrev mX11_years : slMt := (yX11_years, cX11_years, 9, (some .int))
theorem ms_X11_years : slMs mX11_years 3 := ⟨lw_in1 _ (List.mem_of_getElem? (i := 1) (by decide +kernel)), lw_in6 _ (List.mem_of_getElem? (i := 203) (by decide +kernel)), by decide +kernel, by decide⟩
theorem mv_X11_years : Cond.instanceMethod mX11_years.1 ∈ lw_tbl ∧ Cond.selects mX11_years.1.cls mX11_years.1 mX11_years.1 ∈ lw_tbl ∧ (slR 11).1 = 0 ∧ ∃ (T : u_T) (N : Nat), vwCl[11]? = some (mX11_years.1.cls, T, N) := ⟨lw_in6 _ (List.mem_of_getElem? (i := 201) (by decide +kernel)), lw_in6 _ (List.mem_of_getElem? (i := 202) (by decide +kernel)), rfl, _, _, rfl⟩
abbrev mX11_father : slMt := (yX11_father, cX11_father, 8, (some .int))
theorem ms_X11_father : slMs mX11_father 2 := ⟨lw_in1 _ (List.mem_of_getElem? (i := 1) (by decide +kernel)), lw_in6 _ (List.mem_of_getElem? (i := 227) (by decide +kernel)), by decide +kernel, by decide⟩
theorem mv_X11_father : Cond.instanceMethod mX11_father.1 ∈ lw_tbl ∧ Cond.selects mX11_father.1.cls mX11_father.1 mX11_father.1 ∈ lw_tbl ∧ (slR 11).1 = 0 ∧ ∃ (T : u_T) (N : Nat), vwCl[11]? = some (mX11_father.1.cls, T, N) := ⟨lw_in6 _ (List.mem_of_getElem? (i := 225) (by decide +kernel)), lw_in6 _ (List.mem_of_getElem? (i := 226) (by decide +kernel)), rfl, _, _, rfl⟩
abbrev mX11_journey : slMt := (yX11_journey, cX11_journey, 3, (some .int))
theorem ms_X11_journey : slMs mX11_journey 2 := ⟨lw_in1 _ (List.mem_of_getElem? (i := 1) (by decide +kernel)), lw_in6 _ (List.mem_of_getElem? (i := 234) (by decide +kernel)), by decide +kernel, by decide⟩
theorem mv_X11_journey : Cond.instanceMethod mX11_journey.1 ∈ lw_tbl ∧ Cond.selects mX11_journey.1.cls mX11_journey.1 mX11_journey.1 ∈ lw_tbl ∧ (slR 11).1 = 0 ∧ ∃ (T : u_T) (N : Nat), vwCl[11]? = some (mX11_journey.1.cls, T, N) := ⟨lw_in6 _ (List.mem_of_getElem? (i := 232) (by decide +kernel)), lw_in6 _ (List.mem_of_getElem? (i := 233) (by decide +kernel)), rfl, _, _, rfl⟩
abbrev mX11_brightest : slMt := (yX11_brightest, cX11_brightest, 5, (some .int))
theorem ms_X11_brightest : slMs mX11_brightest 0 := ⟨lw_in1 _ (List.mem_of_getElem? (i := 1) (by decide +kernel)), lw_in3 _ (List.mem_of_getElem? (i := 166) (by decide +kernel)), by decide +kernel, by decide⟩
theorem mv_X11_brightest : Cond.instanceMethod mX11_brightest.1 ∈ lw_tbl ∧ Cond.selects mX11_brightest.1.cls mX11_brightest.1 mX11_brightest.1 ∈ lw_tbl ∧ (slR 11).1 = 0 ∧ ∃ (T : u_T) (N : Nat), vwCl[11]? = some (mX11_brightest.1.cls, T, N) := ⟨lw_in3 _ (List.mem_of_getElem? (i := 164) (by decide +kernel)), lw_in3 _ (List.mem_of_getElem? (i := 165) (by decide +kernel)), rfl, _, _, rfl⟩
abbrev mX11_sparing : slMt := (yX11_sparing, cX11_sparing, 5, (some .int))
theorem ms_X11_sparing : slMs mX11_sparing 1 := ⟨lw_in1 _ (List.mem_of_getElem? (i := 1) (by decide +kernel)), lw_in7 _ (List.mem_of_getElem? (i := 10) (by decide +kernel)), by decide +kernel, by decide⟩
theorem mv_X11_sparing : Cond.instanceMethod mX11_sparing.1 ∈ lw_tbl ∧ Cond.selects mX11_sparing.1.cls mX11_sparing.1 mX11_sparing.1 ∈ lw_tbl ∧ (slR 11).1 = 0 ∧ ∃ (T : u_T) (N : Nat), vwCl[11]? = some (mX11_sparing.1.cls, T, N) := ⟨lw_in7 _ (List.mem_of_getElem? (i := 8) (by decide +kernel)), lw_in7 _ (List.mem_of_getElem? (i := 9) (by decide +kernel)), rfl, _, _, rfl⟩
abbrev mX11_start : slMt := (yX11_start, cX11_start, 8, (some .int))
theorem ms_X11_start : slMs mX11_start 2 := ⟨lw_in1 _ (List.mem_of_getElem? (i := 1) (by decide +kernel)), lw_in7 _ (List.mem_of_getElem? (i := 19) (by decide +kernel)), by decide +kernel, by decide⟩
theorem mv_X11_start : Cond.instanceMethod mX11_start.1 ∈ lw_tbl ∧ Cond.selects mX11_start.1.cls mX11_start.1 mX11_start.1 ∈ lw_tbl ∧ (slR 11).1 = 0 ∧ ∃ (T : u_T) (N : Nat), vwCl[11]? = some (mX11_start.1.cls, T, N) := ⟨lw_in7 _ (List.mem_of_getElem? (i := 17) (by decide +kernel)), lw_in7 _ (List.mem_of_getElem? (i := 18) (by decide +kernel)), rfl, _, _, rfl⟩
abbrev mX11_alone : slMt := (yX11_alone, cX11_alone, 4, (some .int))
theorem ms_X11_alone : slMs mX11_alone 1 := ⟨lw_in1 _ (List.mem_of_getElem? (i := 1) (by decide +kernel)), lw_in7 _ (List.mem_of_getElem? (i := 26) (by decide +kernel)), by decide +kernel, by decide⟩
theorem mv_X11_alone : Cond.instanceMethod mX11_alone.1 ∈ lw_tbl ∧ Cond.selects mX11_alone.1.cls mX11_alone.1 mX11_alone.1 ∈ lw_tbl ∧ (slR 11).1 = 0 ∧ ∃ (T : u_T) (N : Nat), vwCl[11]? = some (mX11_alone.1.cls, T, N) := ⟨lw_in7 _ (List.mem_of_getElem? (i := 24) (by decide +kernel)), lw_in7 _ (List.mem_of_getElem? (i := 25) (by decide +kernel)), rfl, _, _, rfl⟩
abbrev mX11_quarrels : slMt := (yX11_quarrels, cX11_quarrels, 2, (some .int))
theorem ms_X11_quarrels : slMs mX11_quarrels 1 := ⟨lw_in1 _ (List.mem_of_getElem? (i := 1) (by decide +kernel)), lw_in7 _ (List.mem_of_getElem? (i := 34) (by decide +kernel)), by decide +kernel, by decide⟩
theorem mv_X11_quarrels : Cond.instanceMethod mX11_quarrels.1 ∈ lw_tbl ∧ Cond.selects mX11_quarrels.1.cls mX11_quarrels.1 mX11_quarrels.1 ∈ lw_tbl ∧ (slR 11).1 = 0 ∧ ∃ (T : u_T) (N : Nat), vwCl[11]? = some (mX11_quarrels.1.cls, T, N) := ⟨lw_in7 _ (List.mem_of_getElem? (i := 32) (by decide +kernel)), lw_in7 _ (List.mem_of_getElem? (i := 33) (by decide +kernel)), rfl, _, _, rfl⟩
abbrev mX11_image : slMt := (yX11_image, cX11_image, 1, none)
theorem ms_X11_image : slMs mX11_image 0 := ⟨lw_in1 _ (List.mem_of_getElem? (i := 1) (by decide +kernel)), lw_in3 _ (List.mem_of_getElem? (i := 174) (by decide +kernel)), by decide +kernel, by decide⟩
theorem mv_X11_image : Cond.instanceMethod mX11_image.1 ∈ lw_tbl ∧ Cond.selects mX11_image.1.cls mX11_image.1 mX11_image.1 ∈ lw_tbl ∧ (slR 11).1 = 0 ∧ ∃ (T : u_T) (N : Nat), vwCl[11]? = some (mX11_image.1.cls, T, N) := ⟨lw_in3 _ (List.mem_of_getElem? (i := 172) (by decide +kernel)), lw_in3 _ (List.mem_of_getElem? (i := 173) (by decide +kernel)), rfl, _, _, rfl⟩
abbrev mX11_restore : slMt := (yX11_restore, cX11_restore, 1, (some .boolean))
theorem ms_X11_restore : slMs mX11_restore 0 := ⟨lw_in1 _ (List.mem_of_getElem? (i := 1) (by decide +kernel)), lw_in3 _ (List.mem_of_getElem? (i := 192) (by decide +kernel)), by decide +kernel, by decide⟩
theorem mv_X11_restore : Cond.instanceMethod mX11_restore.1 ∈ lw_tbl ∧ Cond.selects mX11_restore.1.cls mX11_restore.1 mX11_restore.1 ∈ lw_tbl ∧ (slR 11).1 = 0 ∧ ∃ (T : u_T) (N : Nat), vwCl[11]? = some (mX11_restore.1.cls, T, N) := ⟨lw_in3 _ (List.mem_of_getElem? (i := 190) (by decide +kernel)), lw_in3 _ (List.mem_of_getElem? (i := 191) (by decide +kernel)), rfl, _, _, rfl⟩
abbrev mX11_needLight : slMt := (yX11_needLight, cX11_needLight, 2, none)
theorem ms_X11_needLight : slMs mX11_needLight 1 := ⟨lw_in1 _ (List.mem_of_getElem? (i := 1) (by decide +kernel)), lw_in5 _ (List.mem_of_getElem? (i := 99) (by decide +kernel)), by decide +kernel, by decide⟩
theorem mv_X11_needLight : Cond.instanceMethod mX11_needLight.1 ∈ lw_tbl ∧ Cond.selects mX11_needLight.1.cls mX11_needLight.1 mX11_needLight.1 ∈ lw_tbl ∧ (slR 11).1 = 0 ∧ ∃ (T : u_T) (N : Nat), vwCl[11]? = some (mX11_needLight.1.cls, T, N) := ⟨lw_in5 _ (List.mem_of_getElem? (i := 98) (by decide +kernel)), lw_in0 _ (List.mem_of_getElem? (i := 36) (by decide +kernel)), rfl, _, _, rfl⟩
abbrev mX11_needShip : slMt := (yX11_needShip, cX11_needShip, 2, none)
theorem ms_X11_needShip : slMs mX11_needShip 1 := ⟨lw_in1 _ (List.mem_of_getElem? (i := 1) (by decide +kernel)), lw_in5 _ (List.mem_of_getElem? (i := 111) (by decide +kernel)), by decide +kernel, by decide⟩
theorem mv_X11_needShip : Cond.instanceMethod mX11_needShip.1 ∈ lw_tbl ∧ Cond.selects mX11_needShip.1.cls mX11_needShip.1 mX11_needShip.1 ∈ lw_tbl ∧ (slR 11).1 = 0 ∧ ∃ (T : u_T) (N : Nat), vwCl[11]? = some (mX11_needShip.1.cls, T, N) := ⟨lw_in5 _ (List.mem_of_getElem? (i := 110) (by decide +kernel)), lw_in0 _ (List.mem_of_getElem? (i := 37) (by decide +kernel)), rfl, _, _, rfl⟩
abbrev mX11_needHour : slMt := (yX11_needHour, cX11_needHour, 1, none)
theorem ms_X11_needHour : slMs mX11_needHour 1 := ⟨lw_in1 _ (List.mem_of_getElem? (i := 1) (by decide +kernel)), lw_in5 _ (List.mem_of_getElem? (i := 138) (by decide +kernel)), by decide +kernel, by decide⟩
theorem mt_X11_needHour : Cond.static mX11_needHour.1 ∈ lw_tbl := lw_in5 _ (List.mem_of_getElem? (i := 137) (by decide +kernel))
abbrev mX11_needNight : slMt := (yX11_needNight, cX11_needNight, 1, none)
theorem ms_X11_needNight : slMs mX11_needNight 1 := ⟨lw_in1 _ (List.mem_of_getElem? (i := 1) (by decide +kernel)), lw_in5 _ (List.mem_of_getElem? (i := 169) (by decide +kernel)), by decide +kernel, by decide⟩
theorem mt_X11_needNight : Cond.static mX11_needNight.1 ∈ lw_tbl := lw_in5 _ (List.mem_of_getElem? (i := 168) (by decide +kernel))
abbrev mX11_needWhat : slMt := (yX11_needWhat, cX11_needWhat, 2, none)
theorem ms_X11_needWhat : slMs mX11_needWhat 2 := ⟨lw_in1 _ (List.mem_of_getElem? (i := 1) (by decide +kernel)), lw_in5 _ (List.mem_of_getElem? (i := 115) (by decide +kernel)), by decide +kernel, by decide⟩
theorem mt_X11_needWhat : Cond.static mX11_needWhat.1 ∈ lw_tbl := lw_in5 _ (List.mem_of_getElem? (i := 114) (by decide +kernel))
abbrev mX11_needLawOrNone : slMt := (yX11_needLawOrNone, cX11_needLawOrNone, 2, none)
theorem ms_X11_needLawOrNone : slMs mX11_needLawOrNone 1 := ⟨lw_in1 _ (List.mem_of_getElem? (i := 1) (by decide +kernel)), lw_in6 _ (List.mem_of_getElem? (i := 132) (by decide +kernel)), by decide +kernel, by decide⟩
theorem mv_X11_needLawOrNone : Cond.instanceMethod mX11_needLawOrNone.1 ∈ lw_tbl ∧ Cond.selects mX11_needLawOrNone.1.cls mX11_needLawOrNone.1 mX11_needLawOrNone.1 ∈ lw_tbl ∧ (slR 11).1 = 0 ∧ ∃ (T : u_T) (N : Nat), vwCl[11]? = some (mX11_needLawOrNone.1.cls, T, N) := ⟨lw_in6 _ (List.mem_of_getElem? (i := 131) (by decide +kernel)), lw_in0 _ (List.mem_of_getElem? (i := 52) (by decide +kernel)), rfl, _, _, rfl⟩
abbrev mX11_needTwo : slMt := (yX11_needTwo, cX11_needTwo, 2, none)
theorem ms_X11_needTwo : slMs mX11_needTwo 2 := ⟨lw_in1 _ (List.mem_of_getElem? (i := 1) (by decide +kernel)), lw_in5 _ (List.mem_of_getElem? (i := 192) (by decide +kernel)), by decide +kernel, by decide⟩
theorem mt_X11_needTwo : Cond.static mX11_needTwo.1 ∈ lw_tbl := lw_in5 _ (List.mem_of_getElem? (i := 191) (by decide +kernel))
abbrev mX11_feedBytes : slMt := (yX11_feedBytes, cX11_feedBytes, 3, none)
theorem ms_X11_feedBytes : slMs mX11_feedBytes 1 := ⟨lw_in1 _ (List.mem_of_getElem? (i := 1) (by decide +kernel)), lw_in2 _ (List.mem_of_getElem? (i := 223) (by decide +kernel)), by decide +kernel, by decide⟩
theorem mv_X11_feedBytes : Cond.instanceMethod mX11_feedBytes.1 ∈ lw_tbl ∧ Cond.selects mX11_feedBytes.1.cls mX11_feedBytes.1 mX11_feedBytes.1 ∈ lw_tbl ∧ (slR 11).1 = 0 ∧ ∃ (T : u_T) (N : Nat), vwCl[11]? = some (mX11_feedBytes.1.cls, T, N) := ⟨lw_in2 _ (List.mem_of_getElem? (i := 222) (by decide +kernel)), lw_in0 _ (List.mem_of_getElem? (i := 0) (by decide +kernel)), rfl, _, _, rfl⟩
abbrev mX11_takeWhatWasRead : slMt := (yX11_takeWhatWasRead, cX11_takeWhatWasRead, 3, none)
theorem ms_X11_takeWhatWasRead : slMs mX11_takeWhatWasRead 0 := ⟨lw_in1 _ (List.mem_of_getElem? (i := 1) (by decide +kernel)), lw_in5 _ (List.mem_of_getElem? (i := 64) (by decide +kernel)), by decide +kernel, by decide⟩
theorem mv_X11_takeWhatWasRead : Cond.instanceMethod mX11_takeWhatWasRead.1 ∈ lw_tbl ∧ Cond.selects mX11_takeWhatWasRead.1.cls mX11_takeWhatWasRead.1 mX11_takeWhatWasRead.1 ∈ lw_tbl ∧ (slR 11).1 = 0 ∧ ∃ (T : u_T) (N : Nat), vwCl[11]? = some (mX11_takeWhatWasRead.1.cls, T, N) := ⟨lw_in5 _ (List.mem_of_getElem? (i := 63) (by decide +kernel)), lw_in0 _ (List.mem_of_getElem? (i := 35) (by decide +kernel)), rfl, _, _, rfl⟩
abbrev mX11_settle : slMt := (yX11_settle, cX11_settle, 1, none)
theorem ms_X11_settle : slMs mX11_settle 0 := ⟨lw_in1 _ (List.mem_of_getElem? (i := 1) (by decide +kernel)), lw_in3 _ (List.mem_of_getElem? (i := 31) (by decide +kernel)), by decide +kernel, by decide⟩
theorem mv_X11_settle : Cond.instanceMethod mX11_settle.1 ∈ lw_tbl ∧ Cond.selects mX11_settle.1.cls mX11_settle.1 mX11_settle.1 ∈ lw_tbl ∧ (slR 11).1 = 0 ∧ ∃ (T : u_T) (N : Nat), vwCl[11]? = some (mX11_settle.1.cls, T, N) := ⟨lw_in3 _ (List.mem_of_getElem? (i := 30) (by decide +kernel)), lw_in0 _ (List.mem_of_getElem? (i := 4) (by decide +kernel)), rfl, _, _, rfl⟩
abbrev mX11_measureViews : slMt := (yX11_measureViews, cX11_measureViews, 4, none)
theorem ms_X11_measureViews : slMs mX11_measureViews 0 := ⟨lw_in1 _ (List.mem_of_getElem? (i := 1) (by decide +kernel)), lw_in3 _ (List.mem_of_getElem? (i := 35) (by decide +kernel)), by decide +kernel, by decide⟩
theorem mv_X11_measureViews : Cond.instanceMethod mX11_measureViews.1 ∈ lw_tbl ∧ Cond.selects mX11_measureViews.1.cls mX11_measureViews.1 mX11_measureViews.1 ∈ lw_tbl ∧ (slR 11).1 = 0 ∧ ∃ (T : u_T) (N : Nat), vwCl[11]? = some (mX11_measureViews.1.cls, T, N) := ⟨lw_in3 _ (List.mem_of_getElem? (i := 34) (by decide +kernel)), lw_in0 _ (List.mem_of_getElem? (i := 5) (by decide +kernel)), rfl, _, _, rfl⟩
abbrev mX11_refuseAct : slMt := (yX11_refuseAct, cX11_refuseAct, 1, (some .int))
theorem ms_X11_refuseAct : slMs mX11_refuseAct 0 := ⟨lw_in1 _ (List.mem_of_getElem? (i := 1) (by decide +kernel)), lw_in2 _ (List.mem_of_getElem? (i := 239) (by decide +kernel)), by decide +kernel, by decide⟩
theorem mv_X11_refuseAct : Cond.instanceMethod mX11_refuseAct.1 ∈ lw_tbl ∧ Cond.selects mX11_refuseAct.1.cls mX11_refuseAct.1 mX11_refuseAct.1 ∈ lw_tbl ∧ (slR 11).1 = 0 ∧ ∃ (T : u_T) (N : Nat), vwCl[11]? = some (mX11_refuseAct.1.cls, T, N) := ⟨lw_in2 _ (List.mem_of_getElem? (i := 238) (by decide +kernel)), lw_in0 _ (List.mem_of_getElem? (i := 2) (by decide +kernel)), rfl, _, _, rfl⟩
abbrev mX11_act : slMt := (yX11_act, cX11_act, 5, (some .int))
theorem ms_X11_act : slMs mX11_act 3 := ⟨lw_in1 _ (List.mem_of_getElem? (i := 1) (by decide +kernel)), lw_in3 _ (List.mem_of_getElem? (i := 3) (by decide +kernel)), by decide +kernel, by decide⟩
theorem mv_X11_act : Cond.instanceMethod mX11_act.1 ∈ lw_tbl ∧ Cond.selects mX11_act.1.cls mX11_act.1 mX11_act.1 ∈ lw_tbl ∧ (slR 11).1 = 0 ∧ ∃ (T : u_T) (N : Nat), vwCl[11]? = some (mX11_act.1.cls, T, N) := ⟨lw_in3 _ (List.mem_of_getElem? (i := 2) (by decide +kernel)), lw_in0 _ (List.mem_of_getElem? (i := 3) (by decide +kernel)), rfl, _, _, rfl⟩
abbrev mX11_isLawOrNone : slMt := (yX11_isLawOrNone, cX11_isLawOrNone, 2, (some .boolean))
theorem ms_X11_isLawOrNone : slMs mX11_isLawOrNone 1 := ⟨lw_in1 _ (List.mem_of_getElem? (i := 1) (by decide +kernel)), lw_in2 _ (List.mem_of_getElem? (i := 235) (by decide +kernel)), by decide +kernel, by decide⟩
theorem mv_X11_isLawOrNone : Cond.instanceMethod mX11_isLawOrNone.1 ∈ lw_tbl ∧ Cond.selects mX11_isLawOrNone.1.cls mX11_isLawOrNone.1 mX11_isLawOrNone.1 ∈ lw_tbl ∧ (slR 11).1 = 0 ∧ ∃ (T : u_T) (N : Nat), vwCl[11]? = some (mX11_isLawOrNone.1.cls, T, N) := ⟨lw_in2 _ (List.mem_of_getElem? (i := 234) (by decide +kernel)), lw_in0 _ (List.mem_of_getElem? (i := 1) (by decide +kernel)), rfl, _, _, rfl⟩
abbrev mX11_canMoor : slMt := (yX11_canMoor, cX11_canMoor, 4, (some .boolean))
theorem ms_X11_canMoor : slMs mX11_canMoor 2 := ⟨lw_in1 _ (List.mem_of_getElem? (i := 1) (by decide +kernel)), lw_in5 _ (List.mem_of_getElem? (i := 215) (by decide +kernel)), by decide +kernel, by decide⟩
theorem mv_X11_canMoor : Cond.instanceMethod mX11_canMoor.1 ∈ lw_tbl ∧ Cond.selects mX11_canMoor.1.cls mX11_canMoor.1 mX11_canMoor.1 ∈ lw_tbl ∧ (slR 11).1 = 0 ∧ ∃ (T : u_T) (N : Nat), vwCl[11]? = some (mX11_canMoor.1.cls, T, N) := ⟨lw_in5 _ (List.mem_of_getElem? (i := 214) (by decide +kernel)), lw_in0 _ (List.mem_of_getElem? (i := 38) (by decide +kernel)), rfl, _, _, rfl⟩
abbrev mX11_canBegin : slMt := (yX11_canBegin, cX11_canBegin, 5, (some .boolean))
theorem ms_X11_canBegin : slMs mX11_canBegin 3 := ⟨lw_in1 _ (List.mem_of_getElem? (i := 1) (by decide +kernel)), lw_in5 _ (List.mem_of_getElem? (i := 227) (by decide +kernel)), by decide +kernel, by decide⟩
theorem mv_X11_canBegin : Cond.instanceMethod mX11_canBegin.1 ∈ lw_tbl ∧ Cond.selects mX11_canBegin.1.cls mX11_canBegin.1 mX11_canBegin.1 ∈ lw_tbl ∧ (slR 11).1 = 0 ∧ ∃ (T : u_T) (N : Nat), vwCl[11]? = some (mX11_canBegin.1.cls, T, N) := ⟨lw_in5 _ (List.mem_of_getElem? (i := 226) (by decide +kernel)), lw_in0 _ (List.mem_of_getElem? (i := 39) (by decide +kernel)), rfl, _, _, rfl⟩
abbrev mX11_sumByLaw : slMt := (yX11_sumByLaw, cX11_sumByLaw, 2, (some .int))
theorem ms_X11_sumByLaw : slMs mX11_sumByLaw 1 := ⟨lw_in1 _ (List.mem_of_getElem? (i := 1) (by decide +kernel)), lw_in3 _ (List.mem_of_getElem? (i := 138) (by decide +kernel)), by decide +kernel, by decide⟩
theorem mv_X11_sumByLaw : Cond.instanceMethod mX11_sumByLaw.1 ∈ lw_tbl ∧ Cond.selects mX11_sumByLaw.1.cls mX11_sumByLaw.1 mX11_sumByLaw.1 ∈ lw_tbl ∧ (slR 11).1 = 0 ∧ ∃ (T : u_T) (N : Nat), vwCl[11]? = some (mX11_sumByLaw.1.cls, T, N) := ⟨lw_in3 _ (List.mem_of_getElem? (i := 137) (by decide +kernel)), lw_in0 _ (List.mem_of_getElem? (i := 8) (by decide +kernel)), rfl, _, _, rfl⟩
abbrev mX11_hoursSeenFrom : slMt := (yX11_hoursSeenFrom, cX11_hoursSeenFrom, 6, (some .int))
theorem ms_X11_hoursSeenFrom : slMs mX11_hoursSeenFrom 2 := ⟨lw_in1 _ (List.mem_of_getElem? (i := 1) (by decide +kernel)), lw_in6 _ (List.mem_of_getElem? (i := 144) (by decide +kernel)), by decide +kernel, by decide⟩
theorem mv_X11_hoursSeenFrom : Cond.instanceMethod mX11_hoursSeenFrom.1 ∈ lw_tbl ∧ Cond.selects mX11_hoursSeenFrom.1.cls mX11_hoursSeenFrom.1 mX11_hoursSeenFrom.1 ∈ lw_tbl ∧ (slR 11).1 = 0 ∧ ∃ (T : u_T) (N : Nat), vwCl[11]? = some (mX11_hoursSeenFrom.1.cls, T, N) := ⟨lw_in6 _ (List.mem_of_getElem? (i := 143) (by decide +kernel)), lw_in0 _ (List.mem_of_getElem? (i := 53) (by decide +kernel)), rfl, _, _, rfl⟩
abbrev mX11_isSomeSeenFrom : slMt := (yX11_isSomeSeenFrom, cX11_isSomeSeenFrom, 5, (some .boolean))
theorem ms_X11_isSomeSeenFrom : slMs mX11_isSomeSeenFrom 3 := ⟨lw_in1 _ (List.mem_of_getElem? (i := 1) (by decide +kernel)), lw_in6 _ (List.mem_of_getElem? (i := 149) (by decide +kernel)), by decide +kernel, by decide⟩
theorem mv_X11_isSomeSeenFrom : Cond.instanceMethod mX11_isSomeSeenFrom.1 ∈ lw_tbl ∧ Cond.selects mX11_isSomeSeenFrom.1.cls mX11_isSomeSeenFrom.1 mX11_isSomeSeenFrom.1 ∈ lw_tbl ∧ (slR 11).1 = 0 ∧ ∃ (T : u_T) (N : Nat), vwCl[11]? = some (mX11_isSomeSeenFrom.1.cls, T, N) := ⟨lw_in6 _ (List.mem_of_getElem? (i := 148) (by decide +kernel)), lw_in0 _ (List.mem_of_getElem? (i := 54) (by decide +kernel)), rfl, _, _, rfl⟩
abbrev mX11_sailFrom : slMt := (yX11_sailFrom, cX11_sailFrom, 3, none)
theorem ms_X11_sailFrom : slMs mX11_sailFrom 2 := ⟨lw_in1 _ (List.mem_of_getElem? (i := 1) (by decide +kernel)), lw_in6 _ (List.mem_of_getElem? (i := 171) (by decide +kernel)), by decide +kernel, by decide⟩
theorem mv_X11_sailFrom : Cond.instanceMethod mX11_sailFrom.1 ∈ lw_tbl ∧ Cond.selects mX11_sailFrom.1.cls mX11_sailFrom.1 mX11_sailFrom.1 ∈ lw_tbl ∧ (slR 11).1 = 0 ∧ ∃ (T : u_T) (N : Nat), vwCl[11]? = some (mX11_sailFrom.1.cls, T, N) := ⟨lw_in6 _ (List.mem_of_getElem? (i := 170) (by decide +kernel)), lw_in0 _ (List.mem_of_getElem? (i := 55) (by decide +kernel)), rfl, _, _, rfl⟩
abbrev mX11_wouldKeepChoice : slMt := (yX11_wouldKeepChoice, cX11_wouldKeepChoice, 9, (some .boolean))
theorem ms_X11_wouldKeepChoice : slMs mX11_wouldKeepChoice 6 := ⟨lw_in1 _ (List.mem_of_getElem? (i := 1) (by decide +kernel)), lw_in6 _ (List.mem_of_getElem? (i := 184) (by decide +kernel)), by decide +kernel, by decide⟩
theorem mv_X11_wouldKeepChoice : Cond.instanceMethod mX11_wouldKeepChoice.1 ∈ lw_tbl ∧ Cond.selects mX11_wouldKeepChoice.1.cls mX11_wouldKeepChoice.1 mX11_wouldKeepChoice.1 ∈ lw_tbl ∧ (slR 11).1 = 0 ∧ ∃ (T : u_T) (N : Nat), vwCl[11]? = some (mX11_wouldKeepChoice.1.cls, T, N) := ⟨lw_in6 _ (List.mem_of_getElem? (i := 183) (by decide +kernel)), lw_in0 _ (List.mem_of_getElem? (i := 56) (by decide +kernel)), rfl, _, _, rfl⟩
abbrev mX11_gain : slMt := (yX11_gain, cX11_gain, 8, (some .int))
theorem ms_X11_gain : slMs mX11_gain 5 := ⟨lw_in1 _ (List.mem_of_getElem? (i := 1) (by decide +kernel)), lw_in6 _ (List.mem_of_getElem? (i := 188) (by decide +kernel)), by decide +kernel, by decide⟩
theorem mv_X11_gain : Cond.instanceMethod mX11_gain.1 ∈ lw_tbl ∧ Cond.selects mX11_gain.1.cls mX11_gain.1 mX11_gain.1 ∈ lw_tbl ∧ (slR 11).1 = 0 ∧ ∃ (T : u_T) (N : Nat), vwCl[11]? = some (mX11_gain.1.cls, T, N) := ⟨lw_in6 _ (List.mem_of_getElem? (i := 187) (by decide +kernel)), lw_in0 _ (List.mem_of_getElem? (i := 57) (by decide +kernel)), rfl, _, _, rfl⟩
abbrev mX11_isOnceAlone : slMt := (yX11_isOnceAlone, cX11_isOnceAlone, 9, (some .boolean))
theorem ms_X11_isOnceAlone : slMs mX11_isOnceAlone 5 := ⟨lw_in1 _ (List.mem_of_getElem? (i := 1) (by decide +kernel)), lw_in6 _ (List.mem_of_getElem? (i := 192) (by decide +kernel)), by decide +kernel, by decide⟩
theorem mv_X11_isOnceAlone : Cond.instanceMethod mX11_isOnceAlone.1 ∈ lw_tbl ∧ Cond.selects mX11_isOnceAlone.1.cls mX11_isOnceAlone.1 mX11_isOnceAlone.1 ∈ lw_tbl ∧ (slR 11).1 = 0 ∧ ∃ (T : u_T) (N : Nat), vwCl[11]? = some (mX11_isOnceAlone.1.cls, T, N) := ⟨lw_in6 _ (List.mem_of_getElem? (i := 191) (by decide +kernel)), lw_in0 _ (List.mem_of_getElem? (i := 58) (by decide +kernel)), rfl, _, _, rfl⟩
abbrev mX11_isInSight : slMt := (yX11_isInSight, cX11_isInSight, 5, (some .boolean))
theorem ms_X11_isInSight : slMs mX11_isInSight 4 := ⟨lw_in1 _ (List.mem_of_getElem? (i := 1) (by decide +kernel)), lw_in6 _ (List.mem_of_getElem? (i := 196) (by decide +kernel)), by decide +kernel, by decide⟩
theorem mv_X11_isInSight : Cond.instanceMethod mX11_isInSight.1 ∈ lw_tbl ∧ Cond.selects mX11_isInSight.1.cls mX11_isInSight.1 mX11_isInSight.1 ∈ lw_tbl ∧ (slR 11).1 = 0 ∧ ∃ (T : u_T) (N : Nat), vwCl[11]? = some (mX11_isInSight.1.cls, T, N) := ⟨lw_in6 _ (List.mem_of_getElem? (i := 195) (by decide +kernel)), lw_in0 _ (List.mem_of_getElem? (i := 59) (by decide +kernel)), rfl, _, _, rfl⟩
abbrev mX11_storm : slMt := (yX11_storm, cX11_storm, 3, none)
theorem ms_X11_storm : slMs mX11_storm 0 := ⟨lw_in1 _ (List.mem_of_getElem? (i := 1) (by decide +kernel)), lw_in6 _ (List.mem_of_getElem? (i := 208) (by decide +kernel)), by decide +kernel, by decide⟩
theorem mv_X11_storm : Cond.instanceMethod mX11_storm.1 ∈ lw_tbl ∧ Cond.selects mX11_storm.1.cls mX11_storm.1 mX11_storm.1 ∈ lw_tbl ∧ (slR 11).1 = 0 ∧ ∃ (T : u_T) (N : Nat), vwCl[11]? = some (mX11_storm.1.cls, T, N) := ⟨lw_in6 _ (List.mem_of_getElem? (i := 207) (by decide +kernel)), lw_in0 _ (List.mem_of_getElem? (i := 60) (by decide +kernel)), rfl, _, _, rfl⟩
abbrev mX11_draw : slMt := (yX11_draw, cX11_draw, 2, (some .int))
theorem ms_X11_draw : slMs mX11_draw 1 := ⟨lw_in1 _ (List.mem_of_getElem? (i := 1) (by decide +kernel)), lw_in6 _ (List.mem_of_getElem? (i := 212) (by decide +kernel)), by decide +kernel, by decide⟩
theorem mv_X11_draw : Cond.instanceMethod mX11_draw.1 ∈ lw_tbl ∧ Cond.selects mX11_draw.1.cls mX11_draw.1 mX11_draw.1 ∈ lw_tbl ∧ (slR 11).1 = 0 ∧ ∃ (T : u_T) (N : Nat), vwCl[11]? = some (mX11_draw.1.cls, T, N) := ⟨lw_in6 _ (List.mem_of_getElem? (i := 211) (by decide +kernel)), lw_in0 _ (List.mem_of_getElem? (i := 61) (by decide +kernel)), rfl, _, _, rfl⟩
abbrev mX11_nightInFog : slMt := (yX11_nightInFog, cX11_nightInFog, 2, (some .int))
theorem ms_X11_nightInFog : slMs mX11_nightInFog 1 := ⟨lw_in1 _ (List.mem_of_getElem? (i := 1) (by decide +kernel)), lw_in6 _ (List.mem_of_getElem? (i := 219) (by decide +kernel)), by decide +kernel, by decide⟩
theorem mv_X11_nightInFog : Cond.instanceMethod mX11_nightInFog.1 ∈ lw_tbl ∧ Cond.selects mX11_nightInFog.1.cls mX11_nightInFog.1 mX11_nightInFog.1 ∈ lw_tbl ∧ (slR 11).1 = 0 ∧ ∃ (T : u_T) (N : Nat), vwCl[11]? = some (mX11_nightInFog.1.cls, T, N) := ⟨lw_in6 _ (List.mem_of_getElem? (i := 218) (by decide +kernel)), lw_in0 _ (List.mem_of_getElem? (i := 62) (by decide +kernel)), rfl, _, _, rfl⟩
abbrev mX11_oilIn : slMt := (yX11_oilIn, cX11_oilIn, 3, (some .int))
theorem ms_X11_oilIn : slMs mX11_oilIn 2 := ⟨lw_in1 _ (List.mem_of_getElem? (i := 1) (by decide +kernel)), lw_in3 _ (List.mem_of_getElem? (i := 74) (by decide +kernel)), by decide +kernel, by decide⟩
theorem mt_X11_oilIn : Cond.static mX11_oilIn.1 ∈ lw_tbl := lw_in3 _ (List.mem_of_getElem? (i := 73) (by decide +kernel))
abbrev mX11_isLit : slMt := (yX11_isLit, cX11_isLit, 2, (some .boolean))
theorem ms_X11_isLit : slMs mX11_isLit 2 := ⟨lw_in1 _ (List.mem_of_getElem? (i := 1) (by decide +kernel)), lw_in3 _ (List.mem_of_getElem? (i := 78) (by decide +kernel)), by decide +kernel, by decide⟩
theorem mt_X11_isLit : Cond.static mX11_isLit.1 ∈ lw_tbl := lw_in3 _ (List.mem_of_getElem? (i := 77) (by decide +kernel))
abbrev mX11_quotient : slMt := (yX11_quotient, cX11_quotient, 2, (some .int))
theorem ms_X11_quotient : slMs mX11_quotient 2 := ⟨lw_in1 _ (List.mem_of_getElem? (i := 1) (by decide +kernel)), lw_in3 _ (List.mem_of_getElem? (i := 89) (by decide +kernel)), by decide +kernel, by decide⟩
theorem mt_X11_quotient : Cond.static mX11_quotient.1 ∈ lw_tbl := lw_in3 _ (List.mem_of_getElem? (i := 88) (by decide +kernel))
abbrev mX11_remainder : slMt := (yX11_remainder, cX11_remainder, 2, (some .int))
theorem ms_X11_remainder : slMs mX11_remainder 2 := ⟨lw_in1 _ (List.mem_of_getElem? (i := 1) (by decide +kernel)), lw_in3 _ (List.mem_of_getElem? (i := 108) (by decide +kernel)), by decide +kernel, by decide⟩
theorem mt_X11_remainder : Cond.static mX11_remainder.1 ∈ lw_tbl := lw_in3 _ (List.mem_of_getElem? (i := 107) (by decide +kernel))
abbrev mX12_thrown : slMt := (yX12_thrown, cX12_thrown, 1, (some .int))
theorem ms_X12_thrown : slMs mX12_thrown 0 := ⟨lw_in1 _ (List.mem_of_getElem? (i := 13) (by decide +kernel)), lw_in8 _ (List.mem_of_getElem? (i := 51) (by decide +kernel)), by decide +kernel, by decide⟩
theorem mv_X12_thrown : Cond.instanceMethod mX12_thrown.1 ∈ lw_tbl ∧ Cond.selects mX12_thrown.1.cls mX12_thrown.1 mX12_thrown.1 ∈ lw_tbl ∧ (slR 12).1 = 0 ∧ ∃ (T : u_T) (N : Nat), vwCl[12]? = some (mX12_thrown.1.cls, T, N) := ⟨lw_in8 _ (List.mem_of_getElem? (i := 49) (by decide +kernel)), lw_in8 _ (List.mem_of_getElem? (i := 50) (by decide +kernel)), rfl, _, _, rfl⟩
abbrev mX12_right : slMt := (yX12_right, cX12_right, 3, (some .boolean))
theorem ms_X12_right : slMs mX12_right 2 := ⟨lw_in1 _ (List.mem_of_getElem? (i := 13) (by decide +kernel)), lw_in8 _ (List.mem_of_getElem? (i := 67) (by decide +kernel)), by decide +kernel, by decide⟩
theorem mv_X12_right : Cond.instanceMethod mX12_right.1 ∈ lw_tbl ∧ Cond.selects mX12_right.1.cls mX12_right.1 mX12_right.1 ∈ lw_tbl ∧ (slR 12).1 = 0 ∧ ∃ (T : u_T) (N : Nat), vwCl[12]? = some (mX12_right.1.cls, T, N) := ⟨lw_in8 _ (List.mem_of_getElem? (i := 66) (by decide +kernel)), lw_in0 _ (List.mem_of_getElem? (i := 64) (by decide +kernel)), rfl, _, _, rfl⟩
abbrev mX12_within : slMt := (yX12_within, cX12_within, 3, (some .boolean))
theorem ms_X12_within : slMs mX12_within 3 := ⟨lw_in1 _ (List.mem_of_getElem? (i := 13) (by decide +kernel)), lw_in8 _ (List.mem_of_getElem? (i := 203) (by decide +kernel)), by decide +kernel, by decide⟩
theorem mt_X12_within : Cond.static mX12_within.1 ∈ lw_tbl := lw_in8 _ (List.mem_of_getElem? (i := 202) (by decide +kernel))
abbrev mX12_off : slMt := (yX12_off, cX12_off, 2, (some .int))
theorem ms_X12_off : slMs mX12_off 2 := ⟨lw_in1 _ (List.mem_of_getElem? (i := 13) (by decide +kernel)), lw_in9 _ (List.mem_of_getElem? (i := 49) (by decide +kernel)), by decide +kernel, by decide⟩
theorem mt_X12_off : Cond.static mX12_off.1 ∈ lw_tbl := lw_in9 _ (List.mem_of_getElem? (i := 48) (by decide +kernel))
abbrev mX12_copies : slMt := (yX12_copies, cX12_copies, 4, none)
theorem ms_X12_copies : slMs mX12_copies 2 := ⟨lw_in1 _ (List.mem_of_getElem? (i := 13) (by decide +kernel)), lw_in8 _ (List.mem_of_getElem? (i := 188) (by decide +kernel)), by decide +kernel, by decide⟩
theorem mv_X12_copies : Cond.instanceMethod mX12_copies.1 ∈ lw_tbl ∧ Cond.selects mX12_copies.1.cls mX12_copies.1 mX12_copies.1 ∈ lw_tbl ∧ (slR 12).1 = 0 ∧ ∃ (T : u_T) (N : Nat), vwCl[12]? = some (mX12_copies.1.cls, T, N) := ⟨lw_in8 _ (List.mem_of_getElem? (i := 187) (by decide +kernel)), lw_in0 _ (List.mem_of_getElem? (i := 88) (by decide +kernel)), rfl, _, _, rfl⟩
abbrev mX12_bits : slMt := (yX12_bits, cX12_bits, 3, (some .int))
theorem ms_X12_bits : slMs mX12_bits 1 := ⟨lw_in1 _ (List.mem_of_getElem? (i := 13) (by decide +kernel)), lw_in9 _ (List.mem_of_getElem? (i := 140) (by decide +kernel)), by decide +kernel, by decide⟩
theorem mt_X12_bits : Cond.static mX12_bits.1 ∈ lw_tbl := lw_in9 _ (List.mem_of_getElem? (i := 139) (by decide +kernel))
abbrev mX12_feed : slMt := (yX12_feed, cX12_feed, 6, (some .int))
theorem ms_X12_feed : slMs mX12_feed 5 := ⟨lw_in1 _ (List.mem_of_getElem? (i := 13) (by decide +kernel)), lw_in8 _ (List.mem_of_getElem? (i := 55) (by decide +kernel)), by decide +kernel, by decide⟩
theorem mv_X12_feed : Cond.instanceMethod mX12_feed.1 ∈ lw_tbl ∧ Cond.selects mX12_feed.1.cls mX12_feed.1 mX12_feed.1 ∈ lw_tbl ∧ (slR 12).1 = 0 ∧ ∃ (T : u_T) (N : Nat), vwCl[12]? = some (mX12_feed.1.cls, T, N) := ⟨lw_in8 _ (List.mem_of_getElem? (i := 53) (by decide +kernel)), lw_in8 _ (List.mem_of_getElem? (i := 54) (by decide +kernel)), rfl, _, _, rfl⟩
abbrev mX12_lays : slMt := (yX12_lays, cX12_lays, 3, none)
theorem ms_X12_lays : slMs mX12_lays 1 := ⟨lw_in1 _ (List.mem_of_getElem? (i := 13) (by decide +kernel)), lw_in8 _ (List.mem_of_getElem? (i := 59) (by decide +kernel)), by decide +kernel, by decide⟩
theorem mv_X12_lays : Cond.instanceMethod mX12_lays.1 ∈ lw_tbl ∧ Cond.selects mX12_lays.1.cls mX12_lays.1 mX12_lays.1 ∈ lw_tbl ∧ (slR 12).1 = 0 ∧ ∃ (T : u_T) (N : Nat), vwCl[12]? = some (mX12_lays.1.cls, T, N) := ⟨lw_in8 _ (List.mem_of_getElem? (i := 58) (by decide +kernel)), lw_in0 _ (List.mem_of_getElem? (i := 63) (by decide +kernel)), rfl, _, _, rfl⟩
abbrev mX12_byteAt : slMt := (yX12_byteAt, cX12_byteAt, 2, (some .int))
theorem ms_X12_byteAt : slMs mX12_byteAt 1 := ⟨lw_in1 _ (List.mem_of_getElem? (i := 13) (by decide +kernel)), lw_in8 _ (List.mem_of_getElem? (i := 75) (by decide +kernel)), by decide +kernel, by decide⟩
theorem mv_X12_byteAt : Cond.instanceMethod mX12_byteAt.1 ∈ lw_tbl ∧ Cond.selects mX12_byteAt.1.cls mX12_byteAt.1 mX12_byteAt.1 ∈ lw_tbl ∧ (slR 12).1 = 0 ∧ ∃ (T : u_T) (N : Nat), vwCl[12]? = some (mX12_byteAt.1.cls, T, N) := ⟨lw_in8 _ (List.mem_of_getElem? (i := 74) (by decide +kernel)), lw_in0 _ (List.mem_of_getElem? (i := 66) (by decide +kernel)), rfl, _, _, rfl⟩
abbrev mX12_isLetter : slMt := (yX12_isLetter, cX12_isLetter, 1, (some .boolean))
theorem ms_X12_isLetter : slMs mX12_isLetter 1 := ⟨lw_in1 _ (List.mem_of_getElem? (i := 13) (by decide +kernel)), lw_in8 _ (List.mem_of_getElem? (i := 78) (by decide +kernel)), by decide +kernel, by decide⟩
theorem mt_X12_isLetter : Cond.static mX12_isLetter.1 ∈ lw_tbl := lw_in8 _ (List.mem_of_getElem? (i := 77) (by decide +kernel))
abbrev mX12_isDigit : slMt := (yX12_isDigit, cX12_isDigit, 1, (some .boolean))
theorem ms_X12_isDigit : slMs mX12_isDigit 1 := ⟨lw_in1 _ (List.mem_of_getElem? (i := 13) (by decide +kernel)), lw_in8 _ (List.mem_of_getElem? (i := 81) (by decide +kernel)), by decide +kernel, by decide⟩
theorem mt_X12_isDigit : Cond.static mX12_isDigit.1 ∈ lw_tbl := lw_in8 _ (List.mem_of_getElem? (i := 80) (by decide +kernel))
abbrev mX12_goes : slMt := (yX12_goes, cX12_goes, 2, none)
theorem ms_X12_goes : slMs mX12_goes 0 := ⟨lw_in1 _ (List.mem_of_getElem? (i := 13) (by decide +kernel)), lw_in8 _ (List.mem_of_getElem? (i := 71) (by decide +kernel)), by decide +kernel, by decide⟩
theorem mv_X12_goes : Cond.instanceMethod mX12_goes.1 ∈ lw_tbl ∧ Cond.selects mX12_goes.1.cls mX12_goes.1 mX12_goes.1 ∈ lw_tbl ∧ (slR 12).1 = 0 ∧ ∃ (T : u_T) (N : Nat), vwCl[12]? = some (mX12_goes.1.cls, T, N) := ⟨lw_in8 _ (List.mem_of_getElem? (i := 70) (by decide +kernel)), lw_in0 _ (List.mem_of_getElem? (i := 65) (by decide +kernel)), rfl, _, _, rfl⟩
abbrev mX12_spelled : slMt := (yX12_spelled, cX12_spelled, 8, (some .long))
theorem ms_X12_spelled : slMs mX12_spelled 6 := ⟨lw_in1 _ (List.mem_of_getElem? (i := 13) (by decide +kernel)), lw_in8 _ (List.mem_of_getElem? (i := 91) (by decide +kernel)), by decide +kernel, by decide⟩
theorem mt_X12_spelled : Cond.static mX12_spelled.1 ∈ lw_tbl := lw_in8 _ (List.mem_of_getElem? (i := 90) (by decide +kernel))
abbrev mX12_letters : slMt := (yX12_letters, cX12_letters, 1, (some .long))
theorem ms_X12_letters : slMs mX12_letters 1 := ⟨lw_in1 _ (List.mem_of_getElem? (i := 13) (by decide +kernel)), lw_in8 _ (List.mem_of_getElem? (i := 88) (by decide +kernel)), by decide +kernel, by decide⟩
theorem mt_X12_letters : Cond.static mX12_letters.1 ∈ lw_tbl := lw_in8 _ (List.mem_of_getElem? (i := 87) (by decide +kernel))
abbrev mX12_knownWord : slMt := (yX12_knownWord, cX12_knownWord, 2, (some .int))
theorem ms_X12_knownWord : slMs mX12_knownWord 0 := ⟨lw_in1 _ (List.mem_of_getElem? (i := 13) (by decide +kernel)), lw_in8 _ (List.mem_of_getElem? (i := 85) (by decide +kernel)), by decide +kernel, by decide⟩
theorem mv_X12_knownWord : Cond.instanceMethod mX12_knownWord.1 ∈ lw_tbl ∧ Cond.selects mX12_knownWord.1.cls mX12_knownWord.1 mX12_knownWord.1 ∈ lw_tbl ∧ (slR 12).1 = 0 ∧ ∃ (T : u_T) (N : Nat), vwCl[12]? = some (mX12_knownWord.1.cls, T, N) := ⟨lw_in8 _ (List.mem_of_getElem? (i := 84) (by decide +kernel)), lw_in0 _ (List.mem_of_getElem? (i := 67) (by decide +kernel)), rfl, _, _, rfl⟩
abbrev mX12_wrong : slMt := (yX12_wrong, cX12_wrong, 2, none)
theorem ms_X12_wrong : slMs mX12_wrong 1 := ⟨lw_in1 _ (List.mem_of_getElem? (i := 13) (by decide +kernel)), lw_in8 _ (List.mem_of_getElem? (i := 108) (by decide +kernel)), by decide +kernel, by decide⟩
theorem mv_X12_wrong : Cond.instanceMethod mX12_wrong.1 ∈ lw_tbl ∧ Cond.selects mX12_wrong.1.cls mX12_wrong.1 mX12_wrong.1 ∈ lw_tbl ∧ (slR 12).1 = 0 ∧ ∃ (T : u_T) (N : Nat), vwCl[12]? = some (mX12_wrong.1.cls, T, N) := ⟨lw_in8 _ (List.mem_of_getElem? (i := 107) (by decide +kernel)), lw_in0 _ (List.mem_of_getElem? (i := 71) (by decide +kernel)), rfl, _, _, rfl⟩
abbrev mX12_isGood : slMt := (yX12_isGood, cX12_isGood, 1, (some .boolean))
theorem ms_X12_isGood : slMs mX12_isGood 0 := ⟨lw_in1 _ (List.mem_of_getElem? (i := 13) (by decide +kernel)), lw_in8 _ (List.mem_of_getElem? (i := 104) (by decide +kernel)), by decide +kernel, by decide⟩
theorem mv_X12_isGood : Cond.instanceMethod mX12_isGood.1 ∈ lw_tbl ∧ Cond.selects mX12_isGood.1.cls mX12_isGood.1 mX12_isGood.1 ∈ lw_tbl ∧ (slR 12).1 = 0 ∧ ∃ (T : u_T) (N : Nat), vwCl[12]? = some (mX12_isGood.1.cls, T, N) := ⟨lw_in8 _ (List.mem_of_getElem? (i := 103) (by decide +kernel)), lw_in0 _ (List.mem_of_getElem? (i := 70) (by decide +kernel)), rfl, _, _, rfl⟩
abbrev mX12_isSign : slMt := (yX12_isSign, cX12_isSign, 2, (some .boolean))
theorem ms_X12_isSign : slMs mX12_isSign 1 := ⟨lw_in1 _ (List.mem_of_getElem? (i := 13) (by decide +kernel)), lw_in8 _ (List.mem_of_getElem? (i := 112) (by decide +kernel)), by decide +kernel, by decide⟩
theorem mv_X12_isSign : Cond.instanceMethod mX12_isSign.1 ∈ lw_tbl ∧ Cond.selects mX12_isSign.1.cls mX12_isSign.1 mX12_isSign.1 ∈ lw_tbl ∧ (slR 12).1 = 0 ∧ ∃ (T : u_T) (N : Nat), vwCl[12]? = some (mX12_isSign.1.cls, T, N) := ⟨lw_in8 _ (List.mem_of_getElem? (i := 111) (by decide +kernel)), lw_in0 _ (List.mem_of_getElem? (i := 72) (by decide +kernel)), rfl, _, _, rfl⟩
abbrev mX12_need : slMt := (yX12_need, cX12_need, 2, none)
theorem ms_X12_need : slMs mX12_need 1 := ⟨lw_in1 _ (List.mem_of_getElem? (i := 13) (by decide +kernel)), lw_in8 _ (List.mem_of_getElem? (i := 116) (by decide +kernel)), by decide +kernel, by decide⟩
theorem mv_X12_need : Cond.instanceMethod mX12_need.1 ∈ lw_tbl ∧ Cond.selects mX12_need.1.cls mX12_need.1 mX12_need.1 ∈ lw_tbl ∧ (slR 12).1 = 0 ∧ ∃ (T : u_T) (N : Nat), vwCl[12]? = some (mX12_need.1.cls, T, N) := ⟨lw_in8 _ (List.mem_of_getElem? (i := 115) (by decide +kernel)), lw_in0 _ (List.mem_of_getElem? (i := 73) (by decide +kernel)), rfl, _, _, rfl⟩
abbrev mX12_numberHere : slMt := (yX12_numberHere, cX12_numberHere, 3, (some .boolean))
theorem ms_X12_numberHere : slMs mX12_numberHere 2 := ⟨lw_in1 _ (List.mem_of_getElem? (i := 13) (by decide +kernel)), lw_in8 _ (List.mem_of_getElem? (i := 100) (by decide +kernel)), by decide +kernel, by decide⟩
theorem mv_X12_numberHere : Cond.instanceMethod mX12_numberHere.1 ∈ lw_tbl ∧ Cond.selects mX12_numberHere.1.cls mX12_numberHere.1 mX12_numberHere.1 ∈ lw_tbl ∧ (slR 12).1 = 0 ∧ ∃ (T : u_T) (N : Nat), vwCl[12]? = some (mX12_numberHere.1.cls, T, N) := ⟨lw_in8 _ (List.mem_of_getElem? (i := 99) (by decide +kernel)), lw_in0 _ (List.mem_of_getElem? (i := 69) (by decide +kernel)), rfl, _, _, rfl⟩
abbrev mX12_number : slMt := (yX12_number, cX12_number, 4, (some .int))
theorem ms_X12_number : slMs mX12_number 2 := ⟨lw_in1 _ (List.mem_of_getElem? (i := 13) (by decide +kernel)), lw_in8 _ (List.mem_of_getElem? (i := 96) (by decide +kernel)), by decide +kernel, by decide⟩
theorem mv_X12_number : Cond.instanceMethod mX12_number.1 ∈ lw_tbl ∧ Cond.selects mX12_number.1.cls mX12_number.1 mX12_number.1 ∈ lw_tbl ∧ (slR 12).1 = 0 ∧ ∃ (T : u_T) (N : Nat), vwCl[12]? = some (mX12_number.1.cls, T, N) := ⟨lw_in8 _ (List.mem_of_getElem? (i := 95) (by decide +kernel)), lw_in0 _ (List.mem_of_getElem? (i := 68) (by decide +kernel)), rfl, _, _, rfl⟩
abbrev mX12_puts : slMt := (yX12_puts, cX12_puts, 2, none)
theorem ms_X12_puts : slMs mX12_puts 1 := ⟨lw_in1 _ (List.mem_of_getElem? (i := 13) (by decide +kernel)), lw_in8 _ (List.mem_of_getElem? (i := 166) (by decide +kernel)), by decide +kernel, by decide⟩
theorem mv_X12_puts : Cond.instanceMethod mX12_puts.1 ∈ lw_tbl ∧ Cond.selects mX12_puts.1.cls mX12_puts.1 mX12_puts.1 ∈ lw_tbl ∧ (slR 12).1 = 0 ∧ ∃ (T : u_T) (N : Nat), vwCl[12]? = some (mX12_puts.1.cls, T, N) := ⟨lw_in8 _ (List.mem_of_getElem? (i := 165) (by decide +kernel)), lw_in0 _ (List.mem_of_getElem? (i := 84) (by decide +kernel)), rfl, _, _, rfl⟩
abbrev mX12_isOpen : slMt := (yX12_isOpen, cX12_isOpen, 1, (some .boolean))
theorem ms_X12_isOpen : slMs mX12_isOpen 1 := ⟨lw_in1 _ (List.mem_of_getElem? (i := 13) (by decide +kernel)), lw_in8 _ (List.mem_of_getElem? (i := 173) (by decide +kernel)), by decide +kernel, by decide⟩
theorem mt_X12_isOpen : Cond.static mX12_isOpen.1 ∈ lw_tbl := lw_in8 _ (List.mem_of_getElem? (i := 172) (by decide +kernel))
abbrev mX12_strength : slMt := (yX12_strength, cX12_strength, 1, (some .int))
theorem ms_X12_strength : slMs mX12_strength 1 := ⟨lw_in1 _ (List.mem_of_getElem? (i := 13) (by decide +kernel)), lw_in8 _ (List.mem_of_getElem? (i := 176) (by decide +kernel)), by decide +kernel, by decide⟩
theorem mt_X12_strength : Cond.static mX12_strength.1 ∈ lw_tbl := lw_in8 _ (List.mem_of_getElem? (i := 175) (by decide +kernel))
abbrev mX12_drops : slMt := (yX12_drops, cX12_drops, 2, none)
theorem ms_X12_drops : slMs mX12_drops 1 := ⟨lw_in1 _ (List.mem_of_getElem? (i := 13) (by decide +kernel)), lw_in8 _ (List.mem_of_getElem? (i := 170) (by decide +kernel)), by decide +kernel, by decide⟩
theorem mv_X12_drops : Cond.instanceMethod mX12_drops.1 ∈ lw_tbl ∧ Cond.selects mX12_drops.1.cls mX12_drops.1 mX12_drops.1 ∈ lw_tbl ∧ (slR 12).1 = 0 ∧ ∃ (T : u_T) (N : Nat), vwCl[12]? = some (mX12_drops.1.cls, T, N) := ⟨lw_in8 _ (List.mem_of_getElem? (i := 169) (by decide +kernel)), lw_in0 _ (List.mem_of_getElem? (i := 85) (by decide +kernel)), rfl, _, _, rfl⟩
abbrev mX12_waitsFor : slMt := (yX12_waitsFor, cX12_waitsFor, 2, none)
theorem ms_X12_waitsFor : slMs mX12_waitsFor 1 := ⟨lw_in1 _ (List.mem_of_getElem? (i := 13) (by decide +kernel)), lw_in8 _ (List.mem_of_getElem? (i := 158) (by decide +kernel)), by decide +kernel, by decide⟩
theorem mv_X12_waitsFor : Cond.instanceMethod mX12_waitsFor.1 ∈ lw_tbl ∧ Cond.selects mX12_waitsFor.1.cls mX12_waitsFor.1 mX12_waitsFor.1 ∈ lw_tbl ∧ (slR 12).1 = 0 ∧ ∃ (T : u_T) (N : Nat), vwCl[12]? = some (mX12_waitsFor.1.cls, T, N) := ⟨lw_in8 _ (List.mem_of_getElem? (i := 157) (by decide +kernel)), lw_in0 _ (List.mem_of_getElem? (i := 82) (by decide +kernel)), rfl, _, _, rfl⟩
abbrev mX12_part : slMt := (yX12_part, cX12_part, 2, none)
theorem ms_X12_part : slMs mX12_part 0 := ⟨lw_in1 _ (List.mem_of_getElem? (i := 13) (by decide +kernel)), lw_in8 _ (List.mem_of_getElem? (i := 162) (by decide +kernel)), by decide +kernel, by decide⟩
theorem mv_X12_part : Cond.instanceMethod mX12_part.1 ∈ lw_tbl ∧ Cond.selects mX12_part.1.cls mX12_part.1 mX12_part.1 ∈ lw_tbl ∧ (slR 12).1 = 0 ∧ ∃ (T : u_T) (N : Nat), vwCl[12]? = some (mX12_part.1.cls, T, N) := ⟨lw_in8 _ (List.mem_of_getElem? (i := 161) (by decide +kernel)), lw_in0 _ (List.mem_of_getElem? (i := 83) (by decide +kernel)), rfl, _, _, rfl⟩
abbrev mX12_deeper : slMt := (yX12_deeper, cX12_deeper, 1, none)
theorem ms_X12_deeper : slMs mX12_deeper 0 := ⟨lw_in1 _ (List.mem_of_getElem? (i := 13) (by decide +kernel)), lw_in8 _ (List.mem_of_getElem? (i := 150) (by decide +kernel)), by decide +kernel, by decide⟩
theorem mv_X12_deeper : Cond.instanceMethod mX12_deeper.1 ∈ lw_tbl ∧ Cond.selects mX12_deeper.1.cls mX12_deeper.1 mX12_deeper.1 ∈ lw_tbl ∧ (slR 12).1 = 0 ∧ ∃ (T : u_T) (N : Nat), vwCl[12]? = some (mX12_deeper.1.cls, T, N) := ⟨lw_in8 _ (List.mem_of_getElem? (i := 149) (by decide +kernel)), lw_in0 _ (List.mem_of_getElem? (i := 80) (by decide +kernel)), rfl, _, _, rfl⟩
abbrev mX12_operand : slMt := (yX12_operand, cX12_operand, 5, none)
theorem ms_X12_operand : slMs mX12_operand 1 := ⟨lw_in1 _ (List.mem_of_getElem? (i := 13) (by decide +kernel)), lw_in8 _ (List.mem_of_getElem? (i := 154) (by decide +kernel)), by decide +kernel, by decide⟩
theorem mv_X12_operand : Cond.instanceMethod mX12_operand.1 ∈ lw_tbl ∧ Cond.selects mX12_operand.1.cls mX12_operand.1 mX12_operand.1 ∈ lw_tbl ∧ (slR 12).1 = 0 ∧ ∃ (T : u_T) (N : Nat), vwCl[12]? = some (mX12_operand.1.cls, T, N) := ⟨lw_in8 _ (List.mem_of_getElem? (i := 153) (by decide +kernel)), lw_in0 _ (List.mem_of_getElem? (i := 81) (by decide +kernel)), rfl, _, _, rfl⟩
abbrev mX12_isOpened : slMt := (yX12_isOpened, cX12_isOpened, 2, (some .boolean))
theorem ms_X12_isOpened : slMs mX12_isOpened 0 := ⟨lw_in1 _ (List.mem_of_getElem? (i := 13) (by decide +kernel)), lw_in8 _ (List.mem_of_getElem? (i := 180) (by decide +kernel)), by decide +kernel, by decide⟩
theorem mv_X12_isOpened : Cond.instanceMethod mX12_isOpened.1 ∈ lw_tbl ∧ Cond.selects mX12_isOpened.1.cls mX12_isOpened.1 mX12_isOpened.1 ∈ lw_tbl ∧ (slR 12).1 = 0 ∧ ∃ (T : u_T) (N : Nat), vwCl[12]? = some (mX12_isOpened.1.cls, T, N) := ⟨lw_in8 _ (List.mem_of_getElem? (i := 179) (by decide +kernel)), lw_in0 _ (List.mem_of_getElem? (i := 86) (by decide +kernel)), rfl, _, _, rfl⟩
abbrev mX12_closes : slMt := (yX12_closes, cX12_closes, 1, none)
theorem ms_X12_closes : slMs mX12_closes 0 := ⟨lw_in1 _ (List.mem_of_getElem? (i := 13) (by decide +kernel)), lw_in8 _ (List.mem_of_getElem? (i := 184) (by decide +kernel)), by decide +kernel, by decide⟩
theorem mv_X12_closes : Cond.instanceMethod mX12_closes.1 ∈ lw_tbl ∧ Cond.selects mX12_closes.1.cls mX12_closes.1 mX12_closes.1 ∈ lw_tbl ∧ (slR 12).1 = 0 ∧ ∃ (T : u_T) (N : Nat), vwCl[12]? = some (mX12_closes.1.cls, T, N) := ⟨lw_in8 _ (List.mem_of_getElem? (i := 183) (by decide +kernel)), lw_in0 _ (List.mem_of_getElem? (i := 87) (by decide +kernel)), rfl, _, _, rfl⟩
abbrev mX12_expression : slMt := (yX12_expression, cX12_expression, 3, none)
theorem ms_X12_expression : slMs mX12_expression 0 := ⟨lw_in1 _ (List.mem_of_getElem? (i := 13) (by decide +kernel)), lw_in8 _ (List.mem_of_getElem? (i := 146) (by decide +kernel)), by decide +kernel, by decide⟩
theorem mv_X12_expression : Cond.instanceMethod mX12_expression.1 ∈ lw_tbl ∧ Cond.selects mX12_expression.1.cls mX12_expression.1 mX12_expression.1 ∈ lw_tbl ∧ (slR 12).1 = 0 ∧ ∃ (T : u_T) (N : Nat), vwCl[12]? = some (mX12_expression.1.cls, T, N) := ⟨lw_in8 _ (List.mem_of_getElem? (i := 145) (by decide +kernel)), lw_in0 _ (List.mem_of_getElem? (i := 79) (by decide +kernel)), rfl, _, _, rfl⟩
abbrev mX12_cellNext : slMt := (yX12_cellNext, cX12_cellNext, 4, (some .int))
theorem ms_X12_cellNext : slMs mX12_cellNext 1 := ⟨lw_in1 _ (List.mem_of_getElem? (i := 13) (by decide +kernel)), lw_in8 _ (List.mem_of_getElem? (i := 124) (by decide +kernel)), by decide +kernel, by decide⟩
theorem mv_X12_cellNext : Cond.instanceMethod mX12_cellNext.1 ∈ lw_tbl ∧ Cond.selects mX12_cellNext.1.cls mX12_cellNext.1 mX12_cellNext.1 ∈ lw_tbl ∧ (slR 12).1 = 0 ∧ ∃ (T : u_T) (N : Nat), vwCl[12]? = some (mX12_cellNext.1.cls, T, N) := ⟨lw_in8 _ (List.mem_of_getElem? (i := 123) (by decide +kernel)), lw_in0 _ (List.mem_of_getElem? (i := 75) (by decide +kernel)), rfl, _, _, rfl⟩
abbrev mX12_stepOf : slMt := (yX12_stepOf, cX12_stepOf, 1, (some .int))
theorem ms_X12_stepOf : slMs mX12_stepOf 1 := ⟨lw_in1 _ (List.mem_of_getElem? (i := 13) (by decide +kernel)), lw_in8 _ (List.mem_of_getElem? (i := 135) (by decide +kernel)), by decide +kernel, by decide⟩
theorem mt_X12_stepOf : Cond.static mX12_stepOf.1 ∈ lw_tbl := lw_in8 _ (List.mem_of_getElem? (i := 134) (by decide +kernel))
abbrev mX12_flashOf : slMt := (yX12_flashOf, cX12_flashOf, 1, (some .int))
theorem ms_X12_flashOf : slMs mX12_flashOf 1 := ⟨lw_in1 _ (List.mem_of_getElem? (i := 13) (by decide +kernel)), lw_in8 _ (List.mem_of_getElem? (i := 138) (by decide +kernel)), by decide +kernel, by decide⟩
theorem mt_X12_flashOf : Cond.static mX12_flashOf.1 ∈ lw_tbl := lw_in8 _ (List.mem_of_getElem? (i := 137) (by decide +kernel))
abbrev mX12_rowNext : slMt := (yX12_rowNext, cX12_rowNext, 6, (some .int))
theorem ms_X12_rowNext : slMs mX12_rowNext 4 := ⟨lw_in1 _ (List.mem_of_getElem? (i := 13) (by decide +kernel)), lw_in8 _ (List.mem_of_getElem? (i := 132) (by decide +kernel)), by decide +kernel, by decide⟩
theorem mv_X12_rowNext : Cond.instanceMethod mX12_rowNext.1 ∈ lw_tbl ∧ Cond.selects mX12_rowNext.1.cls mX12_rowNext.1 mX12_rowNext.1 ∈ lw_tbl ∧ (slR 12).1 = 0 ∧ ∃ (T : u_T) (N : Nat), vwCl[12]? = some (mX12_rowNext.1.cls, T, N) := ⟨lw_in8 _ (List.mem_of_getElem? (i := 131) (by decide +kernel)), lw_in0 _ (List.mem_of_getElem? (i := 77) (by decide +kernel)), rfl, _, _, rfl⟩
abbrev mX12_readsLight : slMt := (yX12_readsLight, cX12_readsLight, 3, none)
theorem ms_X12_readsLight : slMs mX12_readsLight 0 := ⟨lw_in1 _ (List.mem_of_getElem? (i := 13) (by decide +kernel)), lw_in8 _ (List.mem_of_getElem? (i := 128) (by decide +kernel)), by decide +kernel, by decide⟩
theorem mv_X12_readsLight : Cond.instanceMethod mX12_readsLight.1 ∈ lw_tbl ∧ Cond.selects mX12_readsLight.1.cls mX12_readsLight.1 mX12_readsLight.1 ∈ lw_tbl ∧ (slR 12).1 = 0 ∧ ∃ (T : u_T) (N : Nat), vwCl[12]? = some (mX12_readsLight.1.cls, T, N) := ⟨lw_in8 _ (List.mem_of_getElem? (i := 127) (by decide +kernel)), lw_in0 _ (List.mem_of_getElem? (i := 76) (by decide +kernel)), rfl, _, _, rfl⟩
abbrev mX12_readsFogs : slMt := (yX12_readsFogs, cX12_readsFogs, 3, none)
theorem ms_X12_readsFogs : slMs mX12_readsFogs 0 := ⟨lw_in1 _ (List.mem_of_getElem? (i := 13) (by decide +kernel)), lw_in8 _ (List.mem_of_getElem? (i := 142) (by decide +kernel)), by decide +kernel, by decide⟩
theorem mv_X12_readsFogs : Cond.instanceMethod mX12_readsFogs.1 ∈ lw_tbl ∧ Cond.selects mX12_readsFogs.1.cls mX12_readsFogs.1 mX12_readsFogs.1 ∈ lw_tbl ∧ (slR 12).1 = 0 ∧ ∃ (T : u_T) (N : Nat), vwCl[12]? = some (mX12_readsFogs.1.cls, T, N) := ⟨lw_in8 _ (List.mem_of_getElem? (i := 141) (by decide +kernel)), lw_in0 _ (List.mem_of_getElem? (i := 78) (by decide +kernel)), rfl, _, _, rfl⟩
abbrev mX12_line : slMt := (yX12_line, cX12_line, 3, none)
theorem ms_X12_line : slMs mX12_line 0 := ⟨lw_in1 _ (List.mem_of_getElem? (i := 13) (by decide +kernel)), lw_in8 _ (List.mem_of_getElem? (i := 120) (by decide +kernel)), by decide +kernel, by decide⟩
theorem mv_X12_line : Cond.instanceMethod mX12_line.1 ∈ lw_tbl ∧ Cond.selects mX12_line.1.cls mX12_line.1 mX12_line.1 ∈ lw_tbl ∧ (slR 12).1 = 0 ∧ ∃ (T : u_T) (N : Nat), vwCl[12]? = some (mX12_line.1.cls, T, N) := ⟨lw_in8 _ (List.mem_of_getElem? (i := 119) (by decide +kernel)), lw_in0 _ (List.mem_of_getElem? (i := 74) (by decide +kernel)), rfl, _, _, rfl⟩
abbrev mX12_coast : slMt := (yX12_coast, cX12_coast, 3, (some .int))
theorem ms_X12_coast : slMs mX12_coast 1 := ⟨lw_in1 _ (List.mem_of_getElem? (i := 13) (by decide +kernel)), lw_in8 _ (List.mem_of_getElem? (i := 63) (by decide +kernel)), by decide +kernel, by decide⟩
theorem mv_X12_coast : Cond.instanceMethod mX12_coast.1 ∈ lw_tbl ∧ Cond.selects mX12_coast.1.cls mX12_coast.1 mX12_coast.1 ∈ lw_tbl ∧ (slR 12).1 = 0 ∧ ∃ (T : u_T) (N : Nat), vwCl[12]? = some (mX12_coast.1.cls, T, N) := ⟨lw_in8 _ (List.mem_of_getElem? (i := 61) (by decide +kernel)), lw_in8 _ (List.mem_of_getElem? (i := 62) (by decide +kernel)), rfl, _, _, rfl⟩
abbrev mX12_fault : slMt := (yX12_fault, cX12_fault, 1, (some .int))
theorem ms_X12_fault : slMs mX12_fault 0 := ⟨lw_in1 _ (List.mem_of_getElem? (i := 13) (by decide +kernel)), lw_in8 _ (List.mem_of_getElem? (i := 192) (by decide +kernel)), by decide +kernel, by decide⟩
theorem mv_X12_fault : Cond.instanceMethod mX12_fault.1 ∈ lw_tbl ∧ Cond.selects mX12_fault.1.cls mX12_fault.1 mX12_fault.1 ∈ lw_tbl ∧ (slR 12).1 = 0 ∧ ∃ (T : u_T) (N : Nat), vwCl[12]? = some (mX12_fault.1.cls, T, N) := ⟨lw_in8 _ (List.mem_of_getElem? (i := 190) (by decide +kernel)), lw_in8 _ (List.mem_of_getElem? (i := 191) (by decide +kernel)), rfl, _, _, rfl⟩
abbrev mX12_refuses : slMt := (yX12_refuses, cX12_refuses, 2, (some .int))
theorem ms_X12_refuses : slMs mX12_refuses 1 := ⟨lw_in1 _ (List.mem_of_getElem? (i := 13) (by decide +kernel)), lw_in9 _ (List.mem_of_getElem? (i := 109) (by decide +kernel)), by decide +kernel, by decide⟩
theorem mv_X12_refuses : Cond.instanceMethod mX12_refuses.1 ∈ lw_tbl ∧ Cond.selects mX12_refuses.1.cls mX12_refuses.1 mX12_refuses.1 ∈ lw_tbl ∧ (slR 12).1 = 0 ∧ ∃ (T : u_T) (N : Nat), vwCl[12]? = some (mX12_refuses.1.cls, T, N) := ⟨lw_in9 _ (List.mem_of_getElem? (i := 108) (by decide +kernel)), lw_in0 _ (List.mem_of_getElem? (i := 114) (by decide +kernel)), rfl, _, _, rfl⟩
abbrev mX12_becomes : slMt := (yX12_becomes, cX12_becomes, 4, (some .int))
theorem ms_X12_becomes : slMs mX12_becomes 2 := ⟨lw_in1 _ (List.mem_of_getElem? (i := 13) (by decide +kernel)), lw_in9 _ (List.mem_of_getElem? (i := 105) (by decide +kernel)), by decide +kernel, by decide⟩
theorem mv_X12_becomes : Cond.instanceMethod mX12_becomes.1 ∈ lw_tbl ∧ Cond.selects mX12_becomes.1.cls mX12_becomes.1 mX12_becomes.1 ∈ lw_tbl ∧ (slR 12).1 = 0 ∧ ∃ (T : u_T) (N : Nat), vwCl[12]? = some (mX12_becomes.1.cls, T, N) := ⟨lw_in9 _ (List.mem_of_getElem? (i := 104) (by decide +kernel)), lw_in0 _ (List.mem_of_getElem? (i := 113) (by decide +kernel)), rfl, _, _, rfl⟩
abbrev mX12_undo : slMt := (yX12_undo, cX12_undo, 1, (some .int))
theorem ms_X12_undo : slMs mX12_undo 0 := ⟨lw_in1 _ (List.mem_of_getElem? (i := 13) (by decide +kernel)), lw_in8 _ (List.mem_of_getElem? (i := 196) (by decide +kernel)), by decide +kernel, by decide⟩
theorem mv_X12_undo : Cond.instanceMethod mX12_undo.1 ∈ lw_tbl ∧ Cond.selects mX12_undo.1.cls mX12_undo.1 mX12_undo.1 ∈ lw_tbl ∧ (slR 12).1 = 0 ∧ ∃ (T : u_T) (N : Nat), vwCl[12]? = some (mX12_undo.1.cls, T, N) := ⟨lw_in8 _ (List.mem_of_getElem? (i := 194) (by decide +kernel)), lw_in8 _ (List.mem_of_getElem? (i := 195) (by decide +kernel)), rfl, _, _, rfl⟩
abbrev mX12_works : slMt := (yX12_works, cX12_works, 3, (some .int))
theorem ms_X12_works : slMs mX12_works 3 := ⟨lw_in1 _ (List.mem_of_getElem? (i := 13) (by decide +kernel)), lw_in9 _ (List.mem_of_getElem? (i := 10) (by decide +kernel)), by decide +kernel, by decide⟩
theorem mt_X12_works : Cond.static mX12_works.1 ∈ lw_tbl := lw_in9 _ (List.mem_of_getElem? (i := 9) (by decide +kernel))
abbrev mX12_reckons : slMt := (yX12_reckons, cX12_reckons, 5, (some .int))
theorem ms_X12_reckons : slMs mX12_reckons 1 := ⟨lw_in1 _ (List.mem_of_getElem? (i := 13) (by decide +kernel)), lw_in9 _ (List.mem_of_getElem? (i := 7) (by decide +kernel)), by decide +kernel, by decide⟩
theorem mv_X12_reckons : Cond.instanceMethod mX12_reckons.1 ∈ lw_tbl ∧ Cond.selects mX12_reckons.1.cls mX12_reckons.1 mX12_reckons.1 ∈ lw_tbl ∧ (slR 12).1 = 0 ∧ ∃ (T : u_T) (N : Nat), vwCl[12]? = some (mX12_reckons.1.cls, T, N) := ⟨lw_in9 _ (List.mem_of_getElem? (i := 6) (by decide +kernel)), lw_in0 _ (List.mem_of_getElem? (i := 97) (by decide +kernel)), rfl, _, _, rfl⟩
abbrev mX12_cells : slMt := (yX12_cells, cX12_cells, 1, (some .int))
theorem ms_X12_cells : slMs mX12_cells 0 := ⟨lw_in1 _ (List.mem_of_getElem? (i := 13) (by decide +kernel)), lw_in9 _ (List.mem_of_getElem? (i := 121) (by decide +kernel)), by decide +kernel, by decide⟩
theorem mv_X12_cells : Cond.instanceMethod mX12_cells.1 ∈ lw_tbl ∧ Cond.selects mX12_cells.1.cls mX12_cells.1 mX12_cells.1 ∈ lw_tbl ∧ (slR 12).1 = 0 ∧ ∃ (T : u_T) (N : Nat), vwCl[12]? = some (mX12_cells.1.cls, T, N) := ⟨lw_in9 _ (List.mem_of_getElem? (i := 120) (by decide +kernel)), lw_in0 _ (List.mem_of_getElem? (i := 116) (by decide +kernel)), rfl, _, _, rfl⟩
abbrev mX12_isLitIn : slMt := (yX12_isLitIn, cX12_isLitIn, 3, (some .boolean))
theorem ms_X12_isLitIn : slMs mX12_isLitIn 2 := ⟨lw_in1 _ (List.mem_of_getElem? (i := 13) (by decide +kernel)), lw_in8 _ (List.mem_of_getElem? (i := 235) (by decide +kernel)), by decide +kernel, by decide⟩
theorem mv_X12_isLitIn : Cond.instanceMethod mX12_isLitIn.1 ∈ lw_tbl ∧ Cond.selects mX12_isLitIn.1.cls mX12_isLitIn.1 mX12_isLitIn.1 ∈ lw_tbl ∧ (slR 12).1 = 0 ∧ ∃ (T : u_T) (N : Nat), vwCl[12]? = some (mX12_isLitIn.1.cls, T, N) := ⟨lw_in8 _ (List.mem_of_getElem? (i := 234) (by decide +kernel)), lw_in0 _ (List.mem_of_getElem? (i := 94) (by decide +kernel)), rfl, _, _, rfl⟩
abbrev mX12_leads : slMt := (yX12_leads, cX12_leads, 5, (some .int))
theorem ms_X12_leads : slMs mX12_leads 2 := ⟨lw_in1 _ (List.mem_of_getElem? (i := 13) (by decide +kernel)), lw_in9 _ (List.mem_of_getElem? (i := 18) (by decide +kernel)), by decide +kernel, by decide⟩
theorem mv_X12_leads : Cond.instanceMethod mX12_leads.1 ∈ lw_tbl ∧ Cond.selects mX12_leads.1.cls mX12_leads.1 mX12_leads.1 ∈ lw_tbl ∧ (slR 12).1 = 0 ∧ ∃ (T : u_T) (N : Nat), vwCl[12]? = some (mX12_leads.1.cls, T, N) := ⟨lw_in9 _ (List.mem_of_getElem? (i := 17) (by decide +kernel)), lw_in0 _ (List.mem_of_getElem? (i := 99) (by decide +kernel)), rfl, _, _, rfl⟩
abbrev mX12_yieldsBy : slMt := (yX12_yieldsBy, cX12_yieldsBy, 4, (some .int))
theorem ms_X12_yieldsBy : slMs mX12_yieldsBy 3 := ⟨lw_in1 _ (List.mem_of_getElem? (i := 13) (by decide +kernel)), lw_in9 _ (List.mem_of_getElem? (i := 3) (by decide +kernel)), by decide +kernel, by decide⟩
theorem mv_X12_yieldsBy : Cond.instanceMethod mX12_yieldsBy.1 ∈ lw_tbl ∧ Cond.selects mX12_yieldsBy.1.cls mX12_yieldsBy.1 mX12_yieldsBy.1 ∈ lw_tbl ∧ (slR 12).1 = 0 ∧ ∃ (T : u_T) (N : Nat), vwCl[12]? = some (mX12_yieldsBy.1.cls, T, N) := ⟨lw_in9 _ (List.mem_of_getElem? (i := 2) (by decide +kernel)), lw_in0 _ (List.mem_of_getElem? (i := 96) (by decide +kernel)), rfl, _, _, rfl⟩
abbrev mX12_steps : slMt := (yX12_steps, cX12_steps, 5, none)
theorem ms_X12_steps : slMs mX12_steps 2 := ⟨lw_in1 _ (List.mem_of_getElem? (i := 13) (by decide +kernel)), lw_in9 _ (List.mem_of_getElem? (i := 14) (by decide +kernel)), by decide +kernel, by decide⟩
theorem mv_X12_steps : Cond.instanceMethod mX12_steps.1 ∈ lw_tbl ∧ Cond.selects mX12_steps.1.cls mX12_steps.1 mX12_steps.1 ∈ lw_tbl ∧ (slR 12).1 = 0 ∧ ∃ (T : u_T) (N : Nat), vwCl[12]? = some (mX12_steps.1.cls, T, N) := ⟨lw_in9 _ (List.mem_of_getElem? (i := 13) (by decide +kernel)), lw_in0 _ (List.mem_of_getElem? (i := 98) (by decide +kernel)), rfl, _, _, rfl⟩
abbrev mX12_allStep : slMt := (yX12_allStep, cX12_allStep, 6, none)
theorem ms_X12_allStep : slMs mX12_allStep 2 := ⟨lw_in1 _ (List.mem_of_getElem? (i := 13) (by decide +kernel)), lw_in8 _ (List.mem_of_getElem? (i := 239) (by decide +kernel)), by decide +kernel, by decide⟩
theorem mv_X12_allStep : Cond.instanceMethod mX12_allStep.1 ∈ lw_tbl ∧ Cond.selects mX12_allStep.1.cls mX12_allStep.1 mX12_allStep.1 ∈ lw_tbl ∧ (slR 12).1 = 0 ∧ ∃ (T : u_T) (N : Nat), vwCl[12]? = some (mX12_allStep.1.cls, T, N) := ⟨lw_in8 _ (List.mem_of_getElem? (i := 238) (by decide +kernel)), lw_in0 _ (List.mem_of_getElem? (i := 95) (by decide +kernel)), rfl, _, _, rfl⟩
abbrev mX12_sails : slMt := (yX12_sails, cX12_sails, 5, none)
theorem ms_X12_sails : slMs mX12_sails 2 := ⟨lw_in1 _ (List.mem_of_getElem? (i := 13) (by decide +kernel)), lw_in8 _ (List.mem_of_getElem? (i := 231) (by decide +kernel)), by decide +kernel, by decide⟩
theorem mv_X12_sails : Cond.instanceMethod mX12_sails.1 ∈ lw_tbl ∧ Cond.selects mX12_sails.1.cls mX12_sails.1 mX12_sails.1 ∈ lw_tbl ∧ (slR 12).1 = 0 ∧ ∃ (T : u_T) (N : Nat), vwCl[12]? = some (mX12_sails.1.cls, T, N) := ⟨lw_in8 _ (List.mem_of_getElem? (i := 230) (by decide +kernel)), lw_in0 _ (List.mem_of_getElem? (i := 93) (by decide +kernel)), rfl, _, _, rfl⟩
abbrev mX12_sailsNow : slMt := (yX12_sailsNow, cX12_sailsNow, 1, none)
theorem ms_X12_sailsNow : slMs mX12_sailsNow 0 := ⟨lw_in1 _ (List.mem_of_getElem? (i := 13) (by decide +kernel)), lw_in8 _ (List.mem_of_getElem? (i := 227) (by decide +kernel)), by decide +kernel, by decide⟩
theorem mv_X12_sailsNow : Cond.instanceMethod mX12_sailsNow.1 ∈ lw_tbl ∧ Cond.selects mX12_sailsNow.1.cls mX12_sailsNow.1 mX12_sailsNow.1 ∈ lw_tbl ∧ (slR 12).1 = 0 ∧ ∃ (T : u_T) (N : Nat), vwCl[12]? = some (mX12_sailsNow.1.cls, T, N) := ⟨lw_in8 _ (List.mem_of_getElem? (i := 226) (by decide +kernel)), lw_in0 _ (List.mem_of_getElem? (i := 92) (by decide +kernel)), rfl, _, _, rfl⟩
abbrev mX12_farOf : slMt := (yX12_farOf, cX12_farOf, 5, (some .int))
theorem ms_X12_farOf : slMs mX12_farOf 2 := ⟨lw_in1 _ (List.mem_of_getElem? (i := 13) (by decide +kernel)), lw_in9 _ (List.mem_of_getElem? (i := 46) (by decide +kernel)), by decide +kernel, by decide⟩
theorem mv_X12_farOf : Cond.instanceMethod mX12_farOf.1 ∈ lw_tbl ∧ Cond.selects mX12_farOf.1.cls mX12_farOf.1 mX12_farOf.1 ∈ lw_tbl ∧ (slR 12).1 = 0 ∧ ∃ (T : u_T) (N : Nat), vwCl[12]? = some (mX12_farOf.1.cls, T, N) := ⟨lw_in9 _ (List.mem_of_getElem? (i := 45) (by decide +kernel)), lw_in0 _ (List.mem_of_getElem? (i := 106) (by decide +kernel)), rfl, _, _, rfl⟩
abbrev mX12_isHidden : slMt := (yX12_isHidden, cX12_isHidden, 9, (some .boolean))
theorem ms_X12_isHidden : slMs mX12_isHidden 2 := ⟨lw_in1 _ (List.mem_of_getElem? (i := 13) (by decide +kernel)), lw_in9 _ (List.mem_of_getElem? (i := 53) (by decide +kernel)), by decide +kernel, by decide⟩
theorem mv_X12_isHidden : Cond.instanceMethod mX12_isHidden.1 ∈ lw_tbl ∧ Cond.selects mX12_isHidden.1.cls mX12_isHidden.1 mX12_isHidden.1 ∈ lw_tbl ∧ (slR 12).1 = 0 ∧ ∃ (T : u_T) (N : Nat), vwCl[12]? = some (mX12_isHidden.1.cls, T, N) := ⟨lw_in9 _ (List.mem_of_getElem? (i := 52) (by decide +kernel)), lw_in0 _ (List.mem_of_getElem? (i := 107) (by decide +kernel)), rfl, _, _, rfl⟩
abbrev mX12_fogIn : slMt := (yX12_fogIn, cX12_fogIn, 2, (some .int))
theorem ms_X12_fogIn : slMs mX12_fogIn 1 := ⟨lw_in1 _ (List.mem_of_getElem? (i := 13) (by decide +kernel)), lw_in9 _ (List.mem_of_getElem? (i := 30) (by decide +kernel)), by decide +kernel, by decide⟩
theorem mv_X12_fogIn : Cond.instanceMethod mX12_fogIn.1 ∈ lw_tbl ∧ Cond.selects mX12_fogIn.1.cls mX12_fogIn.1 mX12_fogIn.1 ∈ lw_tbl ∧ (slR 12).1 = 0 ∧ ∃ (T : u_T) (N : Nat), vwCl[12]? = some (mX12_fogIn.1.cls, T, N) := ⟨lw_in9 _ (List.mem_of_getElem? (i := 29) (by decide +kernel)), lw_in0 _ (List.mem_of_getElem? (i := 102) (by decide +kernel)), rfl, _, _, rfl⟩
abbrev mX12_isInSight : slMt := (yX12_isInSight, cX12_isInSight, 6, (some .boolean))
theorem ms_X12_isInSight : slMs mX12_isInSight 4 := ⟨lw_in1 _ (List.mem_of_getElem? (i := 13) (by decide +kernel)), lw_in9 _ (List.mem_of_getElem? (i := 42) (by decide +kernel)), by decide +kernel, by decide⟩
theorem mv_X12_isInSight : Cond.instanceMethod mX12_isInSight.1 ∈ lw_tbl ∧ Cond.selects mX12_isInSight.1.cls mX12_isInSight.1 mX12_isInSight.1 ∈ lw_tbl ∧ (slR 12).1 = 0 ∧ ∃ (T : u_T) (N : Nat), vwCl[12]? = some (mX12_isInSight.1.cls, T, N) := ⟨lw_in9 _ (List.mem_of_getElem? (i := 41) (by decide +kernel)), lw_in0 _ (List.mem_of_getElem? (i := 105) (by decide +kernel)), rfl, _, _, rfl⟩
abbrev mX12_seenFrom : slMt := (yX12_seenFrom, cX12_seenFrom, 6, (some .int))
theorem ms_X12_seenFrom : slMs mX12_seenFrom 3 := ⟨lw_in1 _ (List.mem_of_getElem? (i := 13) (by decide +kernel)), lw_in9 _ (List.mem_of_getElem? (i := 38) (by decide +kernel)), by decide +kernel, by decide⟩
theorem mv_X12_seenFrom : Cond.instanceMethod mX12_seenFrom.1 ∈ lw_tbl ∧ Cond.selects mX12_seenFrom.1.cls mX12_seenFrom.1 mX12_seenFrom.1 ∈ lw_tbl ∧ (slR 12).1 = 0 ∧ ∃ (T : u_T) (N : Nat), vwCl[12]? = some (mX12_seenFrom.1.cls, T, N) := ⟨lw_in9 _ (List.mem_of_getElem? (i := 37) (by decide +kernel)), lw_in0 _ (List.mem_of_getElem? (i := 104) (by decide +kernel)), rfl, _, _, rfl⟩
abbrev mX12_seenNow : slMt := (yX12_seenNow, cX12_seenNow, 3, (some .int))
theorem ms_X12_seenNow : slMs mX12_seenNow 2 := ⟨lw_in1 _ (List.mem_of_getElem? (i := 13) (by decide +kernel)), lw_in9 _ (List.mem_of_getElem? (i := 61) (by decide +kernel)), by decide +kernel, by decide⟩
theorem mv_X12_seenNow : Cond.instanceMethod mX12_seenNow.1 ∈ lw_tbl ∧ Cond.selects mX12_seenNow.1.cls mX12_seenNow.1 mX12_seenNow.1 ∈ lw_tbl ∧ (slR 12).1 = 0 ∧ ∃ (T : u_T) (N : Nat), vwCl[12]? = some (mX12_seenNow.1.cls, T, N) := ⟨lw_in9 _ (List.mem_of_getElem? (i := 60) (by decide +kernel)), lw_in0 _ (List.mem_of_getElem? (i := 109) (by decide +kernel)), rfl, _, _, rfl⟩
abbrev mX12_watchFrom : slMt := (yX12_watchFrom, cX12_watchFrom, 7, (some .int))
theorem ms_X12_watchFrom : slMs mX12_watchFrom 4 := ⟨lw_in1 _ (List.mem_of_getElem? (i := 13) (by decide +kernel)), lw_in9 _ (List.mem_of_getElem? (i := 34) (by decide +kernel)), by decide +kernel, by decide⟩
theorem mv_X12_watchFrom : Cond.instanceMethod mX12_watchFrom.1 ∈ lw_tbl ∧ Cond.selects mX12_watchFrom.1.cls mX12_watchFrom.1 mX12_watchFrom.1 ∈ lw_tbl ∧ (slR 12).1 = 0 ∧ ∃ (T : u_T) (N : Nat), vwCl[12]? = some (mX12_watchFrom.1.cls, T, N) := ⟨lw_in9 _ (List.mem_of_getElem? (i := 33) (by decide +kernel)), lw_in0 _ (List.mem_of_getElem? (i := 103) (by decide +kernel)), rfl, _, _, rfl⟩
abbrev mX12_watchOf : slMt := (yX12_watchOf, cX12_watchOf, 3, (some .int))
theorem ms_X12_watchOf : slMs mX12_watchOf 2 := ⟨lw_in1 _ (List.mem_of_getElem? (i := 13) (by decide +kernel)), lw_in9 _ (List.mem_of_getElem? (i := 26) (by decide +kernel)), by decide +kernel, by decide⟩
theorem mv_X12_watchOf : Cond.instanceMethod mX12_watchOf.1 ∈ lw_tbl ∧ Cond.selects mX12_watchOf.1.cls mX12_watchOf.1 mX12_watchOf.1 ∈ lw_tbl ∧ (slR 12).1 = 0 ∧ ∃ (T : u_T) (N : Nat), vwCl[12]? = some (mX12_watchOf.1.cls, T, N) := ⟨lw_in9 _ (List.mem_of_getElem? (i := 25) (by decide +kernel)), lw_in0 _ (List.mem_of_getElem? (i := 101) (by decide +kernel)), rfl, _, _, rfl⟩
abbrev mX12_sumOf : slMt := (yX12_sumOf, cX12_sumOf, 4, (some .int))
theorem ms_X12_sumOf : slMs mX12_sumOf 0 := ⟨lw_in1 _ (List.mem_of_getElem? (i := 13) (by decide +kernel)), lw_in9 _ (List.mem_of_getElem? (i := 212) (by decide +kernel)), by decide +kernel, by decide⟩
theorem mv_X12_sumOf : Cond.instanceMethod mX12_sumOf.1 ∈ lw_tbl ∧ Cond.selects mX12_sumOf.1.cls mX12_sumOf.1 mX12_sumOf.1 ∈ lw_tbl ∧ (slR 12).1 = 0 ∧ ∃ (T : u_T) (N : Nat), vwCl[12]? = some (mX12_sumOf.1.cls, T, N) := ⟨lw_in9 _ (List.mem_of_getElem? (i := 211) (by decide +kernel)), lw_in0 _ (List.mem_of_getElem? (i := 129) (by decide +kernel)), rfl, _, _, rfl⟩
abbrev mX12_count : slMt := (yX12_count, cX12_count, 2, (some .int))
theorem ms_X12_count : slMs mX12_count 1 := ⟨lw_in1 _ (List.mem_of_getElem? (i := 13) (by decide +kernel)), lw_in8 _ (List.mem_of_getElem? (i := 200) (by decide +kernel)), by decide +kernel, by decide⟩
theorem mv_X12_count : Cond.instanceMethod mX12_count.1 ∈ lw_tbl ∧ Cond.selects mX12_count.1.cls mX12_count.1 mX12_count.1 ∈ lw_tbl ∧ (slR 12).1 = 0 ∧ ∃ (T : u_T) (N : Nat), vwCl[12]? = some (mX12_count.1.cls, T, N) := ⟨lw_in8 _ (List.mem_of_getElem? (i := 198) (by decide +kernel)), lw_in8 _ (List.mem_of_getElem? (i := 199) (by decide +kernel)), rfl, _, _, rfl⟩
abbrev mX12_isLight : slMt := (yX12_isLight, cX12_isLight, 2, (some .boolean))
theorem ms_X12_isLight : slMs mX12_isLight 1 := ⟨lw_in1 _ (List.mem_of_getElem? (i := 13) (by decide +kernel)), lw_in8 _ (List.mem_of_getElem? (i := 211) (by decide +kernel)), by decide +kernel, by decide⟩
theorem mv_X12_isLight : Cond.instanceMethod mX12_isLight.1 ∈ lw_tbl ∧ Cond.selects mX12_isLight.1.cls mX12_isLight.1 mX12_isLight.1 ∈ lw_tbl ∧ (slR 12).1 = 0 ∧ ∃ (T : u_T) (N : Nat), vwCl[12]? = some (mX12_isLight.1.cls, T, N) := ⟨lw_in8 _ (List.mem_of_getElem? (i := 210) (by decide +kernel)), lw_in0 _ (List.mem_of_getElem? (i := 89) (by decide +kernel)), rfl, _, _, rfl⟩
abbrev mX12_isShip : slMt := (yX12_isShip, cX12_isShip, 2, (some .boolean))
theorem ms_X12_isShip : slMs mX12_isShip 1 := ⟨lw_in1 _ (List.mem_of_getElem? (i := 13) (by decide +kernel)), lw_in8 _ (List.mem_of_getElem? (i := 223) (by decide +kernel)), by decide +kernel, by decide⟩
theorem mv_X12_isShip : Cond.instanceMethod mX12_isShip.1 ∈ lw_tbl ∧ Cond.selects mX12_isShip.1.cls mX12_isShip.1 mX12_isShip.1 ∈ lw_tbl ∧ (slR 12).1 = 0 ∧ ∃ (T : u_T) (N : Nat), vwCl[12]? = some (mX12_isShip.1.cls, T, N) := ⟨lw_in8 _ (List.mem_of_getElem? (i := 222) (by decide +kernel)), lw_in0 _ (List.mem_of_getElem? (i := 91) (by decide +kernel)), rfl, _, _, rfl⟩
abbrev mX12_isHour : slMt := (yX12_isHour, cX12_isHour, 2, (some .boolean))
theorem ms_X12_isHour : slMs mX12_isHour 1 := ⟨lw_in1 _ (List.mem_of_getElem? (i := 13) (by decide +kernel)), lw_in9 _ (List.mem_of_getElem? (i := 69) (by decide +kernel)), by decide +kernel, by decide⟩
theorem mv_X12_isHour : Cond.instanceMethod mX12_isHour.1 ∈ lw_tbl ∧ Cond.selects mX12_isHour.1.cls mX12_isHour.1 mX12_isHour.1 ∈ lw_tbl ∧ (slR 12).1 = 0 ∧ ∃ (T : u_T) (N : Nat), vwCl[12]? = some (mX12_isHour.1.cls, T, N) := ⟨lw_in9 _ (List.mem_of_getElem? (i := 68) (by decide +kernel)), lw_in0 _ (List.mem_of_getElem? (i := 110) (by decide +kernel)), rfl, _, _, rfl⟩
abbrev mX12_isNight : slMt := (yX12_isNight, cX12_isNight, 2, (some .boolean))
theorem ms_X12_isNight : slMs mX12_isNight 1 := ⟨lw_in1 _ (List.mem_of_getElem? (i := 13) (by decide +kernel)), lw_in9 _ (List.mem_of_getElem? (i := 85) (by decide +kernel)), by decide +kernel, by decide⟩
theorem mv_X12_isNight : Cond.instanceMethod mX12_isNight.1 ∈ lw_tbl ∧ Cond.selects mX12_isNight.1.cls mX12_isNight.1 mX12_isNight.1 ∈ lw_tbl ∧ (slR 12).1 = 0 ∧ ∃ (T : u_T) (N : Nat), vwCl[12]? = some (mX12_isNight.1.cls, T, N) := ⟨lw_in9 _ (List.mem_of_getElem? (i := 84) (by decide +kernel)), lw_in0 _ (List.mem_of_getElem? (i := 111) (by decide +kernel)), rfl, _, _, rfl⟩
abbrev mX12_isWhat : slMt := (yX12_isWhat, cX12_isWhat, 3, (some .boolean))
theorem ms_X12_isWhat : slMs mX12_isWhat 2 := ⟨lw_in1 _ (List.mem_of_getElem? (i := 13) (by decide +kernel)), lw_in8 _ (List.mem_of_getElem? (i := 215) (by decide +kernel)), by decide +kernel, by decide⟩
theorem mv_X12_isWhat : Cond.instanceMethod mX12_isWhat.1 ∈ lw_tbl ∧ Cond.selects mX12_isWhat.1.cls mX12_isWhat.1 mX12_isWhat.1 ∈ lw_tbl ∧ (slR 12).1 = 0 ∧ ∃ (T : u_T) (N : Nat), vwCl[12]? = some (mX12_isWhat.1.cls, T, N) := ⟨lw_in8 _ (List.mem_of_getElem? (i := 214) (by decide +kernel)), lw_in0 _ (List.mem_of_getElem? (i := 90) (by decide +kernel)), rfl, _, _, rfl⟩
abbrev mX12_light : slMt := (yX12_light, cX12_light, 5, (some .int))
theorem ms_X12_light : slMs mX12_light 2 := ⟨lw_in1 _ (List.mem_of_getElem? (i := 13) (by decide +kernel)), lw_in8 _ (List.mem_of_getElem? (i := 207) (by decide +kernel)), by decide +kernel, by decide⟩
theorem mv_X12_light : Cond.instanceMethod mX12_light.1 ∈ lw_tbl ∧ Cond.selects mX12_light.1.cls mX12_light.1 mX12_light.1 ∈ lw_tbl ∧ (slR 12).1 = 0 ∧ ∃ (T : u_T) (N : Nat), vwCl[12]? = some (mX12_light.1.cls, T, N) := ⟨lw_in8 _ (List.mem_of_getElem? (i := 205) (by decide +kernel)), lw_in8 _ (List.mem_of_getElem? (i := 206) (by decide +kernel)), rfl, _, _, rfl⟩
abbrev mX12_unseen : slMt := (yX12_unseen, cX12_unseen, 3, (some .int))
theorem ms_X12_unseen : slMs mX12_unseen 1 := ⟨lw_in1 _ (List.mem_of_getElem? (i := 13) (by decide +kernel)), lw_in9 _ (List.mem_of_getElem? (i := 22) (by decide +kernel)), by decide +kernel, by decide⟩
theorem mv_X12_unseen : Cond.instanceMethod mX12_unseen.1 ∈ lw_tbl ∧ Cond.selects mX12_unseen.1.cls mX12_unseen.1 mX12_unseen.1 ∈ lw_tbl ∧ (slR 12).1 = 0 ∧ ∃ (T : u_T) (N : Nat), vwCl[12]? = some (mX12_unseen.1.cls, T, N) := ⟨lw_in9 _ (List.mem_of_getElem? (i := 21) (by decide +kernel)), lw_in0 _ (List.mem_of_getElem? (i := 100) (by decide +kernel)), rfl, _, _, rfl⟩
abbrev mX12_longestDark : slMt := (yX12_longestDark, cX12_longestDark, 5, (some .int))
theorem ms_X12_longestDark : slMs mX12_longestDark 1 := ⟨lw_in1 _ (List.mem_of_getElem? (i := 13) (by decide +kernel)), lw_in9 _ (List.mem_of_getElem? (i := 57) (by decide +kernel)), by decide +kernel, by decide⟩
theorem mv_X12_longestDark : Cond.instanceMethod mX12_longestDark.1 ∈ lw_tbl ∧ Cond.selects mX12_longestDark.1.cls mX12_longestDark.1 mX12_longestDark.1 ∈ lw_tbl ∧ (slR 12).1 = 0 ∧ ∃ (T : u_T) (N : Nat), vwCl[12]? = some (mX12_longestDark.1.cls, T, N) := ⟨lw_in9 _ (List.mem_of_getElem? (i := 56) (by decide +kernel)), lw_in0 _ (List.mem_of_getElem? (i := 108) (by decide +kernel)), rfl, _, _, rfl⟩
abbrev mX12_ship : slMt := (yX12_ship, cX12_ship, 3, (some .int))
theorem ms_X12_ship : slMs mX12_ship 2 := ⟨lw_in1 _ (List.mem_of_getElem? (i := 13) (by decide +kernel)), lw_in8 _ (List.mem_of_getElem? (i := 219) (by decide +kernel)), by decide +kernel, by decide⟩
theorem mv_X12_ship : Cond.instanceMethod mX12_ship.1 ∈ lw_tbl ∧ Cond.selects mX12_ship.1.cls mX12_ship.1 mX12_ship.1 ∈ lw_tbl ∧ (slR 12).1 = 0 ∧ ∃ (T : u_T) (N : Nat), vwCl[12]? = some (mX12_ship.1.cls, T, N) := ⟨lw_in8 _ (List.mem_of_getElem? (i := 217) (by decide +kernel)), lw_in8 _ (List.mem_of_getElem? (i := 218) (by decide +kernel)), rfl, _, _, rfl⟩
abbrev mX12_where : slMt := (yX12_where, cX12_where, 3, (some .int))
theorem ms_X12_where : slMs mX12_where 2 := ⟨lw_in1 _ (List.mem_of_getElem? (i := 13) (by decide +kernel)), lw_in9 _ (List.mem_of_getElem? (i := 65) (by decide +kernel)), by decide +kernel, by decide⟩
theorem mv_X12_where : Cond.instanceMethod mX12_where.1 ∈ lw_tbl ∧ Cond.selects mX12_where.1.cls mX12_where.1 mX12_where.1 ∈ lw_tbl ∧ (slR 12).1 = 0 ∧ ∃ (T : u_T) (N : Nat), vwCl[12]? = some (mX12_where.1.cls, T, N) := ⟨lw_in9 _ (List.mem_of_getElem? (i := 63) (by decide +kernel)), lw_in9 _ (List.mem_of_getElem? (i := 64) (by decide +kernel)), rfl, _, _, rfl⟩
abbrev mX12_lamp : slMt := (yX12_lamp, cX12_lamp, 4, (some .int))
theorem ms_X12_lamp : slMs mX12_lamp 3 := ⟨lw_in1 _ (List.mem_of_getElem? (i := 13) (by decide +kernel)), lw_in9 _ (List.mem_of_getElem? (i := 73) (by decide +kernel)), by decide +kernel, by decide⟩
theorem mv_X12_lamp : Cond.instanceMethod mX12_lamp.1 ∈ lw_tbl ∧ Cond.selects mX12_lamp.1.cls mX12_lamp.1 mX12_lamp.1 ∈ lw_tbl ∧ (slR 12).1 = 0 ∧ ∃ (T : u_T) (N : Nat), vwCl[12]? = some (mX12_lamp.1.cls, T, N) := ⟨lw_in9 _ (List.mem_of_getElem? (i := 71) (by decide +kernel)), lw_in9 _ (List.mem_of_getElem? (i := 72) (by decide +kernel)), rfl, _, _, rfl⟩
abbrev mX12_seen : slMt := (yX12_seen, cX12_seen, 3, (some .int))
theorem ms_X12_seen : slMs mX12_seen 2 := ⟨lw_in1 _ (List.mem_of_getElem? (i := 13) (by decide +kernel)), lw_in9 _ (List.mem_of_getElem? (i := 77) (by decide +kernel)), by decide +kernel, by decide⟩
theorem mv_X12_seen : Cond.instanceMethod mX12_seen.1 ∈ lw_tbl ∧ Cond.selects mX12_seen.1.cls mX12_seen.1 mX12_seen.1 ∈ lw_tbl ∧ (slR 12).1 = 0 ∧ ∃ (T : u_T) (N : Nat), vwCl[12]? = some (mX12_seen.1.cls, T, N) := ⟨lw_in9 _ (List.mem_of_getElem? (i := 75) (by decide +kernel)), lw_in9 _ (List.mem_of_getElem? (i := 76) (by decide +kernel)), rfl, _, _, rfl⟩
abbrev mX12_watch : slMt := (yX12_watch, cX12_watch, 3, (some .int))
theorem ms_X12_watch : slMs mX12_watch 2 := ⟨lw_in1 _ (List.mem_of_getElem? (i := 13) (by decide +kernel)), lw_in9 _ (List.mem_of_getElem? (i := 81) (by decide +kernel)), by decide +kernel, by decide⟩
theorem mv_X12_watch : Cond.instanceMethod mX12_watch.1 ∈ lw_tbl ∧ Cond.selects mX12_watch.1.cls mX12_watch.1 mX12_watch.1 ∈ lw_tbl ∧ (slR 12).1 = 0 ∧ ∃ (T : u_T) (N : Nat), vwCl[12]? = some (mX12_watch.1.cls, T, N) := ⟨lw_in9 _ (List.mem_of_getElem? (i := 79) (by decide +kernel)), lw_in9 _ (List.mem_of_getElem? (i := 80) (by decide +kernel)), rfl, _, _, rfl⟩
abbrev mX12_contentBy : slMt := (yX12_contentBy, cX12_contentBy, 6, (some .int))
theorem ms_X12_contentBy : slMs mX12_contentBy 3 := ⟨lw_in1 _ (List.mem_of_getElem? (i := 13) (by decide +kernel)), lw_in9 _ (List.mem_of_getElem? (i := 93) (by decide +kernel)), by decide +kernel, by decide⟩
theorem mv_X12_contentBy : Cond.instanceMethod mX12_contentBy.1 ∈ lw_tbl ∧ Cond.selects mX12_contentBy.1.cls mX12_contentBy.1 mX12_contentBy.1 ∈ lw_tbl ∧ (slR 12).1 = 0 ∧ ∃ (T : u_T) (N : Nat), vwCl[12]? = some (mX12_contentBy.1.cls, T, N) := ⟨lw_in9 _ (List.mem_of_getElem? (i := 92) (by decide +kernel)), lw_in0 _ (List.mem_of_getElem? (i := 112) (by decide +kernel)), rfl, _, _, rfl⟩
abbrev mX12_content : slMt := (yX12_content, cX12_content, 2, (some .int))
theorem ms_X12_content : slMs mX12_content 1 := ⟨lw_in1 _ (List.mem_of_getElem? (i := 13) (by decide +kernel)), lw_in9 _ (List.mem_of_getElem? (i := 89) (by decide +kernel)), by decide +kernel, by decide⟩
theorem mv_X12_content : Cond.instanceMethod mX12_content.1 ∈ lw_tbl ∧ Cond.selects mX12_content.1.cls mX12_content.1 mX12_content.1 ∈ lw_tbl ∧ (slR 12).1 = 0 ∧ ∃ (T : u_T) (N : Nat), vwCl[12]? = some (mX12_content.1.cls, T, N) := ⟨lw_in9 _ (List.mem_of_getElem? (i := 87) (by decide +kernel)), lw_in9 _ (List.mem_of_getElem? (i := 88) (by decide +kernel)), rfl, _, _, rfl⟩
abbrev mX12_met : slMt := (yX12_met, cX12_met, 4, (some .int))
theorem ms_X12_met : slMs mX12_met 2 := ⟨lw_in1 _ (List.mem_of_getElem? (i := 13) (by decide +kernel)), lw_in9 _ (List.mem_of_getElem? (i := 97) (by decide +kernel)), by decide +kernel, by decide⟩
theorem mv_X12_met : Cond.instanceMethod mX12_met.1 ∈ lw_tbl ∧ Cond.selects mX12_met.1.cls mX12_met.1 mX12_met.1 ∈ lw_tbl ∧ (slR 12).1 = 0 ∧ ∃ (T : u_T) (N : Nat), vwCl[12]? = some (mX12_met.1.cls, T, N) := ⟨lw_in9 _ (List.mem_of_getElem? (i := 95) (by decide +kernel)), lw_in9 _ (List.mem_of_getElem? (i := 96) (by decide +kernel)), rfl, _, _, rfl⟩
abbrev mX12_fill : slMt := (yX12_fill, cX12_fill, 3, (some .int))
theorem ms_X12_fill : slMs mX12_fill 2 := ⟨lw_in1 _ (List.mem_of_getElem? (i := 13) (by decide +kernel)), lw_in9 _ (List.mem_of_getElem? (i := 101) (by decide +kernel)), by decide +kernel, by decide⟩
theorem mv_X12_fill : Cond.instanceMethod mX12_fill.1 ∈ lw_tbl ∧ Cond.selects mX12_fill.1.cls mX12_fill.1 mX12_fill.1 ∈ lw_tbl ∧ (slR 12).1 = 0 ∧ ∃ (T : u_T) (N : Nat), vwCl[12]? = some (mX12_fill.1.cls, T, N) := ⟨lw_in9 _ (List.mem_of_getElem? (i := 99) (by decide +kernel)), lw_in9 _ (List.mem_of_getElem? (i := 100) (by decide +kernel)), rfl, _, _, rfl⟩
abbrev mX12_isFree : slMt := (yX12_isFree, cX12_isFree, 6, (some .boolean))
theorem ms_X12_isFree : slMs mX12_isFree 4 := ⟨lw_in1 _ (List.mem_of_getElem? (i := 13) (by decide +kernel)), lw_in9 _ (List.mem_of_getElem? (i := 117) (by decide +kernel)), by decide +kernel, by decide⟩
theorem mv_X12_isFree : Cond.instanceMethod mX12_isFree.1 ∈ lw_tbl ∧ Cond.selects mX12_isFree.1.cls mX12_isFree.1 mX12_isFree.1 ∈ lw_tbl ∧ (slR 12).1 = 0 ∧ ∃ (T : u_T) (N : Nat), vwCl[12]? = some (mX12_isFree.1.cls, T, N) := ⟨lw_in9 _ (List.mem_of_getElem? (i := 116) (by decide +kernel)), lw_in0 _ (List.mem_of_getElem? (i := 115) (by decide +kernel)), rfl, _, _, rfl⟩
abbrev mX12_moor : slMt := (yX12_moor, cX12_moor, 3, (some .int))
theorem ms_X12_moor : slMs mX12_moor 2 := ⟨lw_in1 _ (List.mem_of_getElem? (i := 13) (by decide +kernel)), lw_in9 _ (List.mem_of_getElem? (i := 113) (by decide +kernel)), by decide +kernel, by decide⟩
theorem mv_X12_moor : Cond.instanceMethod mX12_moor.1 ∈ lw_tbl ∧ Cond.selects mX12_moor.1.cls mX12_moor.1 mX12_moor.1 ∈ lw_tbl ∧ (slR 12).1 = 0 ∧ ∃ (T : u_T) (N : Nat), vwCl[12]? = some (mX12_moor.1.cls, T, N) := ⟨lw_in9 _ (List.mem_of_getElem? (i := 111) (by decide +kernel)), lw_in9 _ (List.mem_of_getElem? (i := 112) (by decide +kernel)), rfl, _, _, rfl⟩
abbrev mX12_push : slMt := (yX12_push, cX12_push, 3, (some .int))
theorem ms_X12_push : slMs mX12_push 2 := ⟨lw_in1 _ (List.mem_of_getElem? (i := 13) (by decide +kernel)), lw_in9 _ (List.mem_of_getElem? (i := 125) (by decide +kernel)), by decide +kernel, by decide⟩
theorem mv_X12_push : Cond.instanceMethod mX12_push.1 ∈ lw_tbl ∧ Cond.selects mX12_push.1.cls mX12_push.1 mX12_push.1 ∈ lw_tbl ∧ (slR 12).1 = 0 ∧ ∃ (T : u_T) (N : Nat), vwCl[12]? = some (mX12_push.1.cls, T, N) := ⟨lw_in9 _ (List.mem_of_getElem? (i := 123) (by decide +kernel)), lw_in9 _ (List.mem_of_getElem? (i := 124) (by decide +kernel)), rfl, _, _, rfl⟩
abbrev mX12_obey : slMt := (yX12_obey, cX12_obey, 2, (some .boolean))
theorem ms_X12_obey : slMs mX12_obey 1 := ⟨lw_in1 _ (List.mem_of_getElem? (i := 13) (by decide +kernel)), lw_in9 _ (List.mem_of_getElem? (i := 129) (by decide +kernel)), by decide +kernel, by decide⟩
theorem mv_X12_obey : Cond.instanceMethod mX12_obey.1 ∈ lw_tbl ∧ Cond.selects mX12_obey.1.cls mX12_obey.1 mX12_obey.1 ∈ lw_tbl ∧ (slR 12).1 = 0 ∧ ∃ (T : u_T) (N : Nat), vwCl[12]? = some (mX12_obey.1.cls, T, N) := ⟨lw_in9 _ (List.mem_of_getElem? (i := 127) (by decide +kernel)), lw_in9 _ (List.mem_of_getElem? (i := 128) (by decide +kernel)), rfl, _, _, rfl⟩
abbrev mX12_want : slMt := (yX12_want, cX12_want, 3, (some .int))
theorem ms_X12_want : slMs mX12_want 2 := ⟨lw_in1 _ (List.mem_of_getElem? (i := 13) (by decide +kernel)), lw_in9 _ (List.mem_of_getElem? (i := 133) (by decide +kernel)), by decide +kernel, by decide⟩
theorem mv_X12_want : Cond.instanceMethod mX12_want.1 ∈ lw_tbl ∧ Cond.selects mX12_want.1.cls mX12_want.1 mX12_want.1 ∈ lw_tbl ∧ (slR 12).1 = 0 ∧ ∃ (T : u_T) (N : Nat), vwCl[12]? = some (mX12_want.1.cls, T, N) := ⟨lw_in9 _ (List.mem_of_getElem? (i := 131) (by decide +kernel)), lw_in9 _ (List.mem_of_getElem? (i := 132) (by decide +kernel)), rfl, _, _, rfl⟩
abbrev mX12_lamps : slMt := (yX12_lamps, cX12_lamps, 6, (some .int))
theorem ms_X12_lamps : slMs mX12_lamps 1 := ⟨lw_in1 _ (List.mem_of_getElem? (i := 13) (by decide +kernel)), lw_in9 _ (List.mem_of_getElem? (i := 137) (by decide +kernel)), by decide +kernel, by decide⟩
theorem mv_X12_lamps : Cond.instanceMethod mX12_lamps.1 ∈ lw_tbl ∧ Cond.selects mX12_lamps.1.cls mX12_lamps.1 mX12_lamps.1 ∈ lw_tbl ∧ (slR 12).1 = 0 ∧ ∃ (T : u_T) (N : Nat), vwCl[12]? = some (mX12_lamps.1.cls, T, N) := ⟨lw_in9 _ (List.mem_of_getElem? (i := 135) (by decide +kernel)), lw_in9 _ (List.mem_of_getElem? (i := 136) (by decide +kernel)), rfl, _, _, rfl⟩
abbrev mX12_findsDiffers : slMt := (yX12_findsDiffers, cX12_findsDiffers, 6, none)
theorem ms_X12_findsDiffers : slMs mX12_findsDiffers 1 := ⟨lw_in1 _ (List.mem_of_getElem? (i := 13) (by decide +kernel)), lw_in9 _ (List.mem_of_getElem? (i := 148) (by decide +kernel)), by decide +kernel, by decide⟩
theorem mv_X12_findsDiffers : Cond.instanceMethod mX12_findsDiffers.1 ∈ lw_tbl ∧ Cond.selects mX12_findsDiffers.1.cls mX12_findsDiffers.1 mX12_findsDiffers.1 ∈ lw_tbl ∧ (slR 12).1 = 0 ∧ ∃ (T : u_T) (N : Nat), vwCl[12]? = some (mX12_findsDiffers.1.cls, T, N) := ⟨lw_in9 _ (List.mem_of_getElem? (i := 147) (by decide +kernel)), lw_in0 _ (List.mem_of_getElem? (i := 117) (by decide +kernel)), rfl, _, _, rfl⟩
abbrev mX12_isEnough : slMt := (yX12_isEnough, cX12_isEnough, 8, (some .boolean))
theorem ms_X12_isEnough : slMs mX12_isEnough 1 := ⟨lw_in1 _ (List.mem_of_getElem? (i := 13) (by decide +kernel)), lw_in9 _ (List.mem_of_getElem? (i := 156) (by decide +kernel)), by decide +kernel, by decide⟩
theorem mv_X12_isEnough : Cond.instanceMethod mX12_isEnough.1 ∈ lw_tbl ∧ Cond.selects mX12_isEnough.1.cls mX12_isEnough.1 mX12_isEnough.1 ∈ lw_tbl ∧ (slR 12).1 = 0 ∧ ∃ (T : u_T) (N : Nat), vwCl[12]? = some (mX12_isEnough.1.cls, T, N) := ⟨lw_in9 _ (List.mem_of_getElem? (i := 155) (by decide +kernel)), lw_in0 _ (List.mem_of_getElem? (i := 119) (by decide +kernel)), rfl, _, _, rfl⟩
abbrev mX12_areAlike : slMt := (yX12_areAlike, cX12_areAlike, 4, (some .boolean))
theorem ms_X12_areAlike : slMs mX12_areAlike 2 := ⟨lw_in1 _ (List.mem_of_getElem? (i := 13) (by decide +kernel)), lw_in9 _ (List.mem_of_getElem? (i := 152) (by decide +kernel)), by decide +kernel, by decide⟩
theorem mv_X12_areAlike : Cond.instanceMethod mX12_areAlike.1 ∈ lw_tbl ∧ Cond.selects mX12_areAlike.1.cls mX12_areAlike.1 mX12_areAlike.1 ∈ lw_tbl ∧ (slR 12).1 = 0 ∧ ∃ (T : u_T) (N : Nat), vwCl[12]? = some (mX12_areAlike.1.cls, T, N) := ⟨lw_in9 _ (List.mem_of_getElem? (i := 151) (by decide +kernel)), lw_in0 _ (List.mem_of_getElem? (i := 118) (by decide +kernel)), rfl, _, _, rfl⟩
abbrev mX12_signs : slMt := (yX12_signs, cX12_signs, 6, (some .int))
theorem ms_X12_signs : slMs mX12_signs 2 := ⟨lw_in1 _ (List.mem_of_getElem? (i := 13) (by decide +kernel)), lw_in9 _ (List.mem_of_getElem? (i := 144) (by decide +kernel)), by decide +kernel, by decide⟩
theorem mv_X12_signs : Cond.instanceMethod mX12_signs.1 ∈ lw_tbl ∧ Cond.selects mX12_signs.1.cls mX12_signs.1 mX12_signs.1 ∈ lw_tbl ∧ (slR 12).1 = 0 ∧ ∃ (T : u_T) (N : Nat), vwCl[12]? = some (mX12_signs.1.cls, T, N) := ⟨lw_in9 _ (List.mem_of_getElem? (i := 142) (by decide +kernel)), lw_in9 _ (List.mem_of_getElem? (i := 143) (by decide +kernel)), rfl, _, _, rfl⟩
abbrev mX12_isHis : slMt := (yX12_isHis, cX12_isHis, 8, (some .boolean))
theorem ms_X12_isHis : slMs mX12_isHis 4 := ⟨lw_in1 _ (List.mem_of_getElem? (i := 13) (by decide +kernel)), lw_in9 _ (List.mem_of_getElem? (i := 164) (by decide +kernel)), by decide +kernel, by decide⟩
theorem mv_X12_isHis : Cond.instanceMethod mX12_isHis.1 ∈ lw_tbl ∧ Cond.selects mX12_isHis.1.cls mX12_isHis.1 mX12_isHis.1 ∈ lw_tbl ∧ (slR 12).1 = 0 ∧ ∃ (T : u_T) (N : Nat), vwCl[12]? = some (mX12_isHis.1.cls, T, N) := ⟨lw_in9 _ (List.mem_of_getElem? (i := 163) (by decide +kernel)), lw_in0 _ (List.mem_of_getElem? (i := 120) (by decide +kernel)), rfl, _, _, rfl⟩
abbrev mX12_who : slMt := (yX12_who, cX12_who, 7, (some .int))
theorem ms_X12_who : slMs mX12_who 2 := ⟨lw_in1 _ (List.mem_of_getElem? (i := 13) (by decide +kernel)), lw_in9 _ (List.mem_of_getElem? (i := 160) (by decide +kernel)), by decide +kernel, by decide⟩
theorem mv_X12_who : Cond.instanceMethod mX12_who.1 ∈ lw_tbl ∧ Cond.selects mX12_who.1.cls mX12_who.1 mX12_who.1 ∈ lw_tbl ∧ (slR 12).1 = 0 ∧ ∃ (T : u_T) (N : Nat), vwCl[12]? = some (mX12_who.1.cls, T, N) := ⟨lw_in9 _ (List.mem_of_getElem? (i := 158) (by decide +kernel)), lw_in9 _ (List.mem_of_getElem? (i := 159) (by decide +kernel)), rfl, _, _, rfl⟩
abbrev mX12_laysApart : slMt := (yX12_laysApart, cX12_laysApart, 4, none)
theorem ms_X12_laysApart : slMs mX12_laysApart 1 := ⟨lw_in1 _ (List.mem_of_getElem? (i := 13) (by decide +kernel)), lw_in9 _ (List.mem_of_getElem? (i := 172) (by decide +kernel)), by decide +kernel, by decide⟩
theorem mv_X12_laysApart : Cond.instanceMethod mX12_laysApart.1 ∈ lw_tbl ∧ Cond.selects mX12_laysApart.1.cls mX12_laysApart.1 mX12_laysApart.1 ∈ lw_tbl ∧ (slR 12).1 = 0 ∧ ∃ (T : u_T) (N : Nat), vwCl[12]? = some (mX12_laysApart.1.cls, T, N) := ⟨lw_in9 _ (List.mem_of_getElem? (i := 171) (by decide +kernel)), lw_in0 _ (List.mem_of_getElem? (i := 121) (by decide +kernel)), rfl, _, _, rfl⟩
abbrev mX12_wouldRather : slMt := (yX12_wouldRather, cX12_wouldRather, 6, (some .boolean))
theorem ms_X12_wouldRather : slMs mX12_wouldRather 3 := ⟨lw_in1 _ (List.mem_of_getElem? (i := 13) (by decide +kernel)), lw_in9 _ (List.mem_of_getElem? (i := 184) (by decide +kernel)), by decide +kernel, by decide⟩
theorem mv_X12_wouldRather : Cond.instanceMethod mX12_wouldRather.1 ∈ lw_tbl ∧ Cond.selects mX12_wouldRather.1.cls mX12_wouldRather.1 mX12_wouldRather.1 ∈ lw_tbl ∧ (slR 12).1 = 0 ∧ ∃ (T : u_T) (N : Nat), vwCl[12]? = some (mX12_wouldRather.1.cls, T, N) := ⟨lw_in9 _ (List.mem_of_getElem? (i := 183) (by decide +kernel)), lw_in0 _ (List.mem_of_getElem? (i := 124) (by decide +kernel)), rfl, _, _, rfl⟩
abbrev mX12_shipRather : slMt := (yX12_shipRather, cX12_shipRather, 6, (some .boolean))
theorem ms_X12_shipRather : slMs mX12_shipRather 3 := ⟨lw_in1 _ (List.mem_of_getElem? (i := 13) (by decide +kernel)), lw_in9 _ (List.mem_of_getElem? (i := 188) (by decide +kernel)), by decide +kernel, by decide⟩
theorem mv_X12_shipRather : Cond.instanceMethod mX12_shipRather.1 ∈ lw_tbl ∧ Cond.selects mX12_shipRather.1.cls mX12_shipRather.1 mX12_shipRather.1 ∈ lw_tbl ∧ (slR 12).1 = 0 ∧ ∃ (T : u_T) (N : Nat), vwCl[12]? = some (mX12_shipRather.1.cls, T, N) := ⟨lw_in9 _ (List.mem_of_getElem? (i := 187) (by decide +kernel)), lw_in0 _ (List.mem_of_getElem? (i := 125) (by decide +kernel)), rfl, _, _, rfl⟩
abbrev mX12_isStable : slMt := (yX12_isStable, cX12_isStable, 3, (some .boolean))
theorem ms_X12_isStable : slMs mX12_isStable 0 := ⟨lw_in1 _ (List.mem_of_getElem? (i := 13) (by decide +kernel)), lw_in9 _ (List.mem_of_getElem? (i := 180) (by decide +kernel)), by decide +kernel, by decide⟩
theorem mv_X12_isStable : Cond.instanceMethod mX12_isStable.1 ∈ lw_tbl ∧ Cond.selects mX12_isStable.1.cls mX12_isStable.1 mX12_isStable.1 ∈ lw_tbl ∧ (slR 12).1 = 0 ∧ ∃ (T : u_T) (N : Nat), vwCl[12]? = some (mX12_isStable.1.cls, T, N) := ⟨lw_in9 _ (List.mem_of_getElem? (i := 179) (by decide +kernel)), lw_in0 _ (List.mem_of_getElem? (i := 123) (by decide +kernel)), rfl, _, _, rfl⟩
abbrev mX12_laysMatching : slMt := (yX12_laysMatching, cX12_laysMatching, 4, (some .boolean))
theorem ms_X12_laysMatching : slMs mX12_laysMatching 1 := ⟨lw_in1 _ (List.mem_of_getElem? (i := 13) (by decide +kernel)), lw_in9 _ (List.mem_of_getElem? (i := 176) (by decide +kernel)), by decide +kernel, by decide⟩
theorem mv_X12_laysMatching : Cond.instanceMethod mX12_laysMatching.1 ∈ lw_tbl ∧ Cond.selects mX12_laysMatching.1.cls mX12_laysMatching.1 mX12_laysMatching.1 ∈ lw_tbl ∧ (slR 12).1 = 0 ∧ ∃ (T : u_T) (N : Nat), vwCl[12]? = some (mX12_laysMatching.1.cls, T, N) := ⟨lw_in9 _ (List.mem_of_getElem? (i := 175) (by decide +kernel)), lw_in0 _ (List.mem_of_getElem? (i := 122) (by decide +kernel)), rfl, _, _, rfl⟩
abbrev mX12_visits : slMt := (yX12_visits, cX12_visits, 5, (some .int))
theorem ms_X12_visits : slMs mX12_visits 1 := ⟨lw_in1 _ (List.mem_of_getElem? (i := 13) (by decide +kernel)), lw_in9 _ (List.mem_of_getElem? (i := 168) (by decide +kernel)), by decide +kernel, by decide⟩
theorem mv_X12_visits : Cond.instanceMethod mX12_visits.1 ∈ lw_tbl ∧ Cond.selects mX12_visits.1.cls mX12_visits.1 mX12_visits.1 ∈ lw_tbl ∧ (slR 12).1 = 0 ∧ ∃ (T : u_T) (N : Nat), vwCl[12]? = some (mX12_visits.1.cls, T, N) := ⟨lw_in9 _ (List.mem_of_getElem? (i := 166) (by decide +kernel)), lw_in9 _ (List.mem_of_getElem? (i := 167) (by decide +kernel)), rfl, _, _, rfl⟩
abbrev mX12_asks : slMt := (yX12_asks, cX12_asks, 4, (some .boolean))
theorem ms_X12_asks : slMs mX12_asks 1 := ⟨lw_in1 _ (List.mem_of_getElem? (i := 13) (by decide +kernel)), lw_in9 _ (List.mem_of_getElem? (i := 196) (by decide +kernel)), by decide +kernel, by decide⟩
theorem mv_X12_asks : Cond.instanceMethod mX12_asks.1 ∈ lw_tbl ∧ Cond.selects mX12_asks.1.cls mX12_asks.1 mX12_asks.1 ∈ lw_tbl ∧ (slR 12).1 = 0 ∧ ∃ (T : u_T) (N : Nat), vwCl[12]? = some (mX12_asks.1.cls, T, N) := ⟨lw_in9 _ (List.mem_of_getElem? (i := 195) (by decide +kernel)), lw_in0 _ (List.mem_of_getElem? (i := 126) (by decide +kernel)), rfl, _, _, rfl⟩
abbrev mX12_visit : slMt := (yX12_visit, cX12_visit, 5, (some .int))
theorem ms_X12_visit : slMs mX12_visit 2 := ⟨lw_in1 _ (List.mem_of_getElem? (i := 13) (by decide +kernel)), lw_in9 _ (List.mem_of_getElem? (i := 192) (by decide +kernel)), by decide +kernel, by decide⟩
theorem mv_X12_visit : Cond.instanceMethod mX12_visit.1 ∈ lw_tbl ∧ Cond.selects mX12_visit.1.cls mX12_visit.1 mX12_visit.1 ∈ lw_tbl ∧ (slR 12).1 = 0 ∧ ∃ (T : u_T) (N : Nat), vwCl[12]? = some (mX12_visit.1.cls, T, N) := ⟨lw_in9 _ (List.mem_of_getElem? (i := 190) (by decide +kernel)), lw_in9 _ (List.mem_of_getElem? (i := 191) (by decide +kernel)), rfl, _, _, rfl⟩
abbrev mX12_isLaw : slMt := (yX12_isLaw, cX12_isLaw, 2, (some .boolean))
theorem ms_X12_isLaw : slMs mX12_isLaw 1 := ⟨lw_in1 _ (List.mem_of_getElem? (i := 13) (by decide +kernel)), lw_in9 _ (List.mem_of_getElem? (i := 204) (by decide +kernel)), by decide +kernel, by decide⟩
theorem mv_X12_isLaw : Cond.instanceMethod mX12_isLaw.1 ∈ lw_tbl ∧ Cond.selects mX12_isLaw.1.cls mX12_isLaw.1 mX12_isLaw.1 ∈ lw_tbl ∧ (slR 12).1 = 0 ∧ ∃ (T : u_T) (N : Nat), vwCl[12]? = some (mX12_isLaw.1.cls, T, N) := ⟨lw_in9 _ (List.mem_of_getElem? (i := 203) (by decide +kernel)), lw_in0 _ (List.mem_of_getElem? (i := 127) (by decide +kernel)), rfl, _, _, rfl⟩
abbrev mX12_sumBy : slMt := (yX12_sumBy, cX12_sumBy, 2, (some .int))
theorem ms_X12_sumBy : slMs mX12_sumBy 1 := ⟨lw_in1 _ (List.mem_of_getElem? (i := 13) (by decide +kernel)), lw_in9 _ (List.mem_of_getElem? (i := 208) (by decide +kernel)), by decide +kernel, by decide⟩
theorem mv_X12_sumBy : Cond.instanceMethod mX12_sumBy.1 ∈ lw_tbl ∧ Cond.selects mX12_sumBy.1.cls mX12_sumBy.1 mX12_sumBy.1 ∈ lw_tbl ∧ (slR 12).1 = 0 ∧ ∃ (T : u_T) (N : Nat), vwCl[12]? = some (mX12_sumBy.1.cls, T, N) := ⟨lw_in9 _ (List.mem_of_getElem? (i := 207) (by decide +kernel)), lw_in0 _ (List.mem_of_getElem? (i := 128) (by decide +kernel)), rfl, _, _, rfl⟩
abbrev mX12_compared : slMt := (yX12_compared, cX12_compared, 2, (some .int))
theorem ms_X12_compared : slMs mX12_compared 1 := ⟨lw_in1 _ (List.mem_of_getElem? (i := 13) (by decide +kernel)), lw_in9 _ (List.mem_of_getElem? (i := 200) (by decide +kernel)), by decide +kernel, by decide⟩
theorem mv_X12_compared : Cond.instanceMethod mX12_compared.1 ∈ lw_tbl ∧ Cond.selects mX12_compared.1.cls mX12_compared.1 mX12_compared.1 ∈ lw_tbl ∧ (slR 12).1 = 0 ∧ ∃ (T : u_T) (N : Nat), vwCl[12]? = some (mX12_compared.1.cls, T, N) := ⟨lw_in9 _ (List.mem_of_getElem? (i := 198) (by decide +kernel)), lw_in9 _ (List.mem_of_getElem? (i := 199) (by decide +kernel)), rfl, _, _, rfl⟩
abbrev mX12_best : slMt := (yX12_best, cX12_best, 5, (some .int))
theorem ms_X12_best : slMs mX12_best 0 := ⟨lw_in1 _ (List.mem_of_getElem? (i := 13) (by decide +kernel)), lw_in9 _ (List.mem_of_getElem? (i := 216) (by decide +kernel)), by decide +kernel, by decide⟩
theorem mv_X12_best : Cond.instanceMethod mX12_best.1 ∈ lw_tbl ∧ Cond.selects mX12_best.1.cls mX12_best.1 mX12_best.1 ∈ lw_tbl ∧ (slR 12).1 = 0 ∧ ∃ (T : u_T) (N : Nat), vwCl[12]? = some (mX12_best.1.cls, T, N) := ⟨lw_in9 _ (List.mem_of_getElem? (i := 214) (by decide +kernel)), lw_in9 _ (List.mem_of_getElem? (i := 215) (by decide +kernel)), rfl, _, _, rfl⟩
abbrev mX12_quarrels : slMt := (yX12_quarrels, cX12_quarrels, 2, (some .int))
theorem ms_X12_quarrels : slMs mX12_quarrels 1 := ⟨lw_in1 _ (List.mem_of_getElem? (i := 13) (by decide +kernel)), lw_in9 _ (List.mem_of_getElem? (i := 220) (by decide +kernel)), by decide +kernel, by decide⟩
theorem mv_X12_quarrels : Cond.instanceMethod mX12_quarrels.1 ∈ lw_tbl ∧ Cond.selects mX12_quarrels.1.cls mX12_quarrels.1 mX12_quarrels.1 ∈ lw_tbl ∧ (slR 12).1 = 0 ∧ ∃ (T : u_T) (N : Nat), vwCl[12]? = some (mX12_quarrels.1.cls, T, N) := ⟨lw_in9 _ (List.mem_of_getElem? (i := 218) (by decide +kernel)), lw_in9 _ (List.mem_of_getElem? (i := 219) (by decide +kernel)), rfl, _, _, rfl⟩
abbrev mX12_mooring : slMt := (yX12_mooring, cX12_mooring, 8, (some .int))
theorem ms_X12_mooring : slMs mX12_mooring 3 := ⟨lw_in1 _ (List.mem_of_getElem? (i := 13) (by decide +kernel)), lw_in9 _ (List.mem_of_getElem? (i := 224) (by decide +kernel)), by decide +kernel, by decide⟩
theorem mv_X12_mooring : Cond.instanceMethod mX12_mooring.1 ∈ lw_tbl ∧ Cond.selects mX12_mooring.1.cls mX12_mooring.1 mX12_mooring.1 ∈ lw_tbl ∧ (slR 12).1 = 0 ∧ ∃ (T : u_T) (N : Nat), vwCl[12]? = some (mX12_mooring.1.cls, T, N) := ⟨lw_in9 _ (List.mem_of_getElem? (i := 222) (by decide +kernel)), lw_in9 _ (List.mem_of_getElem? (i := 223) (by decide +kernel)), rfl, _, _, rfl⟩
abbrev mX12_log : slMt := (yX12_log, cX12_log, 6, (some .int))
theorem ms_X12_log : slMs mX12_log 4 := ⟨lw_in1 _ (List.mem_of_getElem? (i := 13) (by decide +kernel)), lw_in9 _ (List.mem_of_getElem? (i := 228) (by decide +kernel)), by decide +kernel, by decide⟩
theorem mv_X12_log : Cond.instanceMethod mX12_log.1 ∈ lw_tbl ∧ Cond.selects mX12_log.1.cls mX12_log.1 mX12_log.1 ∈ lw_tbl ∧ (slR 12).1 = 0 ∧ ∃ (T : u_T) (N : Nat), vwCl[12]? = some (mX12_log.1.cls, T, N) := ⟨lw_in9 _ (List.mem_of_getElem? (i := 226) (by decide +kernel)), lw_in9 _ (List.mem_of_getElem? (i := 227) (by decide +kernel)), rfl, _, _, rfl⟩
abbrev mX12_forget : slMt := (yX12_forget, cX12_forget, 1, none)
theorem ms_X12_forget : slMs mX12_forget 0 := ⟨lw_in1 _ (List.mem_of_getElem? (i := 13) (by decide +kernel)), lw_in9 _ (List.mem_of_getElem? (i := 232) (by decide +kernel)), by decide +kernel, by decide⟩
theorem mv_X12_forget : Cond.instanceMethod mX12_forget.1 ∈ lw_tbl ∧ Cond.selects mX12_forget.1.cls mX12_forget.1 mX12_forget.1 ∈ lw_tbl ∧ (slR 12).1 = 0 ∧ ∃ (T : u_T) (N : Nat), vwCl[12]? = some (mX12_forget.1.cls, T, N) := ⟨lw_in9 _ (List.mem_of_getElem? (i := 230) (by decide +kernel)), lw_in9 _ (List.mem_of_getElem? (i := 231) (by decide +kernel)), rfl, _, _, rfl⟩
abbrev mX12_falseNow : slMt := (yX12_falseNow, cX12_falseNow, 3, (some .int))
theorem ms_X12_falseNow : slMs mX12_falseNow 0 := ⟨lw_in1 _ (List.mem_of_getElem? (i := 13) (by decide +kernel)), lw_in10 _ (List.mem_of_getElem? (i := 0) (by decide +kernel)), by decide +kernel, by decide⟩
theorem mv_X12_falseNow : Cond.instanceMethod mX12_falseNow.1 ∈ lw_tbl ∧ Cond.selects mX12_falseNow.1.cls mX12_falseNow.1 mX12_falseNow.1 ∈ lw_tbl ∧ (slR 12).1 = 0 ∧ ∃ (T : u_T) (N : Nat), vwCl[12]? = some (mX12_falseNow.1.cls, T, N) := ⟨lw_in9 _ (List.mem_of_getElem? (i := 239) (by decide +kernel)), lw_in0 _ (List.mem_of_getElem? (i := 130) (by decide +kernel)), rfl, _, _, rfl⟩
abbrev mX12_falsely : slMt := (yX12_falsely, cX12_falsely, 1, (some .int))
theorem ms_X12_falsely : slMs mX12_falsely 0 := ⟨lw_in1 _ (List.mem_of_getElem? (i := 13) (by decide +kernel)), lw_in9 _ (List.mem_of_getElem? (i := 236) (by decide +kernel)), by decide +kernel, by decide⟩
theorem mv_X12_falsely : Cond.instanceMethod mX12_falsely.1 ∈ lw_tbl ∧ Cond.selects mX12_falsely.1.cls mX12_falsely.1 mX12_falsely.1 ∈ lw_tbl ∧ (slR 12).1 = 0 ∧ ∃ (T : u_T) (N : Nat), vwCl[12]? = some (mX12_falsely.1.cls, T, N) := ⟨lw_in9 _ (List.mem_of_getElem? (i := 234) (by decide +kernel)), lw_in9 _ (List.mem_of_getElem? (i := 235) (by decide +kernel)), rfl, _, _, rfl⟩
abbrev mX12_begun : slMt := (yX12_begun, cX12_begun, 9, (some .int))
theorem ms_X12_begun : slMs mX12_begun 2 := ⟨lw_in1 _ (List.mem_of_getElem? (i := 13) (by decide +kernel)), lw_in10 _ (List.mem_of_getElem? (i := 4) (by decide +kernel)), by decide +kernel, by decide⟩
theorem mv_X12_begun : Cond.instanceMethod mX12_begun.1 ∈ lw_tbl ∧ Cond.selects mX12_begun.1.cls mX12_begun.1 mX12_begun.1 ∈ lw_tbl ∧ (slR 12).1 = 0 ∧ ∃ (T : u_T) (N : Nat), vwCl[12]? = some (mX12_begun.1.cls, T, N) := ⟨lw_in10 _ (List.mem_of_getElem? (i := 2) (by decide +kernel)), lw_in10 _ (List.mem_of_getElem? (i := 3) (by decide +kernel)), rfl, _, _, rfl⟩
abbrev mX12_gains : slMt := (yX12_gains, cX12_gains, 13, (some .int))
theorem ms_X12_gains : slMs mX12_gains 6 := ⟨lw_in1 _ (List.mem_of_getElem? (i := 13) (by decide +kernel)), lw_in10 _ (List.mem_of_getElem? (i := 12) (by decide +kernel)), by decide +kernel, by decide⟩
theorem mv_X12_gains : Cond.instanceMethod mX12_gains.1 ∈ lw_tbl ∧ Cond.selects mX12_gains.1.cls mX12_gains.1 mX12_gains.1 ∈ lw_tbl ∧ (slR 12).1 = 0 ∧ ∃ (T : u_T) (N : Nat), vwCl[12]? = some (mX12_gains.1.cls, T, N) := ⟨lw_in10 _ (List.mem_of_getElem? (i := 11) (by decide +kernel)), lw_in0 _ (List.mem_of_getElem? (i := 131) (by decide +kernel)), rfl, _, _, rfl⟩
abbrev mX12_game : slMt := (yX12_game, cX12_game, 11, (some .int))
theorem ms_X12_game : slMs mX12_game 5 := ⟨lw_in1 _ (List.mem_of_getElem? (i := 13) (by decide +kernel)), lw_in10 _ (List.mem_of_getElem? (i := 8) (by decide +kernel)), by decide +kernel, by decide⟩
theorem mv_X12_game : Cond.instanceMethod mX12_game.1 ∈ lw_tbl ∧ Cond.selects mX12_game.1.cls mX12_game.1 mX12_game.1 ∈ lw_tbl ∧ (slR 12).1 = 0 ∧ ∃ (T : u_T) (N : Nat), vwCl[12]? = some (mX12_game.1.cls, T, N) := ⟨lw_in10 _ (List.mem_of_getElem? (i := 6) (by decide +kernel)), lw_in10 _ (List.mem_of_getElem? (i := 7) (by decide +kernel)), rfl, _, _, rfl⟩
abbrev mX12_draw : slMt := (yX12_draw, cX12_draw, 2, (some .int))
theorem ms_X12_draw : slMs mX12_draw 1 := ⟨lw_in1 _ (List.mem_of_getElem? (i := 13) (by decide +kernel)), lw_in10 _ (List.mem_of_getElem? (i := 20) (by decide +kernel)), by decide +kernel, by decide⟩
theorem mv_X12_draw : Cond.instanceMethod mX12_draw.1 ∈ lw_tbl ∧ Cond.selects mX12_draw.1.cls mX12_draw.1 mX12_draw.1 ∈ lw_tbl ∧ (slR 12).1 = 0 ∧ ∃ (T : u_T) (N : Nat), vwCl[12]? = some (mX12_draw.1.cls, T, N) := ⟨lw_in10 _ (List.mem_of_getElem? (i := 19) (by decide +kernel)), lw_in0 _ (List.mem_of_getElem? (i := 132) (by decide +kernel)), rfl, _, _, rfl⟩
abbrev mX12_years : slMt := (yX12_years, cX12_years, 10, (some .int))
theorem ms_X12_years : slMs mX12_years 3 := ⟨lw_in1 _ (List.mem_of_getElem? (i := 13) (by decide +kernel)), lw_in10 _ (List.mem_of_getElem? (i := 16) (by decide +kernel)), by decide +kernel, by decide⟩
theorem mv_X12_years : Cond.instanceMethod mX12_years.1 ∈ lw_tbl ∧ Cond.selects mX12_years.1.cls mX12_years.1 mX12_years.1 ∈ lw_tbl ∧ (slR 12).1 = 0 ∧ ∃ (T : u_T) (N : Nat), vwCl[12]? = some (mX12_years.1.cls, T, N) := ⟨lw_in10 _ (List.mem_of_getElem? (i := 14) (by decide +kernel)), lw_in10 _ (List.mem_of_getElem? (i := 15) (by decide +kernel)), rfl, _, _, rfl⟩
abbrev mX12_father : slMt := (yX12_father, cX12_father, 8, (some .int))
theorem ms_X12_father : slMs mX12_father 2 := ⟨lw_in1 _ (List.mem_of_getElem? (i := 13) (by decide +kernel)), lw_in10 _ (List.mem_of_getElem? (i := 25) (by decide +kernel)), by decide +kernel, by decide⟩
theorem mv_X12_father : Cond.instanceMethod mX12_father.1 ∈ lw_tbl ∧ Cond.selects mX12_father.1.cls mX12_father.1 mX12_father.1 ∈ lw_tbl ∧ (slR 12).1 = 0 ∧ ∃ (T : u_T) (N : Nat), vwCl[12]? = some (mX12_father.1.cls, T, N) := ⟨lw_in10 _ (List.mem_of_getElem? (i := 23) (by decide +kernel)), lw_in10 _ (List.mem_of_getElem? (i := 24) (by decide +kernel)), rfl, _, _, rfl⟩
abbrev mX12_shows : slMt := (yX12_shows, cX12_shows, 5, (some .int))
theorem ms_X12_shows : slMs mX12_shows 1 := ⟨lw_in1 _ (List.mem_of_getElem? (i := 13) (by decide +kernel)), lw_in10 _ (List.mem_of_getElem? (i := 33) (by decide +kernel)), by decide +kernel, by decide⟩
theorem mv_X12_shows : Cond.instanceMethod mX12_shows.1 ∈ lw_tbl ∧ Cond.selects mX12_shows.1.cls mX12_shows.1 mX12_shows.1 ∈ lw_tbl ∧ (slR 12).1 = 0 ∧ ∃ (T : u_T) (N : Nat), vwCl[12]? = some (mX12_shows.1.cls, T, N) := ⟨lw_in10 _ (List.mem_of_getElem? (i := 32) (by decide +kernel)), lw_in0 _ (List.mem_of_getElem? (i := 133) (by decide +kernel)), rfl, _, _, rfl⟩
abbrev mX12_journey : slMt := (yX12_journey, cX12_journey, 6, (some .int))
theorem ms_X12_journey : slMs mX12_journey 2 := ⟨lw_in1 _ (List.mem_of_getElem? (i := 13) (by decide +kernel)), lw_in10 _ (List.mem_of_getElem? (i := 29) (by decide +kernel)), by decide +kernel, by decide⟩
theorem mv_X12_journey : Cond.instanceMethod mX12_journey.1 ∈ lw_tbl ∧ Cond.selects mX12_journey.1.cls mX12_journey.1 mX12_journey.1 ∈ lw_tbl ∧ (slR 12).1 = 0 ∧ ∃ (T : u_T) (N : Nat), vwCl[12]? = some (mX12_journey.1.cls, T, N) := ⟨lw_in10 _ (List.mem_of_getElem? (i := 27) (by decide +kernel)), lw_in10 _ (List.mem_of_getElem? (i := 28) (by decide +kernel)), rfl, _, _, rfl⟩
abbrev mX12_brightest : slMt := (yX12_brightest, cX12_brightest, 5, (some .int))
theorem ms_X12_brightest : slMs mX12_brightest 0 := ⟨lw_in1 _ (List.mem_of_getElem? (i := 13) (by decide +kernel)), lw_in10 _ (List.mem_of_getElem? (i := 37) (by decide +kernel)), by decide +kernel, by decide⟩
theorem mv_X12_brightest : Cond.instanceMethod mX12_brightest.1 ∈ lw_tbl ∧ Cond.selects mX12_brightest.1.cls mX12_brightest.1 mX12_brightest.1 ∈ lw_tbl ∧ (slR 12).1 = 0 ∧ ∃ (T : u_T) (N : Nat), vwCl[12]? = some (mX12_brightest.1.cls, T, N) := ⟨lw_in10 _ (List.mem_of_getElem? (i := 35) (by decide +kernel)), lw_in10 _ (List.mem_of_getElem? (i := 36) (by decide +kernel)), rfl, _, _, rfl⟩
abbrev mX12_sparing : slMt := (yX12_sparing, cX12_sparing, 6, (some .int))
theorem ms_X12_sparing : slMs mX12_sparing 1 := ⟨lw_in1 _ (List.mem_of_getElem? (i := 13) (by decide +kernel)), lw_in10 _ (List.mem_of_getElem? (i := 41) (by decide +kernel)), by decide +kernel, by decide⟩
theorem mv_X12_sparing : Cond.instanceMethod mX12_sparing.1 ∈ lw_tbl ∧ Cond.selects mX12_sparing.1.cls mX12_sparing.1 mX12_sparing.1 ∈ lw_tbl ∧ (slR 12).1 = 0 ∧ ∃ (T : u_T) (N : Nat), vwCl[12]? = some (mX12_sparing.1.cls, T, N) := ⟨lw_in10 _ (List.mem_of_getElem? (i := 39) (by decide +kernel)), lw_in10 _ (List.mem_of_getElem? (i := 40) (by decide +kernel)), rfl, _, _, rfl⟩
abbrev mX12_start : slMt := (yX12_start, cX12_start, 8, (some .int))
theorem ms_X12_start : slMs mX12_start 2 := ⟨lw_in1 _ (List.mem_of_getElem? (i := 13) (by decide +kernel)), lw_in10 _ (List.mem_of_getElem? (i := 45) (by decide +kernel)), by decide +kernel, by decide⟩
theorem mv_X12_start : Cond.instanceMethod mX12_start.1 ∈ lw_tbl ∧ Cond.selects mX12_start.1.cls mX12_start.1 mX12_start.1 ∈ lw_tbl ∧ (slR 12).1 = 0 ∧ ∃ (T : u_T) (N : Nat), vwCl[12]? = some (mX12_start.1.cls, T, N) := ⟨lw_in10 _ (List.mem_of_getElem? (i := 43) (by decide +kernel)), lw_in10 _ (List.mem_of_getElem? (i := 44) (by decide +kernel)), rfl, _, _, rfl⟩
abbrev mX12_alone : slMt := (yX12_alone, cX12_alone, 6, (some .int))
theorem ms_X12_alone : slMs mX12_alone 1 := ⟨lw_in1 _ (List.mem_of_getElem? (i := 13) (by decide +kernel)), lw_in10 _ (List.mem_of_getElem? (i := 49) (by decide +kernel)), by decide +kernel, by decide⟩
theorem mv_X12_alone : Cond.instanceMethod mX12_alone.1 ∈ lw_tbl ∧ Cond.selects mX12_alone.1.cls mX12_alone.1 mX12_alone.1 ∈ lw_tbl ∧ (slR 12).1 = 0 ∧ ∃ (T : u_T) (N : Nat), vwCl[12]? = some (mX12_alone.1.cls, T, N) := ⟨lw_in10 _ (List.mem_of_getElem? (i := 47) (by decide +kernel)), lw_in10 _ (List.mem_of_getElem? (i := 48) (by decide +kernel)), rfl, _, _, rfl⟩
abbrev mX12_image : slMt := (yX12_image, cX12_image, 1, none)
theorem ms_X12_image : slMs mX12_image 0 := ⟨lw_in1 _ (List.mem_of_getElem? (i := 13) (by decide +kernel)), lw_in10 _ (List.mem_of_getElem? (i := 53) (by decide +kernel)), by decide +kernel, by decide⟩
theorem mv_X12_image : Cond.instanceMethod mX12_image.1 ∈ lw_tbl ∧ Cond.selects mX12_image.1.cls mX12_image.1 mX12_image.1 ∈ lw_tbl ∧ (slR 12).1 = 0 ∧ ∃ (T : u_T) (N : Nat), vwCl[12]? = some (mX12_image.1.cls, T, N) := ⟨lw_in10 _ (List.mem_of_getElem? (i := 51) (by decide +kernel)), lw_in10 _ (List.mem_of_getElem? (i := 52) (by decide +kernel)), rfl, _, _, rfl⟩
abbrev mX12_restore : slMt := (yX12_restore, cX12_restore, 1, (some .boolean))
theorem ms_X12_restore : slMs mX12_restore 0 := ⟨lw_in1 _ (List.mem_of_getElem? (i := 13) (by decide +kernel)), lw_in10 _ (List.mem_of_getElem? (i := 57) (by decide +kernel)), by decide +kernel, by decide⟩
theorem mv_X12_restore : Cond.instanceMethod mX12_restore.1 ∈ lw_tbl ∧ Cond.selects mX12_restore.1.cls mX12_restore.1 mX12_restore.1 ∈ lw_tbl ∧ (slR 12).1 = 0 ∧ ∃ (T : u_T) (N : Nat), vwCl[12]? = some (mX12_restore.1.cls, T, N) := ⟨lw_in10 _ (List.mem_of_getElem? (i := 55) (by decide +kernel)), lw_in10 _ (List.mem_of_getElem? (i := 56) (by decide +kernel)), rfl, _, _, rfl⟩
abbrev mJ6_bitCount_0f7a4 : slMt := (yJ6_bitCount_0f7a4, cJ6_bitCount_0f7a4, 1, (some .int))
theorem ms_J6_bitCount_0f7a4 : slMs mJ6_bitCount_0f7a4 1 := ⟨lw_in1 _ (List.mem_of_getElem? (i := 26) (by decide +kernel)), lw_in6 _ (List.mem_of_getElem? (i := 4) (by decide +kernel)), by decide +kernel, by decide⟩
theorem mt_J6_bitCount_0f7a4 : Cond.static mJ6_bitCount_0f7a4.1 ∈ lw_tbl := lw_in6 _ (List.mem_of_getElem? (i := 3) (by decide +kernel))
abbrev mJ0_length_8abf5 : slMt := (yJ0_length_8abf5, cJ0_length_8abf5, 1, (some .int))
theorem ms_J0_length_8abf5 : slMs mJ0_length_8abf5 0 := ⟨lw_in1 _ (List.mem_of_getElem? (i := 19) (by decide +kernel)), lw_in4 _ (List.mem_of_getElem? (i := 75) (by decide +kernel)), by decide +kernel, by decide⟩
theorem mv_J0_length_8abf5 : Cond.instanceMethod mJ0_length_8abf5.1 ∈ lw_tbl ∧ Cond.selects "java/lang/String" mJ0_length_8abf5.1 mJ0_length_8abf5.1 ∈ lw_tbl ∧ mJ0_length_8abf5.1.cls = "java/lang/String" := ⟨lw_in4 _ (List.mem_of_getElem? (i := 73) (by decide +kernel)), lw_in4 _ (List.mem_of_getElem? (i := 74) (by decide +kernel)), rfl⟩
abbrev mJ0_charAt_5068e : slMt := (yJ0_charAt_5068e, cJ0_charAt_5068e, 2, (some .char))
theorem ms_J0_charAt_5068e : slMs mJ0_charAt_5068e 1 := ⟨lw_in1 _ (List.mem_of_getElem? (i := 19) (by decide +kernel)), lw_in4 _ (List.mem_of_getElem? (i := 149) (by decide +kernel)), by decide +kernel, by decide⟩
theorem mv_J0_charAt_5068e : Cond.instanceMethod mJ0_charAt_5068e.1 ∈ lw_tbl ∧ Cond.selects "java/lang/String" mJ0_charAt_5068e.1 mJ0_charAt_5068e.1 ∈ lw_tbl ∧ mJ0_charAt_5068e.1.cls = "java/lang/String" := ⟨lw_in4 _ (List.mem_of_getElem? (i := 147) (by decide +kernel)), lw_in4 _ (List.mem_of_getElem? (i := 148) (by decide +kernel)), rfl⟩
abbrev mJ0_indexOf_0f7a4 : slMt := (yJ0_indexOf_0f7a4, cJ0_indexOf_0f7a4, 2, (some .int))
theorem ms_J0_indexOf_0f7a4 : slMs mJ0_indexOf_0f7a4 1 := ⟨lw_in1 _ (List.mem_of_getElem? (i := 19) (by decide +kernel)), lw_in4 _ (List.mem_of_getElem? (i := 61) (by decide +kernel)), by decide +kernel, by decide⟩
theorem mv_J0_indexOf_0f7a4 : Cond.instanceMethod mJ0_indexOf_0f7a4.1 ∈ lw_tbl ∧ Cond.selects "java/lang/String" mJ0_indexOf_0f7a4.1 mJ0_indexOf_0f7a4.1 ∈ lw_tbl ∧ mJ0_indexOf_0f7a4.1.cls = "java/lang/String" := ⟨lw_in4 _ (List.mem_of_getElem? (i := 59) (by decide +kernel)), lw_in4 _ (List.mem_of_getElem? (i := 60) (by decide +kernel)), rfl⟩
abbrev mJ0_indexOf_7cf53 : slMt := (yJ0_indexOf_7cf53, cJ0_indexOf_7cf53, 3, (some .int))
theorem ms_J0_indexOf_7cf53 : slMs mJ0_indexOf_7cf53 2 := ⟨lw_in1 _ (List.mem_of_getElem? (i := 19) (by decide +kernel)), lw_in4 _ (List.mem_of_getElem? (i := 65) (by decide +kernel)), by decide +kernel, by decide⟩
theorem mv_J0_indexOf_7cf53 : Cond.instanceMethod mJ0_indexOf_7cf53.1 ∈ lw_tbl ∧ Cond.selects "java/lang/String" mJ0_indexOf_7cf53.1 mJ0_indexOf_7cf53.1 ∈ lw_tbl ∧ mJ0_indexOf_7cf53.1.cls = "java/lang/String" := ⟨lw_in4 _ (List.mem_of_getElem? (i := 63) (by decide +kernel)), lw_in4 _ (List.mem_of_getElem? (i := 64) (by decide +kernel)), rfl⟩
abbrev mJ0_coder_7d493 : slMt := (yJ0_coder_7d493, cJ0_coder_7d493, 1, (some .byte))
theorem ms_J0_coder_7d493 : slMs mJ0_coder_7d493 0 := ⟨lw_in1 _ (List.mem_of_getElem? (i := 19) (by decide +kernel)), lw_in4 _ (List.mem_of_getElem? (i := 79) (by decide +kernel)), by decide +kernel, by decide⟩
theorem mv_J0_coder_7d493 : Cond.instanceMethod mJ0_coder_7d493.1 ∈ lw_tbl ∧ Cond.selects "java/lang/String" mJ0_coder_7d493.1 mJ0_coder_7d493.1 ∈ lw_tbl ∧ mJ0_coder_7d493.1.cls = "java/lang/String" := ⟨lw_in4 _ (List.mem_of_getElem? (i := 77) (by decide +kernel)), lw_in4 _ (List.mem_of_getElem? (i := 78) (by decide +kernel)), rfl⟩
abbrev mJ0_isLatin1_aae02 : slMt := (yJ0_isLatin1_aae02, cJ0_isLatin1_aae02, 1, (some .boolean))
theorem ms_J0_isLatin1_aae02 : slMs mJ0_isLatin1_aae02 0 := ⟨lw_in1 _ (List.mem_of_getElem? (i := 19) (by decide +kernel)), lw_in4 _ (List.mem_of_getElem? (i := 69) (by decide +kernel)), by decide +kernel, by decide⟩
theorem mv_J0_isLatin1_aae02 : Cond.instanceMethod mJ0_isLatin1_aae02.1 ∈ lw_tbl ∧ Cond.selects "java/lang/String" mJ0_isLatin1_aae02.1 mJ0_isLatin1_aae02.1 ∈ lw_tbl ∧ mJ0_isLatin1_aae02.1.cls = "java/lang/String" := ⟨lw_in4 _ (List.mem_of_getElem? (i := 67) (by decide +kernel)), lw_in4 _ (List.mem_of_getElem? (i := 68) (by decide +kernel)), rfl⟩
abbrev mJ0_checkIndex_df160 : slMt := (yJ0_checkIndex_df160, cJ0_checkIndex_df160, 2, none)
theorem ms_J0_checkIndex_df160 : slMs mJ0_checkIndex_df160 2 := ⟨lw_in1 _ (List.mem_of_getElem? (i := 19) (by decide +kernel)), lw_in4 _ (List.mem_of_getElem? (i := 155) (by decide +kernel)), by decide +kernel, by decide⟩
theorem mt_J0_checkIndex_df160 : Cond.static mJ0_checkIndex_df160.1 ∈ lw_tbl := lw_in4 _ (List.mem_of_getElem? (i := 154) (by decide +kernel))
abbrev mJ0_checkBoundsBeginEnd_23922 : slMt := (yJ0_checkBoundsBeginEnd_23922, cJ0_checkBoundsBeginEnd_23922, 3, none)
theorem ms_J0_checkBoundsBeginEnd_23922 : slMs mJ0_checkBoundsBeginEnd_23922 3 := ⟨lw_in1 _ (List.mem_of_getElem? (i := 19) (by decide +kernel)), lw_in4 _ (List.mem_of_getElem? (i := 108) (by decide +kernel)), by decide +kernel, by decide⟩
theorem mt_J0_checkBoundsBeginEnd_23922 : Cond.static mJ0_checkBoundsBeginEnd_23922.1 ∈ lw_tbl := lw_in4 _ (List.mem_of_getElem? (i := 107) (by decide +kernel))
abbrev mJ1_charAt_3b067 : slMt := (yJ1_charAt_3b067, cJ1_charAt_3b067, 2, (some .char))
theorem ms_J1_charAt_3b067 : slMs mJ1_charAt_3b067 2 := ⟨lw_in1 _ (List.mem_of_getElem? (i := 20) (by decide +kernel)), lw_in4 _ (List.mem_of_getElem? (i := 152) (by decide +kernel)), by decide +kernel, by decide⟩
theorem mt_J1_charAt_3b067 : Cond.static mJ1_charAt_3b067.1 ∈ lw_tbl := lw_in4 _ (List.mem_of_getElem? (i := 151) (by decide +kernel))
abbrev mJ1_canEncode_9a6ad : slMt := (yJ1_canEncode_9a6ad, cJ1_canEncode_9a6ad, 1, (some .boolean))
theorem ms_J1_canEncode_9a6ad : slMs mJ1_canEncode_9a6ad 1 := ⟨lw_in1 _ (List.mem_of_getElem? (i := 20) (by decide +kernel)), lw_in4 _ (List.mem_of_getElem? (i := 85) (by decide +kernel)), by decide +kernel, by decide⟩
theorem mt_J1_canEncode_9a6ad : Cond.static mJ1_canEncode_9a6ad.1 ∈ lw_tbl := lw_in4 _ (List.mem_of_getElem? (i := 84) (by decide +kernel))
abbrev mJ1_indexOf_4cfef : slMt := (yJ1_indexOf_4cfef, cJ1_indexOf_4cfef, 4, (some .int))
theorem ms_J1_indexOf_4cfef : slMs mJ1_indexOf_4cfef 4 := ⟨lw_in1 _ (List.mem_of_getElem? (i := 20) (by decide +kernel)), lw_in4 _ (List.mem_of_getElem? (i := 82) (by decide +kernel)), by decide +kernel, by decide⟩
theorem mt_J1_indexOf_4cfef : Cond.static mJ1_indexOf_4cfef.1 ∈ lw_tbl := lw_in4 _ (List.mem_of_getElem? (i := 81) (by decide +kernel))
abbrev mJ1_indexOfChar_4cfef : slMt := (yJ1_indexOfChar_4cfef, cJ1_indexOfChar_4cfef, 6, (some .int))
theorem ms_J1_indexOfChar_4cfef : slMs mJ1_indexOfChar_4cfef 4 := ⟨lw_in1 _ (List.mem_of_getElem? (i := 20) (by decide +kernel)), lw_in4 _ (List.mem_of_getElem? (i := 90) (by decide +kernel)), by decide +kernel, by decide⟩
theorem mt_J1_indexOfChar_4cfef : Cond.static mJ1_indexOfChar_4cfef.1 ∈ lw_tbl := lw_in4 _ (List.mem_of_getElem? (i := 89) (by decide +kernel))
