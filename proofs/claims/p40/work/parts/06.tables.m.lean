section
theorem ix_lt {a : Int} {n : Nat} (h : 0 ≤ nw a ∧ nw a < n) : ix a < n := by unfold ix; omega
theorem sk_mut {a : Int} (h : a = 115 ∨ a = 116) : a.toNat < KC ∧ skF a.toNat = (0, 1000) := by rcases h with rfl | rfl <;> exact ⟨by decide +kernel, by decide +kernel⟩
theorem cq_X12_3 : CQ RX12 3 yX12_isIn cX12_isIn 3 (some .boolean) 3 := ⟨wm_1807, wm_124, wm_1809, by decide +kernel, by decide⟩
theorem st_X12_isIn : Cond.static yX12_isIn ∈ lw_gd := wm_1808
theorem gX12 : ∀ w ∈ u_ws RX12 TX12 101, w ∈ lw_gd := gd_all inX12 (by decide +kernel)
theorem af_X12_13_117 : AF RX12 13 117 0 := ⟨12, 101, RX12, TX12, by decide +kernel, by decide +kernel, rfl, by decide, gX12, wm_1498⟩
theorem sr_117_0 : srF 117 0 = 120 := by decide +kernel
theorem kc_118 : 118 < KC := by decide +kernel
theorem sk_118 : skF 118 = (0, 15) := by decide +kernel
theorem af_X12_17_117 : AF RX12 17 117 1 := ⟨12, 101, RX12, TX12, by decide +kernel, by decide +kernel, rfl, by decide, gX12, wm_1499⟩
theorem sr_117_1 : srF 117 1 = 121 := by decide +kernel
theorem kc_119 : 119 < KC := by decide +kernel
theorem sk_119 : skF 119 = (0, 15) := by decide +kernel
theorem af_X12_20_117 : AF RX12 20 117 2 := ⟨12, 101, RX12, TX12, by decide +kernel, by decide +kernel, rfl, by decide, gX12, wm_1500⟩
theorem sr_117_2 : srF 117 2 = 122 := by decide +kernel
theorem kc_120 : 120 < KC := by decide +kernel
theorem sk_120 : skF 120 = (0, 15) := by decide +kernel
theorem ap_X12_44_117 : AFp RX12 44 117 10 .int := ⟨12, 101, RX12, TX12, tyX12, by decide +kernel, by decide +kernel, rfl, by decide, gX12, wm_1508, tyX12_ok, nmX12, by decide +kernel, by decide +kernel⟩
theorem sr_117_10 : srF 117 10 = 0 := by decide +kernel
theorem af_X12_232_117 : AF RX12 232 117 11 := ⟨12, 101, RX12, TX12, by decide +kernel, by decide +kernel, rfl, by decide, gX12, wm_1509⟩
theorem sr_117_11 : srF 117 11 = 0 := by decide +kernel
theorem af_X12_23_117 : AF RX12 23 117 3 := ⟨12, 101, RX12, TX12, by decide +kernel, by decide +kernel, rfl, by decide, gX12, wm_1501⟩
theorem sr_117_3 : srF 117 3 = 123 := by decide +kernel
theorem kc_121 : 121 < KC := by decide +kernel
theorem sk_121 : skF 121 = (0, 8) := by decide +kernel
theorem af_X12_26_117 : AF RX12 26 117 4 := ⟨12, 101, RX12, TX12, by decide +kernel, by decide +kernel, rfl, by decide, gX12, wm_1502⟩
theorem sr_117_4 : srF 117 4 = 124 := by decide +kernel
theorem kc_122 : 122 < KC := by decide +kernel
theorem sk_122 : skF 122 = (0, 8) := by decide +kernel
theorem af_X12_29_117 : AF RX12 29 117 5 := ⟨12, 101, RX12, TX12, by decide +kernel, by decide +kernel, rfl, by decide, gX12, wm_1503⟩
theorem sr_117_5 : srF 117 5 = 125 := by decide +kernel
theorem kc_123 : 123 < KC := by decide +kernel
theorem sk_123 : skF 123 = (0, 8) := by decide +kernel
theorem ap_X12_232_117 : AFp RX12 232 117 11 .int := ⟨12, 101, RX12, TX12, tyX12, by decide +kernel, by decide +kernel, rfl, by decide, gX12, wm_1509, tyX12_ok, nmX12, by decide +kernel, by decide +kernel⟩
theorem cq_X12_238 : CQ RX12 238 yX12_isPoint cX12_isPoint 1 (some .boolean) 1 := ⟨wm_1822, wm_124, wm_1824, by decide +kernel, by decide⟩
theorem st_X12_isPoint : Cond.static yX12_isPoint ∈ lw_gd := wm_1823
theorem af_X12_235_117 : AF RX12 235 117 12 := ⟨12, 101, RX12, TX12, by decide +kernel, by decide +kernel, rfl, by decide, gX12, wm_1510⟩
theorem sr_117_12 : srF 117 12 = 0 := by decide +kernel
theorem af_X12_32_117 : AF RX12 32 117 6 := ⟨12, 101, RX12, TX12, by decide +kernel, by decide +kernel, rfl, by decide, gX12, wm_1504⟩
theorem sr_117_6 : srF 117 6 = 126 := by decide +kernel
theorem kc_124 : 124 < KC := by decide +kernel
theorem sk_124 : skF 124 = (0, 10) := by decide +kernel
theorem af_X12_35_117 : AF RX12 35 117 7 := ⟨12, 101, RX12, TX12, by decide +kernel, by decide +kernel, rfl, by decide, gX12, wm_1505⟩
theorem sr_117_7 : srF 117 7 = 127 := by decide +kernel
theorem kc_125 : 125 < KC := by decide +kernel
theorem sk_125 : skF 125 = (0, 10) := by decide +kernel
theorem af_X12_38_117 : AF RX12 38 117 8 := ⟨12, 101, RX12, TX12, by decide +kernel, by decide +kernel, rfl, by decide, gX12, wm_1506⟩
theorem sr_117_8 : srF 117 8 = 128 := by decide +kernel
theorem kc_126 : 126 < KC := by decide +kernel
theorem sk_126 : skF 126 = (0, 10) := by decide +kernel
theorem af_X12_41_117 : AF RX12 41 117 9 := ⟨12, 101, RX12, TX12, by decide +kernel, by decide +kernel, rfl, by decide, gX12, wm_1507⟩
theorem sr_117_9 : srF 117 9 = 129 := by decide +kernel
theorem kc_127 : 127 < KC := by decide +kernel
theorem sk_127 : skF 127 = (0, 10) := by decide +kernel
theorem ap_X12_235_117 : AFp RX12 235 117 12 .int := ⟨12, 101, RX12, TX12, tyX12, by decide +kernel, by decide +kernel, rfl, by decide, gX12, wm_1510, tyX12_ok, nmX12, by decide +kernel, by decide +kernel⟩
theorem af_X12_242_117 : AF RX12 242 117 37 := ⟨12, 101, RX12, TX12, by decide +kernel, by decide +kernel, rfl, by decide, gX12, wm_1535⟩
theorem sr_117_37 : srF 117 37 = 0 := by decide +kernel
theorem af_X12_103_117 : AF RX12 103 117 31 := ⟨12, 101, RX12, TX12, by decide +kernel, by decide +kernel, rfl, by decide, gX12, wm_1529⟩
theorem sr_117_31 : srF 117 31 = 148 := by decide +kernel
theorem kc_146 : 146 < KC := by decide +kernel
theorem sk_146 : skF 146 = (0, 500) := by decide +kernel
theorem ap_X12_242_117 : AFp RX12 242 117 37 .int := ⟨12, 101, RX12, TX12, tyX12, by decide +kernel, by decide +kernel, rfl, by decide, gX12, wm_1535, tyX12_ok, nmX12, by decide +kernel, by decide +kernel⟩
theorem ap_X12_321_117 : AFp RX12 321 117 42 .int := ⟨12, 101, RX12, TX12, tyX12, by decide +kernel, by decide +kernel, rfl, by decide, gX12, wm_1540, tyX12_ok, nmX12, by decide +kernel, by decide +kernel⟩
theorem sr_117_42 : srF 117 42 = 0 := by decide +kernel
theorem ap_X12_245_117 : AFp RX12 245 117 38 .int := ⟨12, 101, RX12, TX12, tyX12, by decide +kernel, by decide +kernel, rfl, by decide, gX12, wm_1536, tyX12_ok, nmX12, by decide +kernel, by decide +kernel⟩
theorem sr_117_38 : srF 117 38 = 0 := by decide +kernel
theorem ap_X12_375_117 : AFp RX12 375 117 35 .int := ⟨12, 101, RX12, TX12, tyX12, by decide +kernel, by decide +kernel, rfl, by decide, gX12, wm_1533, tyX12_ok, nmX12, by decide +kernel, by decide +kernel⟩
theorem sr_117_35 : srF 117 35 = 0 := by decide +kernel
theorem ap_X12_333_117 : AFp RX12 333 117 36 .int := ⟨12, 101, RX12, TX12, tyX12, by decide +kernel, by decide +kernel, rfl, by decide, gX12, wm_1534, tyX12_ok, nmX12, by decide +kernel, by decide +kernel⟩
theorem sr_117_36 : srF 117 36 = 0 := by decide +kernel
theorem af_X12_100_117 : AF RX12 100 117 30 := ⟨12, 101, RX12, TX12, by decide +kernel, by decide +kernel, rfl, by decide, gX12, wm_1528⟩
theorem sr_117_30 : srF 117 30 = 147 := by decide +kernel
theorem kc_145 : 145 < KC := by decide +kernel
theorem sk_145 : skF 145 = (1, 30) := by decide +kernel
theorem af_X12_245_117 : AF RX12 245 117 38 := ⟨12, 101, RX12, TX12, by decide +kernel, by decide +kernel, rfl, by decide, gX12, wm_1536⟩
theorem cq_X12_302 : CQ RX12 302 yX12_see cX12_see 2 (some .int) 1 := ⟨wm_1841, wm_124, wm_1844, by decide +kernel, by decide⟩
theorem cr_117_X12_see : CR 117 yX12_see := ⟨by decide +kernel, 12, 101, TX12, by decide +kernel, rfl, wm_1843, wm_55⟩
theorem ap_X12_248_117 : AFp RX12 248 117 40 .int := ⟨12, 101, RX12, TX12, tyX12, by decide +kernel, by decide +kernel, rfl, by decide, gX12, wm_1538, tyX12_ok, nmX12, by decide +kernel, by decide +kernel⟩
theorem sr_117_40 : srF 117 40 = 0 := by decide +kernel
theorem cq_X12_309 : CQ RX12 309 yX12_isLetter cX12_isLetter 1 (some .boolean) 1 := ⟨wm_1845, wm_124, wm_1847, by decide +kernel, by decide⟩
theorem st_X12_isLetter : Cond.static yX12_isLetter ∈ lw_gd := wm_1846
theorem cq_X12_315 : CQ RX12 315 yX12_isDigit cX12_isDigit 1 (some .boolean) 1 := ⟨wm_1878, wm_124, wm_1880, by decide +kernel, by decide⟩
theorem st_X12_isDigit : Cond.static yX12_isDigit ∈ lw_gd := wm_1879
theorem ap_X12_306_117 : AFp RX12 306 117 39 .int := ⟨12, 101, RX12, TX12, tyX12, by decide +kernel, by decide +kernel, rfl, by decide, gX12, wm_1537, tyX12_ok, nmX12, by decide +kernel, by decide +kernel⟩
theorem sr_117_39 : srF 117 39 = 0 := by decide +kernel
theorem ap_X12_318_117 : AFp RX12 318 117 41 .int := ⟨12, 101, RX12, TX12, tyX12, by decide +kernel, by decide +kernel, rfl, by decide, gX12, wm_1539, tyX12_ok, nmX12, by decide +kernel, by decide +kernel⟩
theorem sr_117_41 : srF 117 41 = 0 := by decide +kernel
theorem af_X12_248_117 : AF RX12 248 117 40 := ⟨12, 101, RX12, TX12, by decide +kernel, by decide +kernel, rfl, by decide, gX12, wm_1538⟩
theorem af_X12_318_117 : AF RX12 318 117 41 := ⟨12, 101, RX12, TX12, by decide +kernel, by decide +kernel, rfl, by decide, gX12, wm_1539⟩
theorem sw_X12_261 : (RX12, 261, "locks", 2) ∈ strL := List.mem_of_getElem? (i := 2) (by decide +kernel)
theorem cq_X12_251 : CQ RX12 251 yJ0_length_8abf5 cJ0_length_8abf5 1 (some .int) 0 := ⟨wm_1857, wm_125, wm_787, by decide +kernel, by decide⟩
theorem cq_X12_257 : CQ RX12 257 yJ0_charAt_5068e cJ0_charAt_5068e 2 (some .char) 1 := ⟨wm_1858, wm_125, wm_797, by decide +kernel, by decide⟩
theorem cq_X12_262 : CQ RX12 262 yX12_is cX12_is 4 (some .boolean) 1 := ⟨wm_1853, wm_124, wm_1856, by decide +kernel, by decide⟩
theorem cr_117_X12_is : CR 117 yX12_is := ⟨by decide +kernel, 12, 101, TX12, by decide +kernel, rfl, wm_1855, wm_57⟩
theorem sw_X12_266 : (RX12, 266, "tunnel", 3) ∈ strL := List.mem_of_getElem? (i := 3) (by decide +kernel)
theorem sw_X12_267 : (RX12, 267, "price", 4) ∈ strL := List.mem_of_getElem? (i := 4) (by decide +kernel)
theorem sw_X12_269 : (RX12, 269, "hold", 5) ∈ strL := List.mem_of_getElem? (i := 5) (by decide +kernel)
theorem sw_X12_271 : (RX12, 271, "harm", 6) ∈ strL := List.mem_of_getElem? (i := 6) (by decide +kernel)
theorem sw_X12_273 : (RX12, 273, "taught", 7) ∈ strL := List.mem_of_getElem? (i := 7) (by decide +kernel)
theorem sw_X12_275 : (RX12, 275, "up", 8) ∈ strL := List.mem_of_getElem? (i := 8) (by decide +kernel)
theorem sw_X12_277 : (RX12, 277, "down", 9) ∈ strL := List.mem_of_getElem? (i := 9) (by decide +kernel)
theorem sw_X12_279 : (RX12, 279, "when", 10) ∈ strL := List.mem_of_getElem? (i := 10) (by decide +kernel)
theorem sw_X12_281 : (RX12, 281, "or", 11) ∈ strL := List.mem_of_getElem? (i := 11) (by decide +kernel)
theorem sw_X12_283 : (RX12, 283, "and", 12) ∈ strL := List.mem_of_getElem? (i := 12) (by decide +kernel)
theorem sw_X12_285 : (RX12, 285, "not", 13) ∈ strL := List.mem_of_getElem? (i := 13) (by decide +kernel)
theorem sw_X12_287 : (RX12, 287, "day", 14) ∈ strL := List.mem_of_getElem? (i := 14) (by decide +kernel)
theorem sw_X12_289 : (RX12, 289, "week", 15) ∈ strL := List.mem_of_getElem? (i := 15) (by decide +kernel)
theorem sw_X12_291 : (RX12, 291, "water", 16) ∈ strL := List.mem_of_getElem? (i := 16) (by decide +kernel)
theorem sw_X12_292 : (RX12, 292, "berths", 17) ∈ strL := List.mem_of_getElem? (i := 17) (by decide +kernel)
theorem sw_X12_294 : (RX12, 294, "away", 18) ∈ strL := List.mem_of_getElem? (i := 18) (by decide +kernel)
theorem sw_X12_296 : (RX12, 296, "age", 19) ∈ strL := List.mem_of_getElem? (i := 19) (by decide +kernel)
theorem sw_X12_298 : (RX12, 298, "depth", 20) ∈ strL := List.mem_of_getElem? (i := 20) (by decide +kernel)
theorem sw_X12_300 : (RX12, 300, "said", 21) ∈ strL := List.mem_of_getElem? (i := 21) (by decide +kernel)
theorem cq_X12_312 : CQ RX12 312 yX12_word cX12_word 1 (some .int) 0 := ⟨wm_1848, wm_124, wm_1851, by decide +kernel, by decide⟩
theorem cr_117_X12_word : CR 117 yX12_word := ⟨by decide +kernel, 12, 101, TX12, by decide +kernel, rfl, wm_1850, wm_56⟩
theorem cq_X12_330 : CQ RX12 330 yX12_next0 cX12_next0 3 none 0 := ⟨wm_1837, wm_124, wm_1840, by decide +kernel, by decide⟩
theorem cr_117_X12_next0 : CR 117 yX12_next0 := ⟨by decide +kernel, 12, 101, TX12, by decide +kernel, rfl, wm_1839, wm_54⟩
theorem af_X12_306_117 : AF RX12 306 117 39 := ⟨12, 101, RX12, TX12, by decide +kernel, by decide +kernel, rfl, by decide, gX12, wm_1537⟩
theorem af_X12_375_117 : AF RX12 375 117 35 := ⟨12, 101, RX12, TX12, by decide +kernel, by decide +kernel, rfl, by decide, gX12, wm_1533⟩
theorem ap_X12_336_117 : AFp RX12 336 117 45 .int := ⟨12, 101, RX12, TX12, tyX12, by decide +kernel, by decide +kernel, rfl, by decide, gX12, wm_1543, tyX12_ok, nmX12, by decide +kernel, by decide +kernel⟩
theorem sr_117_45 : srF 117 45 = 0 := by decide +kernel
theorem af_X12_69_117 : AF RX12 69 117 20 := ⟨12, 101, RX12, TX12, by decide +kernel, by decide +kernel, rfl, by decide, gX12, wm_1518⟩
theorem sr_117_20 : srF 117 20 = 137 := by decide +kernel
theorem kc_135 : 135 < KC := by decide +kernel
theorem sk_135 : skF 135 = (0, 16) := by decide +kernel
theorem af_X12_78_117 : AF RX12 78 117 23 := ⟨12, 101, RX12, TX12, by decide +kernel, by decide +kernel, rfl, by decide, gX12, wm_1521⟩
theorem sr_117_23 : srF 117 23 = 140 := by decide +kernel
theorem af_X12_333_117 : AF RX12 333 117 36 := ⟨12, 101, RX12, TX12, by decide +kernel, by decide +kernel, rfl, by decide, gX12, wm_1534⟩
theorem kc_138 : 138 < KC := by decide +kernel
theorem sk_138 : skF 138 = (0, 16) := by decide +kernel
theorem af_X12_81_117 : AF RX12 81 117 24 := ⟨12, 101, RX12, TX12, by decide +kernel, by decide +kernel, rfl, by decide, gX12, wm_1522⟩
theorem sr_117_24 : srF 117 24 = 141 := by decide +kernel
theorem kc_139 : 139 < KC := by decide +kernel
theorem sk_139 : skF 139 = (0, 16) := by decide +kernel
theorem af_X12_84_117 : AF RX12 84 117 25 := ⟨12, 101, RX12, TX12, by decide +kernel, by decide +kernel, rfl, by decide, gX12, wm_1523⟩
theorem sr_117_25 : srF 117 25 = 142 := by decide +kernel
theorem kc_140 : 140 < KC := by decide +kernel
theorem sk_140 : skF 140 = (0, 16) := by decide +kernel
theorem ap_X12_324_117 : AFp RX12 324 117 43 .int := ⟨12, 101, RX12, TX12, tyX12, by decide +kernel, by decide +kernel, rfl, by decide, gX12, wm_1541, tyX12_ok, nmX12, by decide +kernel, by decide +kernel⟩
theorem sr_117_43 : srF 117 43 = 0 := by decide +kernel
theorem cq_X12_327 : CQ RX12 327 yX12_bad cX12_bad 2 (some .boolean) 1 := ⟨wm_1885, wm_124, wm_1888, by decide +kernel, by decide⟩
theorem cr_117_X12_bad : CR 117 yX12_bad := ⟨by decide +kernel, 12, 101, TX12, by decide +kernel, rfl, wm_1887, wm_59⟩
theorem af_X12_87_117 : AF RX12 87 117 26 := ⟨12, 101, RX12, TX12, by decide +kernel, by decide +kernel, rfl, by decide, gX12, wm_1524⟩
theorem sr_117_26 : srF 117 26 = 143 := by decide +kernel
theorem kc_141 : 141 < KC := by decide +kernel
theorem sk_141 : skF 141 = (0, 1020) := by decide +kernel
theorem cq_X12_342 : CQ RX12 342 yX12_lay cX12_lay 3 none 2 := ⟨wm_1917, wm_124, wm_1920, by decide +kernel, by decide⟩
theorem cr_117_X12_lay : CR 117 yX12_lay := ⟨by decide +kernel, 12, 101, TX12, by decide +kernel, rfl, wm_1919, wm_67⟩
theorem cq_X12_346 : CQ RX12 346 yX12_unit cX12_unit 2 (some .boolean) 0 := ⟨wm_1913, wm_124, wm_1916, by decide +kernel, by decide⟩
theorem cr_117_X12_unit : CR 117 yX12_unit := ⟨by decide +kernel, 12, 101, TX12, by decide +kernel, rfl, wm_1915, wm_66⟩
theorem cq_X12_349 : CQ RX12 349 yX12_number cX12_number 3 (some .boolean) 2 := ⟨wm_1893, wm_124, wm_1896, by decide +kernel, by decide⟩
theorem cr_117_X12_number : CR 117 yX12_number := ⟨by decide +kernel, 12, 101, TX12, by decide +kernel, rfl, wm_1895, wm_61⟩
theorem cq_X12_338 : CQ RX12 338 yX12_product cX12_product 3 (some .boolean) 0 := ⟨wm_1909, wm_124, wm_1912, by decide +kernel, by decide⟩
theorem cr_117_X12_product : CR 117 yX12_product := ⟨by decide +kernel, 12, 101, TX12, by decide +kernel, rfl, wm_1911, wm_65⟩
theorem cq_X12_368 : CQ RX12 368 yX12_sumUp cX12_sumUp 2 (some .boolean) 0 := ⟨wm_1905, wm_124, wm_1908, by decide +kernel, by decide⟩
theorem cr_117_X12_sumUp : CR 117 yX12_sumUp := ⟨by decide +kernel, 12, 101, TX12, by decide +kernel, rfl, wm_1907, wm_64⟩
theorem af_X12_72_117 : AF RX12 72 117 21 := ⟨12, 101, RX12, TX12, by decide +kernel, by decide +kernel, rfl, by decide, gX12, wm_1519⟩
theorem sr_117_21 : srF 117 21 = 138 := by decide +kernel
theorem af_X12_75_117 : AF RX12 75 117 22 := ⟨12, 101, RX12, TX12, by decide +kernel, by decide +kernel, rfl, by decide, gX12, wm_1520⟩
theorem sr_117_22 : srF 117 22 = 139 := by decide +kernel
theorem kc_136 : 136 < KC := by decide +kernel
theorem sk_136 : skF 136 = (0, 16) := by decide +kernel
theorem kc_137 : 137 < KC := by decide +kernel
theorem sk_137 : skF 137 = (0, 16) := by decide +kernel
theorem cq_X12_371 : CQ RX12 371 yX12_hours cX12_hours 5 (some .boolean) 4 := ⟨wm_1897, wm_124, wm_1900, by decide +kernel, by decide⟩
theorem cr_117_X12_hours : CR 117 yX12_hours := ⟨by decide +kernel, 12, 101, TX12, by decide +kernel, rfl, wm_1899, wm_62⟩
theorem af_X12_93_117 : AF RX12 93 117 28 := ⟨12, 101, RX12, TX12, by decide +kernel, by decide +kernel, rfl, by decide, gX12, wm_1526⟩
theorem sr_117_28 : srF 117 28 = 145 := by decide +kernel
theorem kc_143 : 143 < KC := by decide +kernel
theorem sk_143 : skF 143 = (0, 60) := by decide +kernel
theorem cq_X12_378 : CQ RX12 378 yX12_aTunnel cX12_aTunnel 3 (some .boolean) 0 := ⟨wm_1889, wm_124, wm_1892, by decide +kernel, by decide⟩
theorem cr_117_X12_aTunnel : CR 117 yX12_aTunnel := ⟨by decide +kernel, 12, 101, TX12, by decide +kernel, rfl, wm_1891, wm_60⟩
theorem cq_X12_365 : CQ RX12 365 yX12_need cX12_need 2 (some .boolean) 1 := ⟨wm_1901, wm_124, wm_1904, by decide +kernel, by decide⟩
theorem cr_117_X12_need : CR 117 yX12_need := ⟨by decide +kernel, 12, 101, TX12, by decide +kernel, rfl, wm_1903, wm_63⟩
theorem cq_X12_356 : CQ RX12 356 yX12_one cX12_one 2 (some .boolean) 0 := ⟨wm_1929, wm_124, wm_1932, by decide +kernel, by decide⟩
theorem cr_117_X12_one : CR 117 yX12_one := ⟨by decide +kernel, 12, 101, TX12, by decide +kernel, rfl, wm_1931, wm_70⟩
theorem cq_X12_353 : CQ RX12 353 yX12_every cX12_every 1 (some .boolean) 0 := ⟨wm_1925, wm_124, wm_1928, by decide +kernel, by decide⟩
theorem cr_117_X12_every : CR 117 yX12_every := ⟨by decide +kernel, 12, 101, TX12, by decide +kernel, rfl, wm_1927, wm_69⟩
theorem af_X12_336_117 : AF RX12 336 117 45 := ⟨12, 101, RX12, TX12, by decide +kernel, by decide +kernel, rfl, by decide, gX12, wm_1543⟩
theorem cq_X12_359 : CQ RX12 359 yX12_opens cX12_opens 1 (some .boolean) 0 := ⟨wm_1933, wm_124, wm_1936, by decide +kernel, by decide⟩
theorem cr_117_X12_opens : CR 117 yX12_opens := ⟨by decide +kernel, 12, 101, TX12, by decide +kernel, rfl, wm_1935, wm_71⟩
theorem cq_X12_362 : CQ RX12 362 yX12_any cX12_any 1 (some .boolean) 0 := ⟨wm_1921, wm_124, wm_1924, by decide +kernel, by decide⟩
theorem cr_117_X12_any : CR 117 yX12_any := ⟨by decide +kernel, 12, 101, TX12, by decide +kernel, rfl, wm_1923, wm_68⟩
theorem cq_X12_381 : CQ RX12 381 yX12_aLine cX12_aLine 3 (some .boolean) 0 := ⟨wm_1881, wm_124, wm_1884, by decide +kernel, by decide⟩
theorem cr_117_X12_aLine : CR 117 yX12_aLine := ⟨by decide +kernel, 12, 101, TX12, by decide +kernel, rfl, wm_1883, wm_58⟩
theorem af_X12_321_117 : AF RX12 321 117 42 := ⟨12, 101, RX12, TX12, by decide +kernel, by decide +kernel, rfl, by decide, gX12, wm_1540⟩
theorem ap_X12_384_117 : AFp RX12 384 117 44 .int := ⟨12, 101, RX12, TX12, tyX12, by decide +kernel, by decide +kernel, rfl, by decide, gX12, wm_1542, tyX12_ok, nmX12, by decide +kernel, by decide +kernel⟩
theorem sr_117_44 : srF 117 44 = 0 := by decide +kernel
theorem af_X12_324_117 : AF RX12 324 117 43 := ⟨12, 101, RX12, TX12, by decide +kernel, by decide +kernel, rfl, by decide, gX12, wm_1541⟩
theorem ap_X12_112_117 : AFp RX12 112 117 46 .int := ⟨12, 101, RX12, TX12, tyX12, by decide +kernel, by decide +kernel, rfl, by decide, gX12, wm_1544, tyX12_ok, nmX12, by decide +kernel, by decide +kernel⟩
theorem sr_117_46 : srF 117 46 = 0 := by decide +kernel
theorem ap_X12_390_117 : AFp RX12 390 117 34 .int := ⟨12, 101, RX12, TX12, tyX12, by decide +kernel, by decide +kernel, rfl, by decide, gX12, wm_1532, tyX12_ok, nmX12, by decide +kernel, by decide +kernel⟩
theorem sr_117_34 : srF 117 34 = 0 := by decide +kernel
theorem af_X12_390_117 : AF RX12 390 117 34 := ⟨12, 101, RX12, TX12, by decide +kernel, by decide +kernel, rfl, by decide, gX12, wm_1532⟩
theorem af_X12_48_117 : AF RX12 48 117 13 := ⟨12, 101, RX12, TX12, by decide +kernel, by decide +kernel, rfl, by decide, gX12, wm_1511⟩
theorem sr_117_13 : srF 117 13 = 130 := by decide +kernel
theorem kc_128 : 128 < KC := by decide +kernel
theorem sk_128 : skF 128 = (0, 16) := by decide +kernel
theorem af_X12_51_117 : AF RX12 51 117 14 := ⟨12, 101, RX12, TX12, by decide +kernel, by decide +kernel, rfl, by decide, gX12, wm_1512⟩
theorem sr_117_14 : srF 117 14 = 131 := by decide +kernel
theorem kc_129 : 129 < KC := by decide +kernel
theorem sk_129 : skF 129 = (0, 16) := by decide +kernel
theorem af_X12_54_117 : AF RX12 54 117 15 := ⟨12, 101, RX12, TX12, by decide +kernel, by decide +kernel, rfl, by decide, gX12, wm_1513⟩
theorem sr_117_15 : srF 117 15 = 132 := by decide +kernel
theorem kc_130 : 130 < KC := by decide +kernel
theorem sk_130 : skF 130 = (0, 16) := by decide +kernel
theorem af_X12_57_117 : AF RX12 57 117 16 := ⟨12, 101, RX12, TX12, by decide +kernel, by decide +kernel, rfl, by decide, gX12, wm_1514⟩
theorem sr_117_16 : srF 117 16 = 133 := by decide +kernel
theorem kc_131 : 131 < KC := by decide +kernel
theorem sk_131 : skF 131 = (0, 16) := by decide +kernel
theorem af_X12_60_117 : AF RX12 60 117 17 := ⟨12, 101, RX12, TX12, by decide +kernel, by decide +kernel, rfl, by decide, gX12, wm_1515⟩
theorem sr_117_17 : srF 117 17 = 134 := by decide +kernel
theorem kc_132 : 132 < KC := by decide +kernel
theorem sk_132 : skF 132 = (0, 16) := by decide +kernel
theorem af_X12_63_117 : AF RX12 63 117 18 := ⟨12, 101, RX12, TX12, by decide +kernel, by decide +kernel, rfl, by decide, gX12, wm_1516⟩
theorem sr_117_18 : srF 117 18 = 135 := by decide +kernel
theorem kc_133 : 133 < KC := by decide +kernel
theorem sk_133 : skF 133 = (0, 16) := by decide +kernel
theorem af_X12_66_117 : AF RX12 66 117 19 := ⟨12, 101, RX12, TX12, by decide +kernel, by decide +kernel, rfl, by decide, gX12, wm_1517⟩
theorem sr_117_19 : srF 117 19 = 136 := by decide +kernel
theorem kc_134 : 134 < KC := by decide +kernel
theorem sk_134 : skF 134 = (0, 1020) := by decide +kernel
theorem af_X12_96_117 : AF RX12 96 117 29 := ⟨12, 101, RX12, TX12, by decide +kernel, by decide +kernel, rfl, by decide, gX12, wm_1527⟩
theorem sr_117_29 : srF 117 29 = 146 := by decide +kernel
theorem kc_144 : 144 < KC := by decide +kernel
theorem sk_144 : skF 144 = (1, 30) := by decide +kernel
theorem af_X12_90_117 : AF RX12 90 117 27 := ⟨12, 101, RX12, TX12, by decide +kernel, by decide +kernel, rfl, by decide, gX12, wm_1525⟩
theorem sr_117_27 : srF 117 27 = 144 := by decide +kernel
theorem kc_142 : 142 < KC := by decide +kernel
theorem sk_142 : skF 142 = (0, 60) := by decide +kernel
theorem cq_X12_387 : CQ RX12 387 yX12_keeps cX12_keeps 2 none 0 := ⟨wm_1937, wm_124, wm_1940, by decide +kernel, by decide⟩
theorem cr_117_X12_keeps : CR 117 yX12_keeps := ⟨by decide +kernel, 12, 101, TX12, by decide +kernel, rfl, wm_1939, wm_72⟩
theorem af_X12_112_117 : AF RX12 112 117 46 := ⟨12, 101, RX12, TX12, by decide +kernel, by decide +kernel, rfl, by decide, gX12, wm_1544⟩
theorem af_X12_384_117 : AF RX12 384 117 44 := ⟨12, 101, RX12, TX12, by decide +kernel, by decide +kernel, rfl, by decide, gX12, wm_1542⟩
theorem af_X12_109_117 : AF RX12 109 117 33 := ⟨12, 101, RX12, TX12, by decide +kernel, by decide +kernel, rfl, by decide, gX12, wm_1531⟩
theorem sr_117_33 : srF 117 33 = 150 := by decide +kernel
theorem kc_148 : 148 < KC := by decide +kernel
theorem sk_148 : skF 148 = (0, 10) := by decide +kernel
theorem cq_X12_401 : CQ RX12 401 yX12_forgets cX12_forgets 2 none 0 := ⟨wm_1953, wm_124, wm_1956, by decide +kernel, by decide⟩
theorem cr_117_X12_forgets : CR 117 yX12_forgets := ⟨by decide +kernel, 12, 101, TX12, by decide +kernel, rfl, wm_1955, wm_74⟩
theorem af_X12_44_117 : AF RX12 44 117 10 := ⟨12, 101, RX12, TX12, by decide +kernel, by decide +kernel, rfl, by decide, gX12, wm_1508⟩
theorem af_X12_106_117 : AF RX12 106 117 32 := ⟨12, 101, RX12, TX12, by decide +kernel, by decide +kernel, rfl, by decide, gX12, wm_1530⟩
theorem sr_117_32 : srF 117 32 = 149 := by decide +kernel
theorem kc_147 : 147 < KC := by decide +kernel
theorem sk_147 : skF 147 = (0, 520) := by decide +kernel
theorem cq_X12_393 : CQ RX12 393 yX12_both cX12_both 3 (some .int) 3 := ⟨wm_1965, wm_124, wm_1967, by decide +kernel, by decide⟩
theorem st_X12_both : Cond.static yX12_both ∈ lw_gd := wm_1966
theorem cq_X12_397 : CQ RX12 397 yX12_comesTo cX12_comesTo 7 (some .int) 2 := ⟨wm_1961, wm_124, wm_1964, by decide +kernel, by decide⟩
theorem cr_117_X12_comesTo : CR 117 yX12_comesTo := ⟨by decide +kernel, 12, 101, TX12, by decide +kernel, rfl, wm_1963, wm_76⟩
theorem cq_X12_404 : CQ RX12 404 yX12_serves cX12_serves 3 (some .int) 1 := ⟨wm_1957, wm_124, wm_1960, by decide +kernel, by decide⟩
theorem cr_117_X12_serves : CR 117 yX12_serves := ⟨by decide +kernel, 12, 101, TX12, by decide +kernel, rfl, wm_1959, wm_75⟩
theorem cq_X12_407 : CQ RX12 407 yX12_locksLine cX12_locksLine 2 (some .int) 1 := ⟨wm_1949, wm_124, wm_1952, by decide +kernel, by decide⟩
theorem cr_117_X12_locksLine : CR 117 yX12_locksLine := ⟨by decide +kernel, 12, 101, TX12, by decide +kernel, rfl, wm_1951, wm_73⟩
theorem cq_X12_435 : CQ RX12 435 yX12_isBoat cX12_isBoat 2 (some .boolean) 1 := ⟨wm_1972, wm_124, wm_1975, by decide +kernel, by decide⟩
theorem cr_117_X12_isBoat : CR 117 yX12_isBoat := ⟨by decide +kernel, 12, 101, TX12, by decide +kernel, rfl, wm_1974, wm_77⟩
theorem cq_X12_438 : CQ RX12 438 yX12_isTime cX12_isTime 1 (some .boolean) 1 := ⟨wm_1976, wm_124, wm_1978, by decide +kernel, by decide⟩
theorem st_X12_isTime : Cond.static yX12_isTime ∈ lw_gd := wm_1977
theorem cq_X12_410 : CQ RX12 410 yX12_isStopped cX12_isStopped 4 (some .boolean) 2 := ⟨wm_1995, wm_124, wm_1998, by decide +kernel, by decide⟩
theorem cr_117_X12_isStopped : CR 117 yX12_isStopped := ⟨by decide +kernel, 12, 101, TX12, by decide +kernel, rfl, wm_1997, wm_82⟩
theorem cq_X12_413 : CQ RX12 413 yX12_mayBegin cX12_mayBegin 6 (some .boolean) 4 := ⟨wm_1991, wm_124, wm_1994, by decide +kernel, by decide⟩
theorem cr_117_X12_mayBegin : CR 117 yX12_mayBegin := ⟨by decide +kernel, 12, 101, TX12, by decide +kernel, rfl, wm_1993, wm_81⟩
theorem cq_X12_417 : CQ RX12 417 yX12_endOf cX12_endOf 6 (some .int) 4 := ⟨wm_1987, wm_124, wm_1990, by decide +kernel, by decide⟩
theorem cr_117_X12_endOf : CR 117 yX12_endOf := ⟨by decide +kernel, 12, 101, TX12, by decide +kernel, rfl, wm_1989, wm_80⟩
theorem af_X12_421_117 : AF RX12 421 117 47 := ⟨12, 101, RX12, TX12, by decide +kernel, by decide +kernel, rfl, by decide, gX12, wm_1545⟩
theorem sr_117_47 : srF 117 47 = 0 := by decide +kernel
theorem af_X12_425_117 : AF RX12 425 117 48 := ⟨12, 101, RX12, TX12, by decide +kernel, by decide +kernel, rfl, by decide, gX12, wm_1546⟩
theorem sr_117_48 : srF 117 48 = 0 := by decide +kernel
theorem cq_X12_428 : CQ RX12 428 yX12_harmOf cX12_harmOf 5 (some .int) 2 := ⟨wm_1999, wm_124, wm_2002, by decide +kernel, by decide⟩
theorem cr_117_X12_harmOf : CR 117 yX12_harmOf := ⟨by decide +kernel, 12, 101, TX12, by decide +kernel, rfl, wm_2001, wm_83⟩
theorem ap_X12_425_117 : AFp RX12 425 117 48 .int := ⟨12, 101, RX12, TX12, tyX12, by decide +kernel, by decide +kernel, rfl, by decide, gX12, wm_1546, tyX12_ok, nmX12, by decide +kernel, by decide +kernel⟩
theorem cq_X12_431 : CQ RX12 431 yX12_through cX12_through 8 (some .int) 4 := ⟨wm_1983, wm_124, wm_1986, by decide +kernel, by decide⟩
theorem cr_117_X12_through : CR 117 yX12_through := ⟨by decide +kernel, 12, 101, TX12, by decide +kernel, rfl, wm_1985, wm_79⟩
theorem cq_X12_441 : CQ RX12 441 yX12_led cX12_led 7 (some .int) 4 := ⟨wm_1979, wm_124, wm_1982, by decide +kernel, by decide⟩
theorem cr_117_X12_led : CR 117 yX12_led := ⟨by decide +kernel, 12, 101, TX12, by decide +kernel, rfl, wm_1981, wm_78⟩
theorem ap_X12_421_117 : AFp RX12 421 117 47 .boolean := ⟨12, 101, RX12, TX12, tyX12, by decide +kernel, by decide +kernel, rfl, by decide, gX12, wm_1545, tyX12_ok, nmX12, by decide +kernel, by decide +kernel⟩
theorem af_X12_444_117 : AF RX12 444 117 49 := ⟨12, 101, RX12, TX12, by decide +kernel, by decide +kernel, rfl, by decide, gX12, wm_1547⟩
theorem sr_117_49 : srF 117 49 = 0 := by decide +kernel
theorem af_X12_115_117 : AF RX12 115 117 50 := ⟨12, 101, RX12, TX12, by decide +kernel, by decide +kernel, rfl, by decide, gX12, wm_1548⟩
theorem sr_117_50 : srF 117 50 = 151 := by decide +kernel
theorem kc_149 : 149 < KC := by decide +kernel
theorem sk_149 : skF 149 = (0, 20) := by decide +kernel
theorem af_X12_118_117 : AF RX12 118 117 51 := ⟨12, 101, RX12, TX12, by decide +kernel, by decide +kernel, rfl, by decide, gX12, wm_1549⟩
theorem sr_117_51 : srF 117 51 = 152 := by decide +kernel
theorem kc_150 : 150 < KC := by decide +kernel
theorem sk_150 : skF 150 = (0, 20) := by decide +kernel
theorem af_X12_121_117 : AF RX12 121 117 52 := ⟨12, 101, RX12, TX12, by decide +kernel, by decide +kernel, rfl, by decide, gX12, wm_1550⟩
theorem sr_117_52 : srF 117 52 = 153 := by decide +kernel
theorem kc_151 : 151 < KC := by decide +kernel
theorem sk_151 : skF 151 = (0, 20) := by decide +kernel
theorem af_X12_124_117 : AF RX12 124 117 53 := ⟨12, 101, RX12, TX12, by decide +kernel, by decide +kernel, rfl, by decide, gX12, wm_1551⟩
theorem sr_117_53 : srF 117 53 = 154 := by decide +kernel
theorem kc_152 : 152 < KC := by decide +kernel
theorem sk_152 : skF 152 = (0, 20) := by decide +kernel
theorem af_X12_127_117 : AF RX12 127 117 54 := ⟨12, 101, RX12, TX12, by decide +kernel, by decide +kernel, rfl, by decide, gX12, wm_1552⟩
theorem sr_117_54 : srF 117 54 = 155 := by decide +kernel
theorem kc_153 : 153 < KC := by decide +kernel
theorem sk_153 : skF 153 = (0, 20) := by decide +kernel
theorem ap_X12_444_117 : AFp RX12 444 117 49 .int := ⟨12, 101, RX12, TX12, tyX12, by decide +kernel, by decide +kernel, rfl, by decide, gX12, wm_1547, tyX12_ok, nmX12, by decide +kernel, by decide +kernel⟩
theorem cq_X12_447 : CQ RX12 447 yX12_lateOf cX12_lateOf 3 (some .int) 1 := ⟨wm_2023, wm_124, wm_2026, by decide +kernel, by decide⟩
theorem cr_117_X12_lateOf : CR 117 yX12_lateOf := ⟨by decide +kernel, 12, 101, TX12, by decide +kernel, rfl, wm_2025, wm_84⟩
theorem cw_X12_450 : Cond.constant RX12 450 (Int32.ofInt (-1000000)) ∈ lw_gd := wm_2035
theorem ap_X12_454_117 : AFp RX12 454 117 100 .boolean := ⟨12, 101, RX12, TX12, tyX12, by decide +kernel, by decide +kernel, rfl, by decide, gX12, wm_1598, tyX12_ok, nmX12, by decide +kernel, by decide +kernel⟩
theorem sr_117_100 : srF 117 100 = 0 := by decide +kernel
theorem cq_X12_451 : CQ RX12 451 yX12_price cX12_price 5 (some .int) 3 := ⟨wm_2040, wm_124, wm_2043, by decide +kernel, by decide⟩
theorem cr_117_X12_price : CR 117 yX12_price := ⟨by decide +kernel, 12, 101, TX12, by decide +kernel, rfl, wm_2041, wm_2042⟩
theorem af_X12_454_117 : AF RX12 454 117 100 := ⟨12, 101, RX12, TX12, by decide +kernel, by decide +kernel, rfl, by decide, gX12, wm_1598⟩
theorem cw_X12_457 : Cond.constantLong RX12 457 (Int64.ofInt 7) ∈ lw_gd := wm_2044
theorem cq_X12_462 : CQ RX12 462 yX12_refund cX12_refund 5 (some .int) 1 := ⟨wm_2036, wm_124, wm_2039, by decide +kernel, by decide⟩
theorem cr_117_X12_refund : CR 117 yX12_refund := ⟨by decide +kernel, 12, 101, TX12, by decide +kernel, rfl, wm_2038, wm_86⟩
theorem cq_X12_459 : CQ RX12 459 yX12_turningBack cX12_turningBack 8 (some .int) 1 := ⟨wm_2031, wm_124, wm_2034, by decide +kernel, by decide⟩
theorem cr_117_X12_turningBack : CR 117 yX12_turningBack := ⟨by decide +kernel, 12, 101, TX12, by decide +kernel, rfl, wm_2033, wm_85⟩
theorem af_X12_130_117 : AF RX12 130 117 55 := ⟨12, 101, RX12, TX12, by decide +kernel, by decide +kernel, rfl, by decide, gX12, wm_1553⟩
theorem sr_117_55 : srF 117 55 = 156 := by decide +kernel
theorem kc_154 : 154 < KC := by decide +kernel
theorem sk_154 : skF 154 = (1, 16) := by decide +kernel
theorem af_X12_133_117 : AF RX12 133 117 56 := ⟨12, 101, RX12, TX12, by decide +kernel, by decide +kernel, rfl, by decide, gX12, wm_1554⟩
theorem sr_117_56 : srF 117 56 = 157 := by decide +kernel
theorem kc_155 : 155 < KC := by decide +kernel
theorem sk_155 : skF 155 = (0, 10) := by decide +kernel
theorem af_X12_139_117 : AF RX12 139 117 58 := ⟨12, 101, RX12, TX12, by decide +kernel, by decide +kernel, rfl, by decide, gX12, wm_1556⟩
theorem sr_117_58 : srF 117 58 = 159 := by decide +kernel
theorem kc_157 : 157 < KC := by decide +kernel
theorem sk_157 : skF 157 = (0, 100) := by decide +kernel
theorem af_X12_136_117 : AF RX12 136 117 57 := ⟨12, 101, RX12, TX12, by decide +kernel, by decide +kernel, rfl, by decide, gX12, wm_1555⟩
theorem sr_117_57 : srF 117 57 = 158 := by decide +kernel
theorem kc_156 : 156 < KC := by decide +kernel
theorem sk_156 : skF 156 = (0, 100) := by decide +kernel
theorem cq_X12_469 : CQ RX12 469 yX12_isSpan cX12_isSpan 2 (some .boolean) 2 := ⟨wm_2065, wm_124, wm_2067, by decide +kernel, by decide⟩
theorem st_X12_isSpan : Cond.static yX12_isSpan ∈ lw_gd := wm_2066
theorem cq_X12_465 : CQ RX12 465 yX12_between cX12_between 11 (some .boolean) 5 := ⟨wm_2072, wm_124, wm_2075, by decide +kernel, by decide⟩
theorem cr_117_X12_between : CR 117 yX12_between := ⟨by decide +kernel, 12, 101, TX12, by decide +kernel, rfl, wm_2074, wm_88⟩
theorem cq_X12_472 : CQ RX12 472 yX12_canHaveBeen cX12_canHaveBeen 6 (some .boolean) 4 := ⟨wm_2068, wm_124, wm_2071, by decide +kernel, by decide⟩
theorem cr_117_X12_canHaveBeen : CR 117 yX12_canHaveBeen := ⟨by decide +kernel, 12, 101, TX12, by decide +kernel, rfl, wm_2070, wm_87⟩
theorem af_X12_475_117 : AF RX12 475 117 59 := ⟨12, 101, RX12, TX12, by decide +kernel, by decide +kernel, rfl, by decide, gX12, wm_1557⟩
theorem sr_117_59 : srF 117 59 = 0 := by decide +kernel
theorem af_X12_142_117 : AF RX12 142 117 60 := ⟨12, 101, RX12, TX12, by decide +kernel, by decide +kernel, rfl, by decide, gX12, wm_1558⟩
theorem sr_117_60 : srF 117 60 = 160 := by decide +kernel
theorem kc_158 : 158 < KC := by decide +kernel
theorem sk_158 : skF 158 = (0, 7) := by decide +kernel
theorem ap_X12_475_117 : AFp RX12 475 117 59 .int := ⟨12, 101, RX12, TX12, tyX12, by decide +kernel, by decide +kernel, rfl, by decide, gX12, wm_1557, tyX12_ok, nmX12, by decide +kernel, by decide +kernel⟩
theorem af_X12_145_117 : AF RX12 145 117 61 := ⟨12, 101, RX12, TX12, by decide +kernel, by decide +kernel, rfl, by decide, gX12, wm_1559⟩
theorem sr_117_61 : srF 117 61 = 161 := by decide +kernel
theorem kc_159 : 159 < KC := by decide +kernel
theorem sk_159 : skF 159 = (0, 7) := by decide +kernel
theorem ap_X12_481_117 : AFp RX12 481 117 64 .int := ⟨12, 101, RX12, TX12, tyX12, by decide +kernel, by decide +kernel, rfl, by decide, gX12, wm_1562, tyX12_ok, nmX12, by decide +kernel, by decide +kernel⟩
theorem sr_117_64 : srF 117 64 = 0 := by decide +kernel
theorem af_X12_148_117 : AF RX12 148 117 62 := ⟨12, 101, RX12, TX12, by decide +kernel, by decide +kernel, rfl, by decide, gX12, wm_1560⟩
theorem sr_117_62 : srF 117 62 = 162 := by decide +kernel
theorem kc_160 : 160 < KC := by decide +kernel
theorem sk_160 : skF 160 = (0, 7) := by decide +kernel
theorem cq_X12_478 : CQ RX12 478 yX12_waits cX12_waits 6 (some .int) 0 := ⟨wm_2096, wm_124, wm_2099, by decide +kernel, by decide⟩
theorem cr_117_X12_waits : CR 117 yX12_waits := ⟨by decide +kernel, 12, 101, TX12, by decide +kernel, rfl, wm_2098, wm_90⟩
theorem af_X12_481_117 : AF RX12 481 117 64 := ⟨12, 101, RX12, TX12, by decide +kernel, by decide +kernel, rfl, by decide, gX12, wm_1562⟩
theorem cq_X12_484 : CQ RX12 484 yX12_orders cX12_orders 5 none 2 := ⟨wm_2092, wm_124, wm_2095, by decide +kernel, by decide⟩
theorem cr_117_X12_orders : CR 117 yX12_orders := ⟨by decide +kernel, 12, 101, TX12, by decide +kernel, rfl, wm_2094, wm_89⟩
theorem af_X12_151_117 : AF RX12 151 117 63 := ⟨12, 101, RX12, TX12, by decide +kernel, by decide +kernel, rfl, by decide, gX12, wm_1561⟩
theorem sr_117_63 : srF 117 63 = 163 := by decide +kernel
theorem kc_161 : 161 < KC := by decide +kernel
theorem sk_161 : skF 161 = (0, 7) := by decide +kernel
theorem cq_X12_487 : CQ RX12 487 yX12_asTheyCome cX12_asTheyCome 2 none 0 := ⟨wm_2100, wm_124, wm_2103, by decide +kernel, by decide⟩
theorem cr_117_X12_asTheyCome : CR 117 yX12_asTheyCome := ⟨by decide +kernel, 12, 101, TX12, by decide +kernel, rfl, wm_2102, wm_91⟩
theorem cq_X12_490 : CQ RX12 490 yX12_lockfuls cX12_lockfuls 3 (some .int) 0 := ⟨wm_2104, wm_124, wm_2107, by decide +kernel, by decide⟩
theorem cr_117_X12_lockfuls : CR 117 yX12_lockfuls := ⟨by decide +kernel, 12, 101, TX12, by decide +kernel, rfl, wm_2106, wm_92⟩
theorem af_X12_493_117 : AF RX12 493 117 65 := ⟨12, 101, RX12, TX12, by decide +kernel, by decide +kernel, rfl, by decide, gX12, wm_1563⟩
theorem sr_117_65 : srF 117 65 = 0 := by decide +kernel
theorem af_X12_154_117 : AF RX12 154 117 68 := ⟨12, 101, RX12, TX12, by decide +kernel, by decide +kernel, rfl, by decide, gX12, wm_1566⟩
theorem sr_117_68 : srF 117 68 = 164 := by decide +kernel
theorem kc_162 : 162 < KC := by decide +kernel
theorem sk_162 : skF 162 = (0, 8) := by decide +kernel
theorem af_X12_157_117 : AF RX12 157 117 69 := ⟨12, 101, RX12, TX12, by decide +kernel, by decide +kernel, rfl, by decide, gX12, wm_1567⟩
theorem sr_117_69 : srF 117 69 = 165 := by decide +kernel
theorem kc_163 : 163 < KC := by decide +kernel
theorem sk_163 : skF 163 = (0, 8) := by decide +kernel
theorem af_X12_160_117 : AF RX12 160 117 70 := ⟨12, 101, RX12, TX12, by decide +kernel, by decide +kernel, rfl, by decide, gX12, wm_1568⟩
theorem sr_117_70 : srF 117 70 = 166 := by decide +kernel
theorem kc_164 : 164 < KC := by decide +kernel
theorem sk_164 : skF 164 = (0, 8) := by decide +kernel
theorem af_X12_163_117 : AF RX12 163 117 71 := ⟨12, 101, RX12, TX12, by decide +kernel, by decide +kernel, rfl, by decide, gX12, wm_1569⟩
theorem sr_117_71 : srF 117 71 = 167 := by decide +kernel
theorem kc_165 : 165 < KC := by decide +kernel
theorem sk_165 : skF 165 = (0, 8) := by decide +kernel
theorem ap_X12_493_117 : AFp RX12 493 117 65 .int := ⟨12, 101, RX12, TX12, tyX12, by decide +kernel, by decide +kernel, rfl, by decide, gX12, wm_1563, tyX12_ok, nmX12, by decide +kernel, by decide +kernel⟩
theorem af_X12_181_117 : AF RX12 181 117 77 := ⟨12, 101, RX12, TX12, by decide +kernel, by decide +kernel, rfl, by decide, gX12, wm_1575⟩
theorem sr_117_77 : srF 117 77 = 173 := by decide +kernel
theorem kc_171 : 171 < KC := by decide +kernel
theorem sk_171 : skF 171 = (0, 4) := by decide +kernel
theorem af_X12_184_117 : AF RX12 184 117 78 := ⟨12, 101, RX12, TX12, by decide +kernel, by decide +kernel, rfl, by decide, gX12, wm_1576⟩
theorem sr_117_78 : srF 117 78 = 174 := by decide +kernel
theorem kc_172 : 172 < KC := by decide +kernel
theorem sk_172 : skF 172 = (0, 4) := by decide +kernel
theorem cq_X12_505 : CQ RX12 505 yX12_asks cX12_asks 3 none 1 := ⟨wm_2116, wm_124, wm_2119, by decide +kernel, by decide⟩
theorem cr_117_X12_asks : CR 117 yX12_asks := ⟨by decide +kernel, 12, 101, TX12, by decide +kernel, rfl, wm_2118, wm_93⟩
theorem af_X12_166_117 : AF RX12 166 117 72 := ⟨12, 101, RX12, TX12, by decide +kernel, by decide +kernel, rfl, by decide, gX12, wm_1570⟩
theorem sr_117_72 : srF 117 72 = 168 := by decide +kernel
theorem kc_166 : 166 < KC := by decide +kernel
theorem sk_166 : skF 166 = (0, 8) := by decide +kernel
theorem cq_X12_512 : CQ RX12 512 yX12_sorts cX12_sorts 3 none 0 := ⟨wm_2124, wm_124, wm_2127, by decide +kernel, by decide⟩
theorem cr_117_X12_sorts : CR 117 yX12_sorts := ⟨by decide +kernel, 12, 101, TX12, by decide +kernel, rfl, wm_2126, wm_95⟩
theorem af_X12_175_117 : AF RX12 175 117 75 := ⟨12, 101, RX12, TX12, by decide +kernel, by decide +kernel, rfl, by decide, gX12, wm_1573⟩
theorem sr_117_75 : srF 117 75 = 171 := by decide +kernel
theorem kc_169 : 169 < KC := by decide +kernel
theorem sk_169 : skF 169 = (0, 4) := by decide +kernel
theorem af_X12_178_117 : AF RX12 178 117 76 := ⟨12, 101, RX12, TX12, by decide +kernel, by decide +kernel, rfl, by decide, gX12, wm_1574⟩
theorem sr_117_76 : srF 117 76 = 172 := by decide +kernel
theorem kc_170 : 170 < KC := by decide +kernel
theorem sk_170 : skF 170 = (0, 4) := by decide +kernel
theorem ap_X12_496_117 : AFp RX12 496 117 66 .int := ⟨12, 101, RX12, TX12, tyX12, by decide +kernel, by decide +kernel, rfl, by decide, gX12, wm_1564, tyX12_ok, nmX12, by decide +kernel, by decide +kernel⟩
theorem sr_117_66 : srF 117 66 = 0 := by decide +kernel
theorem ap_X12_499_117 : AFp RX12 499 117 67 .int := ⟨12, 101, RX12, TX12, tyX12, by decide +kernel, by decide +kernel, rfl, by decide, gX12, wm_1565, tyX12_ok, nmX12, by decide +kernel, by decide +kernel⟩
theorem sr_117_67 : srF 117 67 = 0 := by decide +kernel
theorem af_X12_169_117 : AF RX12 169 117 73 := ⟨12, 101, RX12, TX12, by decide +kernel, by decide +kernel, rfl, by decide, gX12, wm_1571⟩
theorem sr_117_73 : srF 117 73 = 169 := by decide +kernel
theorem kc_167 : 167 < KC := by decide +kernel
theorem sk_167 : skF 167 = (0, 8) := by decide +kernel
theorem cq_X12_502 : CQ RX12 502 yX12_gives cX12_gives 8 none 3 := ⟨wm_2128, wm_124, wm_2131, by decide +kernel, by decide⟩
theorem cr_117_X12_gives : CR 117 yX12_gives := ⟨by decide +kernel, 12, 101, TX12, by decide +kernel, rfl, wm_2130, wm_96⟩
theorem af_X12_496_117 : AF RX12 496 117 66 := ⟨12, 101, RX12, TX12, by decide +kernel, by decide +kernel, rfl, by decide, gX12, wm_1564⟩
theorem af_X12_499_117 : AF RX12 499 117 67 := ⟨12, 101, RX12, TX12, by decide +kernel, by decide +kernel, rfl, by decide, gX12, wm_1565⟩
theorem af_X12_172_117 : AF RX12 172 117 74 := ⟨12, 101, RX12, TX12, by decide +kernel, by decide +kernel, rfl, by decide, gX12, wm_1572⟩
theorem sr_117_74 : srF 117 74 = 170 := by decide +kernel
theorem kc_168 : 168 < KC := by decide +kernel
theorem sk_168 : skF 168 = (0, 8) := by decide +kernel
theorem cq_X12_509 : CQ RX12 509 yX12_givesBest cX12_givesBest 3 none 1 := ⟨wm_2120, wm_124, wm_2123, by decide +kernel, by decide⟩
theorem cr_117_X12_givesBest : CR 117 yX12_givesBest := ⟨by decide +kernel, 12, 101, TX12, by decide +kernel, rfl, wm_2122, wm_94⟩
theorem af_X12_190_117 : AF RX12 190 117 80 := ⟨12, 101, RX12, TX12, by decide +kernel, by decide +kernel, rfl, by decide, gX12, wm_1578⟩
theorem sr_117_80 : srF 117 80 = 176 := by decide +kernel
theorem kc_174 : 174 < KC := by decide +kernel
theorem sk_174 : skF 174 = (0, 10) := by decide +kernel
theorem af_X12_187_117 : AF RX12 187 117 79 := ⟨12, 101, RX12, TX12, by decide +kernel, by decide +kernel, rfl, by decide, gX12, wm_1577⟩
theorem sr_117_79 : srF 117 79 = 175 := by decide +kernel
theorem kc_173 : 173 < KC := by decide +kernel
theorem sk_173 : skF 173 = (0, 10) := by decide +kernel
theorem ap_X12_515_117 : AFp RX12 515 117 84 .int := ⟨12, 101, RX12, TX12, tyX12, by decide +kernel, by decide +kernel, rfl, by decide, gX12, wm_1582, tyX12_ok, nmX12, by decide +kernel, by decide +kernel⟩
theorem sr_117_84 : srF 117 84 = 0 := by decide +kernel
theorem af_X12_193_117 : AF RX12 193 117 81 := ⟨12, 101, RX12, TX12, by decide +kernel, by decide +kernel, rfl, by decide, gX12, wm_1579⟩
theorem sr_117_81 : srF 117 81 = 177 := by decide +kernel
theorem af_X12_515_117 : AF RX12 515 117 84 := ⟨12, 101, RX12, TX12, by decide +kernel, by decide +kernel, rfl, by decide, gX12, wm_1582⟩
theorem kc_175 : 175 < KC := by decide +kernel
theorem sk_175 : skF 175 = (0, 7) := by decide +kernel
theorem ap_X12_518_117 : AFp RX12 518 117 85 .int := ⟨12, 101, RX12, TX12, tyX12, by decide +kernel, by decide +kernel, rfl, by decide, gX12, wm_1583, tyX12_ok, nmX12, by decide +kernel, by decide +kernel⟩
theorem sr_117_85 : srF 117 85 = 0 := by decide +kernel
theorem af_X12_518_117 : AF RX12 518 117 85 := ⟨12, 101, RX12, TX12, by decide +kernel, by decide +kernel, rfl, by decide, gX12, wm_1583⟩
theorem af_X12_521_117 : AF RX12 521 117 86 := ⟨12, 101, RX12, TX12, by decide +kernel, by decide +kernel, rfl, by decide, gX12, wm_1584⟩
theorem sr_117_86 : srF 117 86 = 0 := by decide +kernel
theorem af_X12_196_117 : AF RX12 196 117 82 := ⟨12, 101, RX12, TX12, by decide +kernel, by decide +kernel, rfl, by decide, gX12, wm_1580⟩
theorem sr_117_82 : srF 117 82 = 178 := by decide +kernel
theorem kc_176 : 176 < KC := by decide +kernel
theorem sk_176 : skF 176 = (0, 7) := by decide +kernel
theorem cq_X12_524 : CQ RX12 524 yX12_docksOn cX12_docksOn 9 none 5 := ⟨wm_2144, wm_124, wm_2147, by decide +kernel, by decide⟩
theorem cr_117_X12_docksOn : CR 117 yX12_docksOn := ⟨by decide +kernel, 12, 101, TX12, by decide +kernel, rfl, wm_2146, wm_97⟩
theorem ap_X12_521_117 : AFp RX12 521 117 86 .int := ⟨12, 101, RX12, TX12, tyX12, by decide +kernel, by decide +kernel, rfl, by decide, gX12, wm_1584, tyX12_ok, nmX12, by decide +kernel, by decide +kernel⟩
theorem af_X12_199_117 : AF RX12 199 117 83 := ⟨12, 101, RX12, TX12, by decide +kernel, by decide +kernel, rfl, by decide, gX12, wm_1581⟩
theorem sr_117_83 : srF 117 83 = 179 := by decide +kernel
theorem kc_177 : 177 < KC := by decide +kernel
theorem sk_177 : skF 177 = (0, 7) := by decide +kernel
theorem af_X12_528_117 : AF RX12 528 117 87 := ⟨12, 101, RX12, TX12, by decide +kernel, by decide +kernel, rfl, by decide, gX12, wm_1585⟩
theorem sr_117_87 : srF 117 87 = 0 := by decide +kernel
theorem af_X12_202_117 : AF RX12 202 117 88 := ⟨12, 101, RX12, TX12, by decide +kernel, by decide +kernel, rfl, by decide, gX12, wm_1586⟩
theorem sr_117_88 : srF 117 88 = 180 := by decide +kernel
theorem kc_178 : 178 < KC := by decide +kernel
theorem sk_178 : skF 178 = (0, 8) := by decide +kernel
theorem ap_X12_528_117 : AFp RX12 528 117 87 .int := ⟨12, 101, RX12, TX12, tyX12, by decide +kernel, by decide +kernel, rfl, by decide, gX12, wm_1585, tyX12_ok, nmX12, by decide +kernel, by decide +kernel⟩
theorem ap_X12_531_117 : AFp RX12 531 117 90 .int := ⟨12, 101, RX12, TX12, tyX12, by decide +kernel, by decide +kernel, rfl, by decide, gX12, wm_1588, tyX12_ok, nmX12, by decide +kernel, by decide +kernel⟩
theorem sr_117_90 : srF 117 90 = 0 := by decide +kernel
theorem af_X12_205_117 : AF RX12 205 117 89 := ⟨12, 101, RX12, TX12, by decide +kernel, by decide +kernel, rfl, by decide, gX12, wm_1587⟩
theorem sr_117_89 : srF 117 89 = 181 := by decide +kernel
theorem kc_179 : 179 < KC := by decide +kernel
theorem sk_179 : skF 179 = (0, 3) := by decide +kernel
theorem cq_X12_534 : CQ RX12 534 yX12_lastEnd cX12_lastEnd 4 (some .int) 1 := ⟨wm_2160, wm_124, wm_2163, by decide +kernel, by decide⟩
theorem cr_117_X12_lastEnd : CR 117 yX12_lastEnd := ⟨by decide +kernel, 12, 101, TX12, by decide +kernel, rfl, wm_2162, wm_99⟩
theorem af_X12_531_117 : AF RX12 531 117 90 := ⟨12, 101, RX12, TX12, by decide +kernel, by decide +kernel, rfl, by decide, gX12, wm_1588⟩
theorem cq_X12_537 : CQ RX12 537 yX12_worked cX12_worked 5 (some .int) 1 := ⟨wm_2156, wm_124, wm_2159, by decide +kernel, by decide⟩
theorem cr_117_X12_worked : CR 117 yX12_worked := ⟨by decide +kernel, 12, 101, TX12, by decide +kernel, rfl, wm_2158, wm_98⟩
theorem cq_X12_540 : CQ RX12 540 yX12_handOf cX12_handOf 6 (some .int) 3 := ⟨wm_2164, wm_124, wm_2167, by decide +kernel, by decide⟩
theorem cr_117_X12_handOf : CR 117 yX12_handOf := ⟨by decide +kernel, 12, 101, TX12, by decide +kernel, rfl, wm_2166, wm_100⟩
theorem af_X12_208_117 : AF RX12 208 117 91 := ⟨12, 101, RX12, TX12, by decide +kernel, by decide +kernel, rfl, by decide, gX12, wm_1589⟩
theorem sr_117_91 : srF 117 91 = 182 := by decide +kernel
theorem kc_180 : 180 < KC := by decide +kernel
theorem sk_180 : skF 180 = (0, 16) := by decide +kernel
theorem cq_X12_543 : CQ RX12 543 yX12_drive cX12_drive 5 (some .int) 2 := ⟨wm_2180, wm_124, wm_2183, by decide +kernel, by decide⟩
theorem cr_117_X12_drive : CR 117 yX12_drive := ⟨by decide +kernel, 12, 101, TX12, by decide +kernel, rfl, wm_2182, wm_102⟩
theorem cq_X12_549 : CQ RX12 549 yX12_worstOf cX12_worstOf 4 (some .int) 1 := ⟨wm_2184, wm_124, wm_2187, by decide +kernel, by decide⟩
theorem cr_117_X12_worstOf : CR 117 yX12_worstOf := ⟨by decide +kernel, 12, 101, TX12, by decide +kernel, rfl, wm_2186, wm_103⟩
theorem cq_X12_546 : CQ RX12 546 yX12_sumOf cX12_sumOf 4 (some .int) 1 := ⟨wm_2176, wm_124, wm_2179, by decide +kernel, by decide⟩
theorem cr_117_X12_sumOf : CR 117 yX12_sumOf := ⟨by decide +kernel, 12, 101, TX12, by decide +kernel, rfl, wm_2178, wm_101⟩
theorem cq_X12_552 : CQ RX12 552 yX12_nearer cX12_nearer 4 (some .int) 3 := ⟨wm_2192, wm_124, wm_2195, by decide +kernel, by decide⟩
theorem cr_117_X12_nearer : CR 117 yX12_nearer := ⟨by decide +kernel, 12, 101, TX12, by decide +kernel, rfl, wm_2194, wm_104⟩
theorem af_X12_555_117 : AF RX12 555 117 92 := ⟨12, 101, RX12, TX12, by decide +kernel, by decide +kernel, rfl, by decide, gX12, wm_1590⟩
theorem sr_117_92 : srF 117 92 = 0 := by decide +kernel
theorem af_X12_211_117 : AF RX12 211 117 93 := ⟨12, 101, RX12, TX12, by decide +kernel, by decide +kernel, rfl, by decide, gX12, wm_1591⟩
theorem sr_117_93 : srF 117 93 = 183 := by decide +kernel
theorem kc_181 : 181 < KC := by decide +kernel
theorem sk_181 : skF 181 = (0, 12) := by decide +kernel
theorem ap_X12_555_117 : AFp RX12 555 117 92 .int := ⟨12, 101, RX12, TX12, tyX12, by decide +kernel, by decide +kernel, rfl, by decide, gX12, wm_1590, tyX12_ok, nmX12, by decide +kernel, by decide +kernel⟩
theorem af_X12_214_117 : AF RX12 214 117 94 := ⟨12, 101, RX12, TX12, by decide +kernel, by decide +kernel, rfl, by decide, gX12, wm_1592⟩
theorem sr_117_94 : srF 117 94 = 184 := by decide +kernel
theorem kc_182 : 182 < KC := by decide +kernel
theorem sk_182 : skF 182 = (0, 12) := by decide +kernel
theorem af_X12_217_117 : AF RX12 217 117 95 := ⟨12, 101, RX12, TX12, by decide +kernel, by decide +kernel, rfl, by decide, gX12, wm_1593⟩
theorem sr_117_95 : srF 117 95 = 185 := by decide +kernel
theorem kc_183 : 183 < KC := by decide +kernel
theorem sk_183 : skF 183 = (0, 12) := by decide +kernel
theorem af_X12_220_117 : AF RX12 220 117 96 := ⟨12, 101, RX12, TX12, by decide +kernel, by decide +kernel, rfl, by decide, gX12, wm_1594⟩
theorem sr_117_96 : srF 117 96 = 186 := by decide +kernel
theorem kc_184 : 184 < KC := by decide +kernel
theorem sk_184 : skF 184 = (0, 2) := by decide +kernel
theorem af_X12_223_117 : AF RX12 223 117 97 := ⟨12, 101, RX12, TX12, by decide +kernel, by decide +kernel, rfl, by decide, gX12, wm_1595⟩
theorem sr_117_97 : srF 117 97 = 187 := by decide +kernel
theorem kc_185 : 185 < KC := by decide +kernel
theorem sk_185 : skF 185 = (0, 2) := by decide +kernel
theorem cq_X12_558 : CQ RX12 558 yX12_arrives cX12_arrives 4 (some .int) 2 := ⟨wm_2204, wm_124, wm_2207, by decide +kernel, by decide⟩
theorem cr_117_X12_arrives : CR 117 yX12_arrives := ⟨by decide +kernel, 12, 101, TX12, by decide +kernel, rfl, wm_2206, wm_105⟩
theorem cq_X12_567 : CQ RX12 567 yX12_canAsk cX12_canAsk 4 (some .boolean) 4 := ⟨wm_2212, wm_124, wm_2214, by decide +kernel, by decide⟩
theorem st_X12_canAsk : Cond.static yX12_canAsk ∈ lw_gd := wm_2213
theorem af_X12_226_117 : AF RX12 226 117 98 := ⟨12, 101, RX12, TX12, by decide +kernel, by decide +kernel, rfl, by decide, gX12, wm_1596⟩
theorem sr_117_98 : srF 117 98 = 188 := by decide +kernel
theorem cw_X12_561 : Cond.constant RX12 561 (Int32.ofInt 1000000) ∈ lw_gd := wm_2219
theorem kc_186 : 186 < KC := by decide +kernel
theorem sk_186 : skF 186 = (0, 1000) := by decide +kernel
theorem cq_X12_570 : CQ RX12 570 yX12_starts cX12_starts 2 none 0 := ⟨wm_2215, wm_124, wm_2218, by decide +kernel, by decide⟩
theorem cr_117_X12_starts : CR 117 yX12_starts := ⟨by decide +kernel, 12, 101, TX12, by decide +kernel, rfl, wm_2217, wm_106⟩
theorem af_X12_229_117 : AF RX12 229 117 99 := ⟨12, 101, RX12, TX12, by decide +kernel, by decide +kernel, rfl, by decide, gX12, wm_1597⟩
theorem sr_117_99 : srF 117 99 = 189 := by decide +kernel
theorem kc_187 : 187 < KC := by decide +kernel
theorem sk_187 : skF 187 = (0, 1000) := by decide +kernel
theorem cw_X12_562 : Cond.constantLong RX12 562 (Int64.ofInt 100) ∈ lw_gd := wm_2224
theorem cq_X12_564 : CQ RX12 564 yX12_falls cX12_falls 5 none 3 := ⟨wm_2225, wm_124, wm_2228, by decide +kernel, by decide⟩
theorem cr_117_X12_falls : CR 117 yX12_falls := ⟨by decide +kernel, 12, 101, TX12, by decide +kernel, rfl, wm_2227, wm_108⟩
theorem cq_X12_573 : CQ RX12 573 yX12_aDay cX12_aDay 8 none 4 := ⟨wm_2220, wm_124, wm_2223, by decide +kernel, by decide⟩
theorem cr_117_X12_aDay : CR 117 yX12_aDay := ⟨by decide +kernel, 12, 101, TX12, by decide +kernel, rfl, wm_2222, wm_107⟩
theorem cq_X12_577 : CQ RX12 577 yX12_kept cX12_kept 3 (some .int) 0 := ⟨wm_2229, wm_124, wm_2232, by decide +kernel, by decide⟩
theorem cr_117_X12_kept : CR 117 yX12_kept := ⟨by decide +kernel, 12, 101, TX12, by decide +kernel, rfl, wm_2231, wm_109⟩
theorem cw_X12_580 : Cond.constant RX12 580 (Int32.ofInt 500000) ∈ lw_gd := wm_2237
theorem cq_X11_99 : CQ RX11 99 yX11_within cX11_within 3 (some .boolean) 3 := ⟨wm_682, wm_111, wm_684, by decide +kernel, by decide⟩
theorem st_X11_within : Cond.static yX11_within ∈ lw_gd := wm_683
theorem gX11 : ∀ w ∈ u_ws RX11 TX11 12, w ∈ lw_gd := gd_all inX11 (by decide +kernel)
theorem af_X11_12_0 : AF RX11 12 0 0 := ⟨11, 12, RX11, TX11, by decide +kernel, by decide +kernel, rfl, by decide, gX11, wm_641⟩
theorem sr_0_0 : srF 0 0 = 3 := by decide +kernel
theorem gX2 : ∀ w ∈ u_ws RX2 TX2 7, w ∈ lw_gd := gd_all inX2 (by decide +kernel)
theorem af_X11_117_1 : AF RX11 117 1 0 := ⟨2, 7, RX2, TX2, by decide +kernel, by decide +kernel, rfl, by decide, gX2, wm_152⟩
theorem sr_1_0 : srF 1 0 = 15 := by decide +kernel
theorem kc_13 : 13 < KC := by decide +kernel
theorem sk_13 : skF 13 = (0, 15) := by decide +kernel
theorem af_X11_121_1 : AF RX11 121 1 1 := ⟨2, 7, RX2, TX2, by decide +kernel, by decide +kernel, rfl, by decide, gX2, wm_155⟩
theorem sr_1_1 : srF 1 1 = 16 := by decide +kernel
theorem kc_14 : 14 < KC := by decide +kernel
theorem sk_14 : skF 14 = (0, 15) := by decide +kernel
theorem af_X11_124_1 : AF RX11 124 1 2 := ⟨2, 7, RX2, TX2, by decide +kernel, by decide +kernel, rfl, by decide, gX2, wm_158⟩
theorem sr_1_2 : srF 1 2 = 17 := by decide +kernel
theorem kc_15 : 15 < KC := by decide +kernel
theorem sk_15 : skF 15 = (0, 15) := by decide +kernel
theorem ap_X11_127_1 : AFp RX11 127 1 5 .int := ⟨2, 7, RX2, TX2, tyX2, by decide +kernel, by decide +kernel, rfl, by decide, gX2, wm_165, tyX2_ok, nmX2, by decide +kernel, by decide +kernel⟩
theorem sr_1_5 : srF 1 5 = 0 := by decide +kernel
theorem af_X11_40_0 : AF RX11 40 0 4 := ⟨11, 12, RX11, TX11, by decide +kernel, by decide +kernel, rfl, by decide, gX11, wm_645⟩
theorem sr_0_4 : srF 0 4 = 7 := by decide +kernel
theorem gX9 : ∀ w ∈ u_ws RX9 TX9 8, w ∈ lw_gd := gd_all inX9 (by decide +kernel)
theorem af_X9_28_5 : AF RX9 28 5 1 := ⟨9, 8, RX9, TX9, by decide +kernel, by decide +kernel, rfl, by decide, gX9, wm_298⟩
theorem sr_5_1 : srF 5 1 = 4 := by decide +kernel
theorem af_X9_24_5 : AF RX9 24 5 0 := ⟨9, 8, RX9, TX9, by decide +kernel, by decide +kernel, rfl, by decide, gX9, wm_297⟩
theorem sr_5_0 : srF 5 0 = 3 := by decide +kernel
theorem af_X9_38_1 : AF RX9 38 1 5 := ⟨2, 7, RX2, TX2, by decide +kernel, by decide +kernel, rfl, by decide, gX2, wm_164⟩
theorem gX6 : ∀ w ∈ u_ws RX6 TX6 15, w ∈ lw_gd := gd_all inX6 (by decide +kernel)
theorem af_X6_42_2 : AF RX6 42 2 13 := ⟨6, 15, RX6, TX6, by decide +kernel, by decide +kernel, rfl, by decide, gX6, wm_219⟩
theorem sr_2_13 : srF 2 13 = 29 := by decide +kernel
theorem kc_27 : 27 < KC := by decide +kernel
theorem sk_27 : skF 27 = (0, 9) := by decide +kernel
theorem cf_X6_58 : CQ RX6 58 ⟨"java/util/Arrays", "fill", "([II)V"⟩ cJ7_fill_53178 4 none 2 := ⟨wm_697, wm_113, wm_149, by decide +kernel, by decide⟩
theorem st_fill : Cond.static ⟨"java/util/Arrays", "fill", "([II)V"⟩ ∈ lw_gd := wm_148
theorem cq_X9_44 : CQ RX9 44 yX6_askDay cX6_askDay 3 none 2 := ⟨wm_693, wm_114, wm_696, by decide +kernel, by decide⟩
theorem cr_2_X6_askDay : CR 2 yX6_askDay := ⟨by decide +kernel, 6, 15, TX6, by decide +kernel, rfl, wm_694, wm_695⟩
theorem af_X6_52_2 : AF RX6 52 2 3 := ⟨6, 15, RX6, TX6, by decide +kernel, by decide +kernel, rfl, by decide, gX6, wm_195⟩
theorem sr_2_3 : srF 2 3 = 0 := by decide +kernel
theorem af_X6_18_2 : AF RX6 18 2 4 := ⟨6, 15, RX6, TX6, by decide +kernel, by decide +kernel, rfl, by decide, gX6, wm_197⟩
theorem sr_2_4 : srF 2 4 = 21 := by decide +kernel
theorem kc_19 : 19 < KC := by decide +kernel
theorem sk_19 : skF 19 = (0, 16) := by decide +kernel
theorem af_X6_24_2 : AF RX6 24 2 6 := ⟨6, 15, RX6, TX6, by decide +kernel, by decide +kernel, rfl, by decide, gX6, wm_201⟩
theorem sr_2_6 : srF 2 6 = 23 := by decide +kernel
theorem kc_21 : 21 < KC := by decide +kernel
theorem sk_21 : skF 21 = (0, 16) := by decide +kernel
theorem af_X6_27_2 : AF RX6 27 2 7 := ⟨6, 15, RX6, TX6, by decide +kernel, by decide +kernel, rfl, by decide, gX6, wm_203⟩
theorem sr_2_7 : srF 2 7 = 24 := by decide +kernel
theorem kc_22 : 22 < KC := by decide +kernel
theorem sk_22 : skF 22 = (0, 16) := by decide +kernel
theorem af_X6_45_2 : AF RX6 45 2 14 := ⟨6, 15, RX6, TX6, by decide +kernel, by decide +kernel, rfl, by decide, gX6, wm_221⟩
theorem sr_2_14 : srF 2 14 = 30 := by decide +kernel
theorem kc_28 : 28 < KC := by decide +kernel
theorem sk_28 : skF 28 = (0, 32) := by decide +kernel
theorem af_X6_9_2 : AF RX6 9 2 0 := ⟨6, 15, RX6, TX6, by decide +kernel, by decide +kernel, rfl, by decide, gX6, wm_191⟩
theorem sr_2_0 : srF 2 0 = 19 := by decide +kernel
theorem kc_17 : 17 < KC := by decide +kernel
theorem sk_17 : skF 17 = (0, 500) := by decide +kernel
theorem cq_X6_90 : CQ RX6 90 yX6_both cX6_both 3 (some .int) 3 := ⟨wm_714, wm_114, wm_716, by decide +kernel, by decide⟩
theorem st_X6_both : Cond.static yX6_both ∈ lw_gd := wm_715
theorem af_X6_15_2 : AF RX6 15 2 1 := ⟨6, 15, RX6, TX6, by decide +kernel, by decide +kernel, rfl, by decide, gX6, wm_192⟩
theorem sr_2_1 : srF 2 1 = 20 := by decide +kernel
theorem kc_18 : 18 < KC := by decide +kernel
theorem sk_18 : skF 18 = (0, 500) := by decide +kernel
theorem ns_X6_78 : (RX6, 78) ∈ nestL := by decide +kernel
theorem in_X11 : Cond.initialized "WeekBoats" ∈ lw_gd := wm_111
theorem cd_X11_within : Cond.code yX11_within cX11_within 3 (some .boolean) ∈ lw_gd := wm_684
theorem cq_X6_82 : CQ RX6 82 yX6_askedOf cX6_askedOf 2 (some .int) 1 := ⟨wm_706, wm_114, wm_709, by decide +kernel, by decide⟩
theorem cr_2_X6_askedOf : CR 2 yX6_askedOf := ⟨by decide +kernel, 6, 15, TX6, by decide +kernel, rfl, wm_708, wm_1⟩
theorem cq_X6_86 : CQ RX6 86 yX6_alone cX6_alone 3 (some .int) 3 := ⟨wm_711, wm_114, wm_713, by decide +kernel, by decide⟩
theorem st_X6_alone : Cond.static yX6_alone ∈ lw_gd := wm_712
theorem cq_X6_74 : CQ RX6 74 yX6_run cX6_run 6 (some .int) 2 := ⟨wm_702, wm_114, wm_705, by decide +kernel, by decide⟩
theorem cr_2_X6_run : CR 2 yX6_run := ⟨by decide +kernel, 6, 15, TX6, by decide +kernel, rfl, wm_704, wm_0⟩
theorem cq_X9_50 : CQ RX9 50 yX6_serving cX6_serving 3 (some .int) 1 := ⟨wm_698, wm_114, wm_701, by decide +kernel, by decide⟩
theorem cr_2_X6_serving : CR 2 yX6_serving := ⟨by decide +kernel, 6, 15, TX6, by decide +kernel, rfl, wm_699, wm_700⟩
theorem af_X9_9_5 : AF RX9 9 5 2 := ⟨9, 8, RX9, TX9, by decide +kernel, by decide +kernel, rfl, by decide, gX9, wm_299⟩
theorem sr_5_2 : srF 5 2 = 46 := by decide +kernel
theorem af_X9_54_2 : AF RX9 54 2 8 := ⟨6, 15, RX6, TX6, by decide +kernel, by decide +kernel, rfl, by decide, gX6, wm_206⟩
theorem sr_2_8 : srF 2 8 = 25 := by decide +kernel
theorem kc_23 : 23 < KC := by decide +kernel
theorem sk_23 : skF 23 = (0, 16) := by decide +kernel
theorem kc_44 : 44 < KC := by decide +kernel
theorem sk_44 : skF 44 = (0, 14) := by decide +kernel
theorem af_X9_15_5 : AF RX9 15 5 3 := ⟨9, 8, RX9, TX9, by decide +kernel, by decide +kernel, rfl, by decide, gX9, wm_301⟩
theorem sr_5_3 : srF 5 3 = 47 := by decide +kernel
theorem af_X9_57_2 : AF RX9 57 2 9 := ⟨6, 15, RX6, TX6, by decide +kernel, by decide +kernel, rfl, by decide, gX6, wm_209⟩
theorem sr_2_9 : srF 2 9 = 26 := by decide +kernel
theorem kc_24 : 24 < KC := by decide +kernel
theorem sk_24 : skF 24 = (0, 16) := by decide +kernel
theorem kc_45 : 45 < KC := by decide +kernel
theorem sk_45 : skF 45 = (0, 14) := by decide +kernel
theorem cq_X11_130 : CQ RX11 130 yX9_learnHours cX9_learnHours 3 none 0 := ⟨wm_689, wm_116, wm_692, by decide +kernel, by decide⟩
theorem cr_5_X9_learnHours : CR 5 yX9_learnHours := ⟨by decide +kernel, 9, 8, TX9, by decide +kernel, rfl, wm_690, wm_691⟩
theorem af_X11_136_1 : AF RX11 136 1 4 := ⟨2, 7, RX2, TX2, by decide +kernel, by decide +kernel, rfl, by decide, gX2, wm_162⟩
theorem sr_1_4 : srF 1 4 = 0 := by decide +kernel
theorem af_X2_21_1 : AF RX2 21 1 3 := ⟨2, 7, RX2, TX2, by decide +kernel, by decide +kernel, rfl, by decide, gX2, wm_159⟩
theorem sr_1_3 : srF 1 3 = 18 := by decide +kernel
theorem kc_16 : 16 < KC := by decide +kernel
theorem sk_16 : skF 16 = (0, 15) := by decide +kernel
theorem af_X2_34_1 : AF RX2 34 1 4 := ⟨2, 7, RX2, TX2, by decide +kernel, by decide +kernel, rfl, by decide, gX2, wm_161⟩
theorem ap_X2_34_1 : AFp RX2 34 1 4 .int := ⟨2, 7, RX2, TX2, tyX2, by decide +kernel, by decide +kernel, rfl, by decide, gX2, wm_161, tyX2_ok, nmX2, by decide +kernel, by decide +kernel⟩
theorem cq_X11_139 : CQ RX11 139 yX2_stop cX2_stop 5 none 3 := ⟨wm_725, wm_112, wm_728, by decide +kernel, by decide⟩
theorem cr_1_X2_stop : CR 1 yX2_stop := ⟨by decide +kernel, 2, 7, TX2, by decide +kernel, rfl, wm_726, wm_727⟩
theorem cf_X2_28 : CQ RX2 28 ⟨"java/util/Arrays", "fill", "([II)V"⟩ cJ7_fill_53178 4 none 2 := ⟨wm_147, wm_113, wm_149, by decide +kernel, by decide⟩
theorem cq_X11_133 : CQ RX11 133 yX2_reopen cX2_reopen 1 none 0 := ⟨wm_721, wm_112, wm_724, by decide +kernel, by decide⟩
theorem cr_1_X2_reopen : CR 1 yX2_reopen := ⟨by decide +kernel, 2, 7, TX2, by decide +kernel, rfl, wm_722, wm_723⟩
theorem cq_X11_143 : CQ RX11 143 yX11_isBerths cX11_isBerths 1 (some .boolean) 1 := ⟨wm_733, wm_111, wm_735, by decide +kernel, by decide⟩
theorem st_X11_isBerths : Cond.static yX11_isBerths ∈ lw_gd := wm_734
theorem cq_X11_111 : CQ RX11 111 yX11_isPoint cX11_isPoint 1 (some .boolean) 1 := ⟨wm_736, wm_111, wm_738, by decide +kernel, by decide⟩
theorem st_X11_isPoint : Cond.static yX11_isPoint ∈ lw_gd := wm_737
theorem af_X11_49_0 : AF RX11 49 0 5 := ⟨11, 12, RX11, TX11, by decide +kernel, by decide +kernel, rfl, by decide, gX11, wm_646⟩
theorem sr_0_5 : srF 0 5 = 8 := by decide +kernel
theorem gX0 : ∀ w ∈ u_ws RX0 TX0 12, w ∈ lw_gd := gd_all inX0 (by decide +kernel)
theorem af_X0_50_6 : AF RX0 50 6 7 := ⟨0, 12, RX0, TX0, by decide +kernel, by decide +kernel, rfl, by decide, gX0, wm_345⟩
theorem sr_6_7 : srF 6 7 = 0 := by decide +kernel
theorem af_X0_9_6 : AF RX0 9 6 3 := ⟨0, 12, RX0, TX0, by decide +kernel, by decide +kernel, rfl, by decide, gX0, wm_337⟩
theorem sr_6_3 : srF 6 3 = 50 := by decide +kernel
theorem kc_48 : 48 < KC := by decide +kernel
theorem sk_48 : skF 48 = (0, 10) := by decide +kernel
theorem af_X0_15_6 : AF RX0 15 6 4 := ⟨0, 12, RX0, TX0, by decide +kernel, by decide +kernel, rfl, by decide, gX0, wm_339⟩
theorem sr_6_4 : srF 6 4 = 51 := by decide +kernel
theorem kc_49 : 49 < KC := by decide +kernel
theorem sk_49 : skF 49 = (0, 10) := by decide +kernel
theorem af_X0_18_6 : AF RX0 18 6 5 := ⟨0, 12, RX0, TX0, by decide +kernel, by decide +kernel, rfl, by decide, gX0, wm_340⟩
theorem sr_6_5 : srF 6 5 = 52 := by decide +kernel
theorem kc_50 : 50 < KC := by decide +kernel
theorem sk_50 : skF 50 = (0, 10) := by decide +kernel
theorem af_X0_21_6 : AF RX0 21 6 6 := ⟨0, 12, RX0, TX0, by decide +kernel, by decide +kernel, rfl, by decide, gX0, wm_342⟩
theorem sr_6_6 : srF 6 6 = 53 := by decide +kernel
theorem kc_51 : 51 < KC := by decide +kernel
theorem sk_51 : skF 51 = (0, 10) := by decide +kernel
theorem ap_X0_50_6 : AFp RX0 50 6 7 .int := ⟨0, 12, RX0, TX0, tyX0, by decide +kernel, by decide +kernel, rfl, by decide, gX0, wm_345, tyX0_ok, nmX0, by decide +kernel, by decide +kernel⟩
theorem cq_X11_146 : CQ RX11 146 yX0_add cX0_add 5 (some .int) 4 := ⟨wm_739, wm_117, wm_742, by decide +kernel, by decide⟩
theorem cr_6_X0_add : CR 6 yX0_add := ⟨by decide +kernel, 0, 12, TX0, by decide +kernel, rfl, wm_740, wm_741⟩
theorem af_X11_31_0 : AF RX11 31 0 3 := ⟨11, 12, RX11, TX11, by decide +kernel, by decide +kernel, rfl, by decide, gX11, wm_644⟩
theorem sr_0_3 : srF 0 3 = 6 := by decide +kernel
theorem gX4 : ∀ w ∈ u_ws RX4 TX4 9, w ∈ lw_gd := gd_all inX4 (by decide +kernel)
theorem af_X11_150_4 : AF RX11 150 4 2 := ⟨4, 9, RX4, TX4, by decide +kernel, by decide +kernel, rfl, by decide, gX4, wm_262⟩
theorem sr_4_2 : srF 4 2 = 0 := by decide +kernel
theorem af_X4_29_4 : AF RX4 29 4 2 := ⟨4, 9, RX4, TX4, by decide +kernel, by decide +kernel, rfl, by decide, gX4, wm_261⟩
theorem af_X4_9_4 : AF RX4 9 4 1 := ⟨4, 9, RX4, TX4, by decide +kernel, by decide +kernel, rfl, by decide, gX4, wm_260⟩
theorem sr_4_1 : srF 4 1 = 43 := by decide +kernel
theorem kc_41 : 41 < KC := by decide +kernel
theorem sk_41 : skF 41 = (0, 500) := by decide +kernel
theorem ap_X4_29_4 : AFp RX4 29 4 2 .int := ⟨4, 9, RX4, TX4, tyX4, by decide +kernel, by decide +kernel, rfl, by decide, gX4, wm_261, tyX4_ok, nmX4, by decide +kernel, by decide +kernel⟩
theorem cq_X11_153 : CQ RX11 153 yX4_put cX4_put 3 none 1 := ⟨wm_747, wm_115, wm_750, by decide +kernel, by decide⟩
theorem cr_4_X4_put : CR 4 yX4_put := ⟨by decide +kernel, 4, 9, TX4, by decide +kernel, rfl, wm_748, wm_749⟩
theorem ap_X11_150_4 : AFp RX11 150 4 2 .int := ⟨4, 9, RX4, TX4, tyX4, by decide +kernel, by decide +kernel, rfl, by decide, gX4, wm_262, tyX4_ok, nmX4, by decide +kernel, by decide +kernel⟩
theorem ap_X4_32_4 : AFp RX4 32 4 7 .int := ⟨4, 9, RX4, TX4, tyX4, by decide +kernel, by decide +kernel, rfl, by decide, gX4, wm_267, tyX4_ok, nmX4, by decide +kernel, by decide +kernel⟩
theorem sr_4_7 : srF 4 7 = 0 := by decide +kernel
theorem ap_X4_21_4 : AFp RX4 21 4 8 .int := ⟨4, 9, RX4, TX4, tyX4, by decide +kernel, by decide +kernel, rfl, by decide, gX4, wm_269, tyX4_ok, nmX4, by decide +kernel, by decide +kernel⟩
theorem sr_4_8 : srF 4 8 = 0 := by decide +kernel
theorem ap_X4_35_4 : AFp RX4 35 4 6 .int := ⟨4, 9, RX4, TX4, tyX4, by decide +kernel, by decide +kernel, rfl, by decide, gX4, wm_266, tyX4_ok, nmX4, by decide +kernel, by decide +kernel⟩
theorem sr_4_6 : srF 4 6 = 0 := by decide +kernel
theorem af_X4_25_4 : AF RX4 25 4 0 := ⟨4, 9, RX4, TX4, by decide +kernel, by decide +kernel, rfl, by decide, gX4, wm_259⟩
theorem sr_4_0 : srF 4 0 = 5 := by decide +kernel
theorem ap_X6_48_3 : AFp RX6 48 3 2 .int := ⟨6, 15, RX6, TX6, tyX6, by decide +kernel, by decide +kernel, rfl, by decide, gX6, wm_193, tyX6_ok, nmX6, by decide +kernel, by decide +kernel⟩
theorem sr_3_2 : srF 3 2 = 0 := by decide +kernel
theorem ap_X6_52_3 : AFp RX6 52 3 3 .int := ⟨6, 15, RX6, TX6, tyX6, by decide +kernel, by decide +kernel, rfl, by decide, gX6, wm_195, tyX6_ok, nmX6, by decide +kernel, by decide +kernel⟩
theorem sr_3_3 : srF 3 3 = 0 := by decide +kernel
theorem ap_X6_55_3 : AFp RX6 55 3 10 .int := ⟨6, 15, RX6, TX6, tyX6, by decide +kernel, by decide +kernel, rfl, by decide, gX6, wm_211, tyX6_ok, nmX6, by decide +kernel, by decide +kernel⟩
theorem sr_3_10 : srF 3 10 = 0 := by decide +kernel
theorem af_X6_36_3 : AF RX6 36 3 11 := ⟨6, 15, RX6, TX6, by decide +kernel, by decide +kernel, rfl, by decide, gX6, wm_213⟩
theorem sr_3_11 : srF 3 11 = 39 := by decide +kernel
theorem kc_37 : 37 < KC := by decide +kernel
theorem sk_37 : skF 37 = (0, 30) := by decide +kernel
theorem af_X6_39_3 : AF RX6 39 3 12 := ⟨6, 15, RX6, TX6, by decide +kernel, by decide +kernel, rfl, by decide, gX6, wm_216⟩
theorem sr_3_12 : srF 3 12 = 40 := by decide +kernel
theorem kc_38 : 38 < KC := by decide +kernel
theorem sk_38 : skF 38 = (0, 30) := by decide +kernel
theorem cq_X4_38 : CQ RX4 38 yX6_clear cX6_clear 1 none 0 := ⟨wm_763, wm_114, wm_766, by decide +kernel, by decide⟩
theorem cr_3_X6_clear : CR 3 yX6_clear := ⟨by decide +kernel, 6, 15, TX6, by decide +kernel, rfl, wm_764, wm_765⟩
theorem ap_X4_52_4 : AFp RX4 52 4 5 .int := ⟨4, 9, RX4, TX4, tyX4, by decide +kernel, by decide +kernel, rfl, by decide, gX4, wm_265, tyX4_ok, nmX4, by decide +kernel, by decide +kernel⟩
theorem sr_4_5 : srF 4 5 = 0 := by decide +kernel
theorem ns_X4_87 : (RX4, 87) ∈ nestL := by decide +kernel
theorem cq_X4_55 : CQ RX4 55 yX4_isLetter cX4_isLetter 1 (some .boolean) 1 := ⟨wm_771, wm_115, wm_773, by decide +kernel, by decide⟩
theorem st_X4_isLetter : Cond.static yX4_isLetter ∈ lw_gd := wm_772
theorem cq_X4_71 : CQ RX4 71 yX4_isDigit cX4_isDigit 1 (some .boolean) 1 := ⟨wm_840, wm_115, wm_842, by decide +kernel, by decide⟩
theorem st_X4_isDigit : Cond.static yX4_isDigit ∈ lw_gd := wm_841
theorem sw_X4_80 : (RX4, 80, ";+-*/()<=>", 1) ∈ strL := List.mem_of_getElem? (i := 1) (by decide +kernel)
theorem cq_X4_82 : CQ RX4 82 yJ0_indexOf_0f7a4 cJ0_indexOf_0f7a4 2 (some .int) 1 := ⟨wm_852, wm_125, wm_855, by decide +kernel, by decide⟩
theorem af_X4_52_4 : AF RX4 52 4 5 := ⟨4, 9, RX4, TX4, by decide +kernel, by decide +kernel, rfl, by decide, gX4, wm_265⟩
theorem af_X4_15_4 : AF RX4 15 4 3 := ⟨4, 9, RX4, TX4, by decide +kernel, by decide +kernel, rfl, by decide, gX4, wm_263⟩
theorem sr_4_3 : srF 4 3 = 44 := by decide +kernel
theorem kc_42 : 42 < KC := by decide +kernel
theorem sk_42 : skF 42 = (0, 501) := by decide +kernel
theorem af_X4_18_4 : AF RX4 18 4 4 := ⟨4, 9, RX4, TX4, by decide +kernel, by decide +kernel, rfl, by decide, gX4, wm_264⟩
theorem sr_4_4 : srF 4 4 = 45 := by decide +kernel
theorem kc_43 : 43 < KC := by decide +kernel
theorem sk_43 : skF 43 = (0, 501) := by decide +kernel
theorem cq_X4_67 : CQ RX4 67 yX4_add cX4_add 3 none 2 := ⟨wm_836, wm_115, wm_839, by decide +kernel, by decide⟩
theorem cr_4_X4_add : CR 4 yX4_add := ⟨by decide +kernel, 4, 9, TX4, by decide +kernel, rfl, wm_838, wm_6⟩
theorem cq_X4_74 : CQ RX4 74 yX4_endOfDigits cX4_endOfDigits 4 (some .int) 1 := ⟨wm_843, wm_115, wm_846, by decide +kernel, by decide⟩
theorem cr_4_X4_endOfDigits : CR 4 yX4_endOfDigits := ⟨by decide +kernel, 4, 9, TX4, by decide +kernel, rfl, wm_845, wm_7⟩
theorem cq_X4_77 : CQ RX4 77 yX4_numberOf cX4_numberOf 5 (some .int) 2 := ⟨wm_847, wm_115, wm_850, by decide +kernel, by decide⟩
theorem cr_4_X4_numberOf : CR 4 yX4_numberOf := ⟨by decide +kernel, 4, 9, TX4, by decide +kernel, rfl, wm_849, wm_8⟩
theorem cq_X4_59 : CQ RX4 59 yX4_endOfWord cX4_endOfWord 4 (some .int) 1 := ⟨wm_775, wm_115, wm_778, by decide +kernel, by decide⟩
theorem cr_4_X4_endOfWord : CR 4 yX4_endOfWord := ⟨by decide +kernel, 4, 9, TX4, by decide +kernel, rfl, wm_777, wm_3⟩
theorem sw_X4_91 : (RX4, 91, "locks tunnel price hold harm up down when or and not day week water berths away age depth said taught ", 0) ∈ strL := List.mem_of_getElem? (i := 0) (by decide +kernel)
theorem cq_X4_93 : CQ RX4 93 yJ0_length_8abf5 cJ0_length_8abf5 1 (some .int) 0 := ⟨wm_784, wm_125, wm_787, by decide +kernel, by decide⟩
theorem cq_X4_96 : CQ RX4 96 yJ0_charAt_5068e cJ0_charAt_5068e 2 (some .char) 1 := ⟨wm_794, wm_125, wm_797, by decide +kernel, by decide⟩
theorem cq_X4_100 : CQ RX4 100 yX4_isSame cX4_isSame 5 (some .boolean) 3 := ⟨wm_832, wm_115, wm_835, by decide +kernel, by decide⟩
theorem cr_4_X4_isSame : CR 4 yX4_isSame := ⟨by decide +kernel, 4, 9, TX4, by decide +kernel, rfl, wm_834, wm_5⟩
theorem cq_X4_63 : CQ RX4 63 yX4_wordOf cX4_wordOf 6 (some .int) 2 := ⟨wm_779, wm_115, wm_782, by decide +kernel, by decide⟩
theorem cr_4_X4_wordOf : CR 4 yX4_wordOf := ⟨by decide +kernel, 4, 9, TX4, by decide +kernel, rfl, wm_781, wm_4⟩
theorem cq_X4_43 : CQ RX4 43 yX4_scan cX4_scan 5 none 0 := ⟨wm_767, wm_115, wm_770, by decide +kernel, by decide⟩
theorem cr_4_X4_scan : CR 4 yX4_scan := ⟨by decide +kernel, 4, 9, TX4, by decide +kernel, rfl, wm_769, wm_2⟩
theorem af_X4_32_4 : AF RX4 32 4 7 := ⟨4, 9, RX4, TX4, by decide +kernel, by decide +kernel, rfl, by decide, gX4, wm_267⟩
theorem af_X4_35_4 : AF RX4 35 4 6 := ⟨4, 9, RX4, TX4, by decide +kernel, by decide +kernel, rfl, by decide, gX4, wm_266⟩
theorem af_X4_49_3 : AF RX4 49 3 3 := ⟨6, 15, RX6, TX6, by decide +kernel, by decide +kernel, rfl, by decide, gX6, wm_196⟩
theorem cq_X4_107 : CQ RX4 107 yX4_goOn cX4_goOn 1 none 0 := ⟨wm_919, wm_115, wm_922, by decide +kernel, by decide⟩
theorem cr_4_X4_goOn : CR 4 yX4_goOn := ⟨by decide +kernel, 4, 9, TX4, by decide +kernel, rfl, wm_921, wm_11⟩
theorem af_X4_110_3 : AF RX4 110 3 4 := ⟨6, 15, RX6, TX6, by decide +kernel, by decide +kernel, rfl, by decide, gX6, wm_198⟩
theorem sr_3_4 : srF 3 4 = 33 := by decide +kernel
theorem kc_31 : 31 < KC := by decide +kernel
theorem sk_31 : skF 31 = (0, 16) := by decide +kernel
theorem af_X4_113_3 : AF RX4 113 3 5 := ⟨6, 15, RX6, TX6, by decide +kernel, by decide +kernel, rfl, by decide, gX6, wm_200⟩
theorem sr_3_5 : srF 3 5 = 34 := by decide +kernel
theorem af_X4_116_3 : AF RX4 116 3 2 := ⟨6, 15, RX6, TX6, by decide +kernel, by decide +kernel, rfl, by decide, gX6, wm_194⟩
theorem kc_32 : 32 < KC := by decide +kernel
theorem sk_32 : skF 32 = (0, 16) := by decide +kernel
theorem cq_X4_103 : CQ RX4 103 yX4_fail cX4_fail 2 none 1 := ⟨wm_915, wm_115, wm_918, by decide +kernel, by decide⟩
theorem cr_4_X4_fail : CR 4 yX4_fail := ⟨by decide +kernel, 4, 9, TX4, by decide +kernel, rfl, wm_917, wm_10⟩
theorem af_X6_48_3 : AF RX6 48 3 2 := ⟨6, 15, RX6, TX6, by decide +kernel, by decide +kernel, rfl, by decide, gX6, wm_193⟩
theorem af_X6_9_3 : AF RX6 9 3 0 := ⟨6, 15, RX6, TX6, by decide +kernel, by decide +kernel, rfl, by decide, gX6, wm_191⟩
theorem sr_3_0 : srF 3 0 = 31 := by decide +kernel
theorem kc_29 : 29 < KC := by decide +kernel
theorem sk_29 : skF 29 = (0, 500) := by decide +kernel
theorem af_X6_15_3 : AF RX6 15 3 1 := ⟨6, 15, RX6, TX6, by decide +kernel, by decide +kernel, rfl, by decide, gX6, wm_192⟩
theorem sr_3_1 : srF 3 1 = 32 := by decide +kernel
theorem kc_30 : 30 < KC := by decide +kernel
theorem sk_30 : skF 30 = (0, 500) := by decide +kernel
theorem cq_X4_164 : CQ RX4 164 yX6_put cX6_put 3 none 2 := ⟨wm_951, wm_114, wm_954, by decide +kernel, by decide⟩
theorem cr_3_X6_put : CR 3 yX6_put := ⟨by decide +kernel, 6, 15, TX6, by decide +kernel, rfl, wm_952, wm_953⟩
theorem cq_X4_179 : CQ RX4 179 yX4_readUnit cX4_readUnit 2 none 0 := ⟨wm_947, wm_115, wm_950, by decide +kernel, by decide⟩
theorem cr_4_X4_readUnit : CR 4 yX4_readUnit := ⟨by decide +kernel, 4, 9, TX4, by decide +kernel, rfl, wm_949, wm_17⟩
theorem cq_X4_137 : CQ RX4 137 yX4_is cX4_is 2 (some .boolean) 1 := ⟨wm_931, wm_115, wm_934, by decide +kernel, by decide⟩
theorem cr_4_X4_is : CR 4 yX4_is := ⟨by decide +kernel, 4, 9, TX4, by decide +kernel, rfl, wm_933, wm_14⟩
theorem cq_X4_182 : CQ RX4 182 yX4_readPart cX4_readPart 2 none 0 := ⟨wm_955, wm_115, wm_958, by decide +kernel, by decide⟩
theorem cr_4_X4_readPart : CR 4 yX4_readPart := ⟨by decide +kernel, 4, 9, TX4, by decide +kernel, rfl, wm_957, wm_18⟩
theorem cq_X4_176 : CQ RX4 176 yX4_readProduct cX4_readProduct 3 none 0 := ⟨wm_943, wm_115, wm_946, by decide +kernel, by decide⟩
theorem cr_4_X4_readProduct : CR 4 yX4_readProduct := ⟨by decide +kernel, 4, 9, TX4, by decide +kernel, rfl, wm_945, wm_16⟩
theorem cq_X4_131 : CQ RX4 131 yX4_readSum cX4_readSum 3 none 0 := ⟨wm_939, wm_115, wm_942, by decide +kernel, by decide⟩
theorem cr_4_X4_readSum : CR 4 yX4_readSum := ⟨by decide +kernel, 4, 9, TX4, by decide +kernel, rfl, wm_941, wm_15⟩
theorem af_X4_122_3 : AF RX4 122 3 8 := ⟨6, 15, RX6, TX6, by decide +kernel, by decide +kernel, rfl, by decide, gX6, wm_207⟩
theorem sr_3_8 : srF 3 8 = 37 := by decide +kernel
theorem cq_X4_125 : CQ RX4 125 yX4_numberUpTo cX4_numberUpTo 3 (some .int) 1 := ⟨wm_927, wm_115, wm_930, by decide +kernel, by decide⟩
theorem cr_4_X4_numberUpTo : CR 4 yX4_numberUpTo := ⟨by decide +kernel, 4, 9, TX4, by decide +kernel, rfl, wm_929, wm_13⟩
theorem kc_35 : 35 < KC := by decide +kernel
theorem sk_35 : skF 35 = (0, 16) := by decide +kernel
theorem af_X4_128_3 : AF RX4 128 3 9 := ⟨6, 15, RX6, TX6, by decide +kernel, by decide +kernel, rfl, by decide, gX6, wm_210⟩
theorem sr_3_9 : srF 3 9 = 38 := by decide +kernel
theorem kc_36 : 36 < KC := by decide +kernel
theorem sk_36 : skF 36 = (0, 16) := by decide +kernel
theorem af_X6_55_3 : AF RX6 55 3 10 := ⟨6, 15, RX6, TX6, by decide +kernel, by decide +kernel, rfl, by decide, gX6, wm_211⟩
theorem cq_X4_149 : CQ RX4 149 yX6_hasTunnel cX6_hasTunnel 2 (some .boolean) 1 := ⟨wm_935, wm_114, wm_938, by decide +kernel, by decide⟩
theorem cr_3_X6_hasTunnel : CR 3 yX6_hasTunnel := ⟨by decide +kernel, 6, 15, TX6, by decide +kernel, rfl, wm_936, wm_937⟩
theorem af_X4_152_3 : AF RX4 152 3 10 := ⟨6, 15, RX6, TX6, by decide +kernel, by decide +kernel, rfl, by decide, gX6, wm_212⟩
theorem ap_X4_152_3 : AFp RX4 152 3 10 .int := ⟨6, 15, RX6, TX6, tyX6, by decide +kernel, by decide +kernel, rfl, by decide, gX6, wm_212, tyX6_ok, nmX6, by decide +kernel, by decide +kernel⟩
theorem af_X4_155_3 : AF RX4 155 3 11 := ⟨6, 15, RX6, TX6, by decide +kernel, by decide +kernel, rfl, by decide, gX6, wm_215⟩
theorem af_X4_158_3 : AF RX4 158 3 12 := ⟨6, 15, RX6, TX6, by decide +kernel, by decide +kernel, rfl, by decide, gX6, wm_218⟩
theorem cq_X4_119 : CQ RX4 119 yX4_readTunnel cX4_readTunnel 3 none 0 := ⟨wm_923, wm_115, wm_926, by decide +kernel, by decide⟩
theorem cr_4_X4_readTunnel : CR 4 yX4_readTunnel := ⟨by decide +kernel, 4, 9, TX4, by decide +kernel, rfl, wm_925, wm_12⟩
theorem af_X4_134_3 : AF RX4 134 3 6 := ⟨6, 15, RX6, TX6, by decide +kernel, by decide +kernel, rfl, by decide, gX6, wm_202⟩
theorem sr_3_6 : srF 3 6 = 35 := by decide +kernel
theorem kc_33 : 33 < KC := by decide +kernel
theorem sk_33 : skF 33 = (0, 16) := by decide +kernel
theorem cq_X4_170 : CQ RX4 170 yX4_openOneMore cX4_openOneMore 2 none 1 := ⟨wm_971, wm_115, wm_974, by decide +kernel, by decide⟩
theorem cr_4_X4_openOneMore : CR 4 yX4_openOneMore := ⟨by decide +kernel, 4, 9, TX4, by decide +kernel, rfl, wm_973, wm_22⟩
theorem cq_X4_173 : CQ RX4 173 yX4_demandComparing cX4_demandComparing 1 none 0 := ⟨wm_979, wm_115, wm_982, by decide +kernel, by decide⟩
theorem cr_4_X4_demandComparing : CR 4 yX4_demandComparing := ⟨by decide +kernel, 4, 9, TX4, by decide +kernel, rfl, wm_981, wm_24⟩
theorem cq_X4_140 : CQ RX4 140 yX4_readEither cX4_readEither 3 none 1 := ⟨wm_959, wm_115, wm_962, by decide +kernel, by decide⟩
theorem cr_4_X4_readEither : CR 4 yX4_readEither := ⟨by decide +kernel, 4, 9, TX4, by decide +kernel, rfl, wm_961, wm_19⟩
theorem cq_X4_146 : CQ RX4 146 yX4_demand cX4_demand 2 none 1 := ⟨wm_975, wm_115, wm_978, by decide +kernel, by decide⟩
theorem cr_4_X4_demand : CR 4 yX4_demand := ⟨by decide +kernel, 4, 9, TX4, by decide +kernel, rfl, wm_977, wm_23⟩
theorem cq_X4_167 : CQ RX4 167 yX4_readOne cX4_readOne 4 none 1 := ⟨wm_967, wm_115, wm_970, by decide +kernel, by decide⟩
theorem cr_4_X4_readOne : CR 4 yX4_readOne := ⟨by decide +kernel, 4, 9, TX4, by decide +kernel, rfl, wm_969, wm_21⟩
theorem cq_X4_161 : CQ RX4 161 yX4_readAll cX4_readAll 3 none 1 := ⟨wm_963, wm_115, wm_966, by decide +kernel, by decide⟩
theorem cr_4_X4_readAll : CR 4 yX4_readAll := ⟨by decide +kernel, 4, 9, TX4, by decide +kernel, rfl, wm_965, wm_20⟩
theorem af_X4_143_3 : AF RX4 143 3 7 := ⟨6, 15, RX6, TX6, by decide +kernel, by decide +kernel, rfl, by decide, gX6, wm_204⟩
theorem sr_3_7 : srF 3 7 = 36 := by decide +kernel
theorem kc_34 : 34 < KC := by decide +kernel
theorem sk_34 : skF 34 = (0, 16) := by decide +kernel
theorem ap_X4_49_3 : AFp RX4 49 3 3 .int := ⟨6, 15, RX6, TX6, tyX6, by decide +kernel, by decide +kernel, rfl, by decide, gX6, wm_196, tyX6_ok, nmX6, by decide +kernel, by decide +kernel⟩
theorem cq_X4_46 : CQ RX4 46 yX4_readLine cX4_readLine 3 none 0 := ⟨wm_911, wm_115, wm_914, by decide +kernel, by decide⟩
theorem cr_4_X4_readLine : CR 4 yX4_readLine := ⟨by decide +kernel, 4, 9, TX4, by decide +kernel, rfl, wm_913, wm_9⟩
theorem cq_X11_157 : CQ RX11 157 yX4_read cX4_read 2 (some .int) 0 := ⟨wm_759, wm_115, wm_762, by decide +kernel, by decide⟩
theorem cr_4_X4_read : CR 4 yX4_read := ⟨by decide +kernel, 4, 9, TX4, by decide +kernel, rfl, wm_760, wm_761⟩
theorem af_X11_19_0 : AF RX11 19 0 1 := ⟨11, 12, RX11, TX11, by decide +kernel, by decide +kernel, rfl, by decide, gX11, wm_642⟩
theorem sr_0_1 : srF 0 1 = 4 := by decide +kernel
theorem af_X11_23_0 : AF RX11 23 0 2 := ⟨11, 12, RX11, TX11, by decide +kernel, by decide +kernel, rfl, by decide, gX11, wm_643⟩
theorem sr_0_2 : srF 0 2 = 5 := by decide +kernel
theorem ap_X6_48_2 : AFp RX6 48 2 2 .int := ⟨6, 15, RX6, TX6, tyX6, by decide +kernel, by decide +kernel, rfl, by decide, gX6, wm_193, tyX6_ok, nmX6, by decide +kernel, by decide +kernel⟩
theorem sr_2_2 : srF 2 2 = 0 := by decide +kernel
theorem af_X6_52_3 : AF RX6 52 3 3 := ⟨6, 15, RX6, TX6, by decide +kernel, by decide +kernel, rfl, by decide, gX6, wm_195⟩
theorem ap_X6_52_2 : AFp RX6 52 2 3 .int := ⟨6, 15, RX6, TX6, tyX6, by decide +kernel, by decide +kernel, rfl, by decide, gX6, wm_195, tyX6_ok, nmX6, by decide +kernel, by decide +kernel⟩
theorem ap_X6_55_2 : AFp RX6 55 2 10 .int := ⟨6, 15, RX6, TX6, tyX6, by decide +kernel, by decide +kernel, rfl, by decide, gX6, wm_211, tyX6_ok, nmX6, by decide +kernel, by decide +kernel⟩
theorem sr_2_10 : srF 2 10 = 0 := by decide +kernel
theorem cc_X6_64 : Cond.methodLink RX6 64 arraycopyName ∈ lw_gd := wm_987
theorem ac_n : Cond.native arraycopyName ∈ lw_gd := wm_989
theorem ac_s : Cond.static arraycopyName ∈ lw_gd := wm_988
theorem ac_i : Cond.initialized "java/lang/System" ∈ lw_gd := wm_131
theorem af_X6_18_3 : AF RX6 18 3 4 := ⟨6, 15, RX6, TX6, by decide +kernel, by decide +kernel, rfl, by decide, gX6, wm_197⟩
theorem af_X6_21_3 : AF RX6 21 3 5 := ⟨6, 15, RX6, TX6, by decide +kernel, by decide +kernel, rfl, by decide, gX6, wm_199⟩
theorem af_X6_21_2 : AF RX6 21 2 5 := ⟨6, 15, RX6, TX6, by decide +kernel, by decide +kernel, rfl, by decide, gX6, wm_199⟩
theorem sr_2_5 : srF 2 5 = 22 := by decide +kernel
theorem kc_20 : 20 < KC := by decide +kernel
theorem sk_20 : skF 20 = (0, 16) := by decide +kernel
theorem af_X6_24_3 : AF RX6 24 3 6 := ⟨6, 15, RX6, TX6, by decide +kernel, by decide +kernel, rfl, by decide, gX6, wm_201⟩
theorem af_X6_27_3 : AF RX6 27 3 7 := ⟨6, 15, RX6, TX6, by decide +kernel, by decide +kernel, rfl, by decide, gX6, wm_203⟩
theorem af_X6_30_3 : AF RX6 30 3 8 := ⟨6, 15, RX6, TX6, by decide +kernel, by decide +kernel, rfl, by decide, gX6, wm_205⟩
theorem af_X6_30_2 : AF RX6 30 2 8 := ⟨6, 15, RX6, TX6, by decide +kernel, by decide +kernel, rfl, by decide, gX6, wm_205⟩
theorem af_X6_33_3 : AF RX6 33 3 9 := ⟨6, 15, RX6, TX6, by decide +kernel, by decide +kernel, rfl, by decide, gX6, wm_208⟩
theorem af_X6_33_2 : AF RX6 33 2 9 := ⟨6, 15, RX6, TX6, by decide +kernel, by decide +kernel, rfl, by decide, gX6, wm_208⟩
theorem af_X6_36_2 : AF RX6 36 2 11 := ⟨6, 15, RX6, TX6, by decide +kernel, by decide +kernel, rfl, by decide, gX6, wm_213⟩
theorem sr_2_11 : srF 2 11 = 27 := by decide +kernel
theorem kc_25 : 25 < KC := by decide +kernel
theorem sk_25 : skF 25 = (0, 30) := by decide +kernel
theorem af_X6_39_2 : AF RX6 39 2 12 := ⟨6, 15, RX6, TX6, by decide +kernel, by decide +kernel, rfl, by decide, gX6, wm_216⟩
theorem sr_2_12 : srF 2 12 = 28 := by decide +kernel
theorem kc_26 : 26 < KC := by decide +kernel
theorem sk_26 : skF 26 = (0, 30) := by decide +kernel
theorem cq_X11_161 : CQ RX11 161 yX6_takeOver cX6_takeOver 2 none 1 := ⟨wm_983, wm_114, wm_986, by decide +kernel, by decide⟩
theorem cr_2_X6_takeOver : CR 2 yX6_takeOver := ⟨by decide +kernel, 6, 15, TX6, by decide +kernel, rfl, wm_984, wm_985⟩
theorem af_X11_167_4 : AF RX11 167 4 8 := ⟨4, 9, RX4, TX4, by decide +kernel, by decide +kernel, rfl, by decide, gX4, wm_270⟩
theorem af_X11_164_4 : AF RX11 164 4 7 := ⟨4, 9, RX4, TX4, by decide +kernel, by decide +kernel, rfl, by decide, gX4, wm_268⟩
theorem af_X11_173_5 : AF RX11 173 5 3 := ⟨9, 8, RX9, TX9, by decide +kernel, by decide +kernel, rfl, by decide, gX9, wm_302⟩
theorem af_X11_170_5 : AF RX11 170 5 2 := ⟨9, 8, RX9, TX9, by decide +kernel, by decide +kernel, rfl, by decide, gX9, wm_300⟩
theorem af_X11_103_6 : AF RX11 103 6 7 := ⟨0, 12, RX0, TX0, by decide +kernel, by decide +kernel, rfl, by decide, gX0, wm_346⟩
theorem cq_X11_107 : CQ RX11 107 yX11_isBoat cX11_isBoat 2 (some .boolean) 1 := ⟨wm_1007, wm_111, wm_1010, by decide +kernel, by decide⟩
theorem cr_0_X11_isBoat : CR 0 yX11_isBoat := ⟨by decide +kernel, 11, 12, TX11, by decide +kernel, rfl, wm_1009, wm_26⟩
theorem cq_X11_114 : CQ RX11 114 yX11_isTime cX11_isTime 1 (some .boolean) 1 := ⟨wm_1011, wm_111, wm_1013, by decide +kernel, by decide⟩
theorem st_X11_isTime : Cond.static yX11_isTime ∈ lw_gd := wm_1012
theorem cq_X11_176 : CQ RX11 176 yX11_isWay cX11_isWay 5 (some .boolean) 4 := ⟨wm_1003, wm_111, wm_1006, by decide +kernel, by decide⟩
theorem cr_0_X11_isWay : CR 0 yX11_isWay := ⟨by decide +kernel, 11, 12, TX11, by decide +kernel, rfl, wm_1005, wm_25⟩
theorem af_X11_180_6 : AF RX11 180 6 6 := ⟨0, 12, RX0, TX0, by decide +kernel, by decide +kernel, rfl, by decide, gX0, wm_344⟩
theorem ap_X9_60_5 : AFp RX9 60 5 6 .int := ⟨9, 8, RX9, TX9, tyX9, by decide +kernel, by decide +kernel, rfl, by decide, gX9, wm_307, tyX9_ok, nmX9, by decide +kernel, by decide +kernel⟩
theorem sr_5_6 : srF 5 6 = 0 := by decide +kernel
theorem ap_X9_63_5 : AFp RX9 63 5 7 .boolean := ⟨9, 8, RX9, TX9, tyX9, by decide +kernel, by decide +kernel, rfl, by decide, gX9, wm_308, tyX9_ok, nmX9, by decide +kernel, by decide +kernel⟩
theorem sr_5_7 : srF 5 7 = 0 := by decide +kernel
theorem af_X9_21_5 : AF RX9 21 5 5 := ⟨9, 8, RX9, TX9, by decide +kernel, by decide +kernel, rfl, by decide, gX9, wm_305⟩
theorem sr_5_5 : srF 5 5 = 49 := by decide +kernel
theorem kc_47 : 47 < KC := by decide +kernel
theorem sk_47 : skF 47 = (0, 14) := by decide +kernel
theorem cf_X9_32 : CQ RX9 32 ⟨"java/util/Arrays", "fill", "([II)V"⟩ cJ7_fill_53178 4 none 2 := ⟨wm_296, wm_113, wm_149, by decide +kernel, by decide⟩
theorem cq_X9_67 : CQ RX9 67 yX9_setOut cX9_setOut 3 none 2 := ⟨wm_1018, wm_116, wm_1021, by decide +kernel, by decide⟩
theorem cr_5_X9_setOut : CR 5 yX9_setOut := ⟨by decide +kernel, 9, 8, TX9, by decide +kernel, rfl, wm_1020, wm_27⟩
theorem af_X9_78_1 : AF RX9 78 1 0 := ⟨2, 7, RX2, TX2, by decide +kernel, by decide +kernel, rfl, by decide, gX2, wm_151⟩
theorem af_X6_55_2 : AF RX6 55 2 10 := ⟨6, 15, RX6, TX6, by decide +kernel, by decide +kernel, rfl, by decide, gX6, wm_211⟩
theorem cq_X6_70 : CQ RX6 70 yX6_hasTunnel cX6_hasTunnel 2 (some .boolean) 1 := ⟨wm_1030, wm_114, wm_938, by decide +kernel, by decide⟩
theorem cr_2_X6_hasTunnel : CR 2 yX6_hasTunnel := ⟨by decide +kernel, 6, 15, TX6, by decide +kernel, rfl, wm_936, wm_937⟩
theorem cq_X9_81 : CQ RX9 81 yX6_isTunnel cX6_isTunnel 2 (some .boolean) 1 := ⟨wm_1026, wm_114, wm_1029, by decide +kernel, by decide⟩
theorem cr_2_X6_isTunnel : CR 2 yX6_isTunnel := ⟨by decide +kernel, 6, 15, TX6, by decide +kernel, rfl, wm_1027, wm_1028⟩
theorem af_X9_118_2 : AF RX9 118 2 11 := ⟨6, 15, RX6, TX6, by decide +kernel, by decide +kernel, rfl, by decide, gX6, wm_214⟩
theorem cq_X9_96 : CQ RX9 96 yX9_firstHour cX9_firstHour 4 (some .int) 3 := ⟨wm_1039, wm_116, wm_1042, by decide +kernel, by decide⟩
theorem cr_5_X9_firstHour : CR 5 yX9_firstHour := ⟨by decide +kernel, 9, 8, TX9, by decide +kernel, rfl, wm_1041, wm_31⟩
theorem cm_X9_99 : Cond.methodLink RX9 99 Lib.Math.max.name ∈ lw_gd := wm_1043
theorem mst_max : Cond.static Lib.Math.max.name ∈ lw_gd := wm_868
theorem mini : Cond.initialized "java/lang/Math" ∈ lw_gd := wm_129
theorem mcd_max : Cond.code Lib.Math.max.name Lib.Math.max.code 2 (some .int) ∈ lw_gd := wm_869
theorem af_X9_121_2 : AF RX9 121 2 12 := ⟨6, 15, RX6, TX6, by decide +kernel, by decide +kernel, rfl, by decide, gX6, wm_217⟩
theorem cq_X9_105 : CQ RX9 105 yX9_hourBehind cX9_hourBehind 4 (some .int) 3 := ⟨wm_1044, wm_116, wm_1047, by decide +kernel, by decide⟩
theorem cr_5_X9_hourBehind : CR 5 yX9_hourBehind := ⟨by decide +kernel, 9, 8, TX9, by decide +kernel, rfl, wm_1046, wm_32⟩
theorem cm_X9_108 : Cond.methodLink RX9 108 Lib.Math.min.name ∈ lw_gd := wm_1048
theorem mst_min : Cond.static Lib.Math.min.name ∈ lw_gd := wm_871
theorem mcd_min : Cond.code Lib.Math.min.name Lib.Math.min.code 2 (some .int) ∈ lw_gd := wm_872
theorem af_X9_63_5 : AF RX9 63 5 7 := ⟨9, 8, RX9, TX9, by decide +kernel, by decide +kernel, rfl, by decide, gX9, wm_308⟩
theorem af_X9_115_1 : AF RX9 115 1 3 := ⟨2, 7, RX2, TX2, by decide +kernel, by decide +kernel, rfl, by decide, gX2, wm_160⟩
theorem cq_X9_111 : CQ RX9 111 yX9_isStopped cX9_isStopped 3 (some .boolean) 2 := ⟨wm_1049, wm_116, wm_1052, by decide +kernel, by decide⟩
theorem cr_5_X9_isStopped : CR 5 yX9_isStopped := ⟨by decide +kernel, 9, 8, TX9, by decide +kernel, rfl, wm_1051, wm_33⟩
theorem cq_X9_92 : CQ RX9 92 yX9_begins cX9_begins 8 (some .int) 3 := ⟨wm_1035, wm_116, wm_1038, by decide +kernel, by decide⟩
theorem cr_5_X9_begins : CR 5 yX9_begins := ⟨by decide +kernel, 9, 8, TX9, by decide +kernel, rfl, wm_1037, wm_30⟩
theorem cq_X9_85 : CQ RX9 85 yX9_step cX9_step 6 (some .int) 4 := ⟨wm_1031, wm_116, wm_1034, by decide +kernel, by decide⟩
theorem cr_5_X9_step : CR 5 yX9_step := ⟨by decide +kernel, 9, 8, TX9, by decide +kernel, rfl, wm_1033, wm_29⟩
theorem af_X9_89_1 : AF RX9 89 1 1 := ⟨2, 7, RX2, TX2, by decide +kernel, by decide +kernel, rfl, by decide, gX2, wm_154⟩
theorem af_X9_60_5 : AF RX9 60 5 6 := ⟨9, 8, RX9, TX9, by decide +kernel, by decide +kernel, rfl, by decide, gX9, wm_307⟩
theorem cq_X9_71 : CQ RX9 71 yX9_pass cX9_pass 7 (some .int) 3 := ⟨wm_1022, wm_116, wm_1025, by decide +kernel, by decide⟩
theorem cr_5_X9_pass : CR 5 yX9_pass := ⟨by decide +kernel, 9, 8, TX9, by decide +kernel, rfl, wm_1024, wm_28⟩
theorem cq_X11_183 : CQ RX11 183 yX9_comesTo cX9_comesTo 8 (some .int) 5 := ⟨wm_1014, wm_116, wm_1017, by decide +kernel, by decide⟩
theorem cr_5_X9_comesTo : CR 5 yX9_comesTo := ⟨by decide +kernel, 9, 8, TX9, by decide +kernel, rfl, wm_1015, wm_1016⟩
theorem af_X9_18_5 : AF RX9 18 5 4 := ⟨9, 8, RX9, TX9, by decide +kernel, by decide +kernel, rfl, by decide, gX9, wm_303⟩
theorem sr_5_4 : srF 5 4 = 48 := by decide +kernel
theorem kc_46 : 46 < KC := by decide +kernel
theorem sk_46 : skF 46 = (0, 16) := by decide +kernel
theorem cq_X11_187 : CQ RX11 187 yX9_reach cX9_reach 5 none 3 := ⟨wm_1057, wm_116, wm_1060, by decide +kernel, by decide⟩
theorem cr_5_X9_reach : CR 5 yX9_reach := ⟨by decide +kernel, 9, 8, TX9, by decide +kernel, rfl, wm_1058, wm_1059⟩
theorem cq_X11_190 : CQ RX11 190 yX9_reached cX9_reached 4 (some .int) 1 := ⟨wm_1061, wm_116, wm_1064, by decide +kernel, by decide⟩
theorem cr_5_X9_reached : CR 5 yX9_reached := ⟨by decide +kernel, 9, 8, TX9, by decide +kernel, rfl, wm_1062, wm_1063⟩
theorem af_X0_46_6 : AF RX0 46 6 2 := ⟨0, 12, RX0, TX0, by decide +kernel, by decide +kernel, rfl, by decide, gX0, wm_336⟩
theorem sr_6_2 : srF 6 2 = 7 := by decide +kernel
theorem af_X0_98_5 : AF RX0 98 5 5 := ⟨9, 8, RX9, TX9, by decide +kernel, by decide +kernel, rfl, by decide, gX9, wm_306⟩
theorem af_X0_42_6 : AF RX0 42 6 1 := ⟨0, 12, RX0, TX0, by decide +kernel, by decide +kernel, rfl, by decide, gX0, wm_335⟩
theorem sr_6_1 : srF 6 1 = 4 := by decide +kernel
theorem af_X0_38_6 : AF RX0 38 6 0 := ⟨0, 12, RX0, TX0, by decide +kernel, by decide +kernel, rfl, by decide, gX0, wm_334⟩
theorem sr_6_0 : srF 6 0 = 3 := by decide +kernel
theorem af_X0_104_1 : AF RX0 104 1 5 := ⟨2, 7, RX2, TX2, by decide +kernel, by decide +kernel, rfl, by decide, gX2, wm_166⟩
theorem cq_X0_109 : CQ RX0 109 yX6_askDay cX6_askDay 3 none 2 := ⟨wm_1077, wm_114, wm_696, by decide +kernel, by decide⟩
theorem af_X0_115_2 : AF RX0 115 2 13 := ⟨6, 15, RX6, TX6, by decide +kernel, by decide +kernel, rfl, by decide, gX6, wm_220⟩
theorem cq_X0_118 : CQ RX0 118 yX6_serving cX6_serving 3 (some .int) 1 := ⟨wm_1078, wm_114, wm_701, by decide +kernel, by decide⟩
theorem cq_X0_121 : CQ RX0 121 yX6_valueOf cX6_valueOf 2 (some .int) 1 := ⟨wm_1079, wm_114, wm_1082, by decide +kernel, by decide⟩
theorem cr_2_X6_valueOf : CR 2 yX6_valueOf := ⟨by decide +kernel, 6, 15, TX6, by decide +kernel, rfl, wm_1080, wm_1081⟩
theorem cm_X0_124 : Cond.methodLink RX0 124 Lib.Math.min.name ∈ lw_gd := wm_1083
theorem cm_X0_71 : Cond.methodLink RX0 71 Lib.Math.max.name ∈ lw_gd := wm_1084
theorem cq_X0_101 : CQ RX0 101 yX0_harmOfLock cX0_harmOfLock 4 (some .int) 2 := ⟨wm_1073, wm_117, wm_1076, by decide +kernel, by decide⟩
theorem cr_6_X0_harmOfLock : CR 6 yX0_harmOfLock := ⟨by decide +kernel, 0, 12, TX0, by decide +kernel, rfl, wm_1075, wm_34⟩
theorem cq_X11_194 : CQ RX11 194 yX0_harmOfLatestWay cX0_harmOfLatestWay 4 (some .int) 1 := ⟨wm_1069, wm_117, wm_1072, by decide +kernel, by decide⟩
theorem cr_6_X0_harmOfLatestWay : CR 6 yX0_harmOfLatestWay := ⟨by decide +kernel, 0, 12, TX0, by decide +kernel, rfl, wm_1070, wm_1071⟩
theorem af_X11_58_0 : AF RX11 58 0 6 := ⟨11, 12, RX11, TX11, by decide +kernel, by decide +kernel, rfl, by decide, gX11, wm_647⟩
theorem sr_0_6 : srF 0 6 = 9 := by decide +kernel
theorem gX7 : ∀ w ∈ u_ws RX7 TX7 9, w ∈ lw_gd := gd_all inX7 (by decide +kernel)
theorem af_X11_197_7 : AF RX11 197 7 8 := ⟨7, 9, RX7, TX7, by decide +kernel, by decide +kernel, rfl, by decide, gX7, wm_392⟩
theorem sr_7_8 : srF 7 8 = 0 := by decide +kernel
theorem cw_X11_198 : Cond.constant RX11 198 (Int32.ofInt (-1000000)) ∈ lw_gd := wm_1089
theorem af_X7_35_7 : AF RX7 35 7 2 := ⟨7, 9, RX7, TX7, by decide +kernel, by decide +kernel, rfl, by decide, gX7, wm_385⟩
theorem sr_7_2 : srF 7 2 = 7 := by decide +kernel
theorem af_X7_27_7 : AF RX7 27 7 0 := ⟨7, 9, RX7, TX7, by decide +kernel, by decide +kernel, rfl, by decide, gX7, wm_383⟩
theorem sr_7_0 : srF 7 0 = 8 := by decide +kernel
theorem af_X7_43_6 : AF RX7 43 6 6 := ⟨0, 12, RX0, TX0, by decide +kernel, by decide +kernel, rfl, by decide, gX0, wm_343⟩
theorem af_X7_9_7 : AF RX7 9 7 3 := ⟨7, 9, RX7, TX7, by decide +kernel, by decide +kernel, rfl, by decide, gX7, wm_386⟩
theorem sr_7_3 : srF 7 3 = 78 := by decide +kernel
theorem kc_76 : 76 < KC := by decide +kernel
theorem sk_76 : skF 76 = (0, 20) := by decide +kernel
theorem af_X7_15_7 : AF RX7 15 7 4 := ⟨7, 9, RX7, TX7, by decide +kernel, by decide +kernel, rfl, by decide, gX7, wm_387⟩
theorem sr_7_4 : srF 7 4 = 79 := by decide +kernel
theorem kc_77 : 77 < KC := by decide +kernel
theorem sk_77 : skF 77 = (0, 20) := by decide +kernel
theorem af_X7_18_7 : AF RX7 18 7 5 := ⟨7, 9, RX7, TX7, by decide +kernel, by decide +kernel, rfl, by decide, gX7, wm_388⟩
theorem sr_7_5 : srF 7 5 = 80 := by decide +kernel
theorem kc_78 : 78 < KC := by decide +kernel
theorem sk_78 : skF 78 = (0, 20) := by decide +kernel
theorem af_X7_21_7 : AF RX7 21 7 6 := ⟨7, 9, RX7, TX7, by decide +kernel, by decide +kernel, rfl, by decide, gX7, wm_389⟩
theorem sr_7_6 : srF 7 6 = 81 := by decide +kernel
theorem kc_79 : 79 < KC := by decide +kernel
theorem sk_79 : skF 79 = (0, 20) := by decide +kernel
theorem cq_X7_48 : CQ RX7 48 yX9_comesTo cX9_comesTo 8 (some .int) 5 := ⟨wm_1102, wm_116, wm_1017, by decide +kernel, by decide⟩
theorem af_X7_24_7 : AF RX7 24 7 7 := ⟨7, 9, RX7, TX7, by decide +kernel, by decide +kernel, rfl, by decide, gX7, wm_390⟩
theorem sr_7_7 : srF 7 7 = 82 := by decide +kernel
theorem kc_80 : 80 < KC := by decide +kernel
theorem sk_80 : skF 80 = (0, 20) := by decide +kernel
theorem cm_X7_54 : Cond.methodLink RX7 54 Lib.Math.max.name ∈ lw_gd := wm_1111
theorem cq_X7_60 : CQ RX7 60 yX7_lateBy cX7_lateBy 4 (some .int) 2 := ⟨wm_1107, wm_118, wm_1110, by decide +kernel, by decide⟩
theorem cr_7_X7_lateBy : CR 7 yX7_lateBy := ⟨by decide +kernel, 7, 9, TX7, by decide +kernel, rfl, wm_1108, wm_1109⟩
theorem cq_X0_127 : CQ RX0 127 yX6_askWeek cX6_askWeek 2 none 1 := ⟨wm_1116, wm_114, wm_1119, by decide +kernel, by decide⟩
theorem cr_2_X6_askWeek : CR 2 yX6_askWeek := ⟨by decide +kernel, 6, 15, TX6, by decide +kernel, rfl, wm_1117, wm_1118⟩
theorem cq_X7_73 : CQ RX7 73 yX0_priceLine cX0_priceLine 4 (some .int) 3 := ⟨wm_1112, wm_117, wm_1115, by decide +kernel, by decide⟩
theorem cr_6_X0_priceLine : CR 6 yX0_priceLine := ⟨by decide +kernel, 0, 12, TX0, by decide +kernel, rfl, wm_1113, wm_1114⟩
theorem cm_X7_77 : Cond.methodLink RX7 77 Lib.Math.min.name ∈ lw_gd := wm_1120
theorem af_X7_31_7 : AF RX7 31 7 1 := ⟨7, 9, RX7, TX7, by decide +kernel, by decide +kernel, rfl, by decide, gX7, wm_384⟩
theorem sr_7_1 : srF 7 1 = 4 := by decide +kernel
theorem cq_X7_80 : CQ RX7 80 yX6_valueOf cX6_valueOf 2 (some .int) 1 := ⟨wm_1121, wm_114, wm_1082, by decide +kernel, by decide⟩
theorem cw_X7_85 : Cond.constantLong RX7 85 (Int64.ofInt 7) ∈ lw_gd := wm_1122
theorem cw_X7_64 : Cond.constant RX7 64 (Int32.ofInt (-1000000)) ∈ lw_gd := wm_1094
theorem cq_X11_202 : CQ RX11 202 yX7_refund cX7_refund 6 (some .int) 1 := ⟨wm_1103, wm_118, wm_1106, by decide +kernel, by decide⟩
theorem cr_7_X7_refund : CR 7 yX7_refund := ⟨by decide +kernel, 7, 9, TX7, by decide +kernel, rfl, wm_1104, wm_1105⟩
theorem cm_X7_65 : Cond.methodLink RX7 65 Lib.Math.abs.name ∈ lw_gd := wm_1095
theorem mst_abs : Cond.static Lib.Math.abs.name ∈ lw_gd := wm_1096
theorem mcd_abs : Cond.code Lib.Math.abs.name Lib.Math.abs.code 1 (some .int) ∈ lw_gd := wm_1097
theorem cq_X7_69 : CQ RX7 69 yX7_isBackInTime cX7_isBackInTime 6 (some .boolean) 2 := ⟨wm_1098, wm_118, wm_1101, by decide +kernel, by decide⟩
theorem cr_7_X7_isBackInTime : CR 7 yX7_isBackInTime := ⟨by decide +kernel, 7, 9, TX7, by decide +kernel, rfl, wm_1100, wm_35⟩
theorem cq_X11_199 : CQ RX11 199 yX7_turningBack cX7_turningBack 7 (some .int) 1 := ⟨wm_1090, wm_118, wm_1093, by decide +kernel, by decide⟩
theorem cr_7_X7_turningBack : CR 7 yX7_turningBack := ⟨by decide +kernel, 7, 9, TX7, by decide +kernel, rfl, wm_1091, wm_1092⟩
theorem cq_X11_205 : CQ RX11 205 yX7_lateBy cX7_lateBy 4 (some .int) 2 := ⟨wm_1127, wm_118, wm_1110, by decide +kernel, by decide⟩
theorem af_X2_37_1 : AF RX2 37 1 6 := ⟨2, 7, RX2, TX2, by decide +kernel, by decide +kernel, rfl, by decide, gX2, wm_167⟩
theorem sr_1_6 : srF 1 6 = 0 := by decide +kernel
theorem ap_X2_37_1 : AFp RX2 37 1 6 .int := ⟨2, 7, RX2, TX2, tyX2, by decide +kernel, by decide +kernel, rfl, by decide, gX2, wm_167, tyX2_ok, nmX2, by decide +kernel, by decide +kernel⟩
theorem cq_X11_209 : CQ RX11 209 yX2_setPump cX2_setPump 3 none 2 := ⟨wm_1132, wm_112, wm_1135, by decide +kernel, by decide⟩
theorem cr_1_X2_setPump : CR 1 yX2_setPump := ⟨by decide +kernel, 2, 7, TX2, by decide +kernel, rfl, wm_1133, wm_1134⟩
theorem af_X9_75_1 : AF RX9 75 1 6 := ⟨2, 7, RX2, TX2, by decide +kernel, by decide +kernel, rfl, by decide, gX2, wm_168⟩
theorem cq_X11_213 : CQ RX11 213 yX9_nextPump cX9_nextPump 4 (some .int) 0 := ⟨wm_1140, wm_116, wm_1143, by decide +kernel, by decide⟩
theorem cr_5_X9_nextPump : CR 5 yX9_nextPump := ⟨by decide +kernel, 9, 8, TX9, by decide +kernel, rfl, wm_1141, wm_1142⟩
theorem af_X11_216_5 : AF RX11 216 5 4 := ⟨9, 8, RX9, TX9, by decide +kernel, by decide +kernel, rfl, by decide, gX9, wm_304⟩
theorem af_X7_39_7 : AF RX7 39 7 8 := ⟨7, 9, RX7, TX7, by decide +kernel, by decide +kernel, rfl, by decide, gX7, wm_391⟩
theorem ap_X7_39_7 : AFp RX7 39 7 8 .int := ⟨7, 9, RX7, TX7, tyX7, by decide +kernel, by decide +kernel, rfl, by decide, gX7, wm_391, tyX7_ok, nmX7, by decide +kernel, by decide +kernel⟩
theorem cq_X11_219 : CQ RX11 219 yX7_add cX7_add 6 (some .int) 5 := ⟨wm_1152, wm_118, wm_1155, by decide +kernel, by decide⟩
theorem cr_7_X7_add : CR 7 yX7_add := ⟨by decide +kernel, 7, 9, TX7, by decide +kernel, rfl, wm_1153, wm_1154⟩
theorem cq_X11_222 : CQ RX11 222 yX7_howManyLate cX7_howManyLate 3 (some .int) 0 := ⟨wm_1160, wm_118, wm_1163, by decide +kernel, by decide⟩
theorem cr_7_X7_howManyLate : CR 7 yX7_howManyLate := ⟨by decide +kernel, 7, 9, TX7, by decide +kernel, rfl, wm_1161, wm_1162⟩
theorem af_X0_32_6 : AF RX0 32 6 10 := ⟨0, 12, RX0, TX0, by decide +kernel, by decide +kernel, rfl, by decide, gX0, wm_349⟩
theorem sr_6_10 : srF 6 10 = 76 := by decide +kernel
theorem kc_74 : 74 < KC := by decide +kernel
theorem sk_74 : skF 74 = (0, 10) := by decide +kernel
theorem af_X0_29_6 : AF RX0 29 6 9 := ⟨0, 12, RX0, TX0, by decide +kernel, by decide +kernel, rfl, by decide, gX0, wm_348⟩
theorem sr_6_9 : srF 6 9 = 65 := by decide +kernel
theorem kc_63 : 63 < KC := by decide +kernel
theorem sk_63 : skF 63 = (2, 10) := by decide +kernel
theorem sb_63 : ∀ j, j < 10 → srF 63 j = 64 + j + 2 := by decide +kernel
theorem s2_64 : ∀ j, j < 10 → 64 + j < KC ∧ skF (64 + j) = (0, 10) := by decide +kernel
theorem af_X0_26_6 : AF RX0 26 6 8 := ⟨0, 12, RX0, TX0, by decide +kernel, by decide +kernel, rfl, by decide, gX0, wm_347⟩
theorem sr_6_8 : srF 6 8 = 54 := by decide +kernel
theorem kc_52 : 52 < KC := by decide +kernel
theorem sk_52 : skF 52 = (2, 10) := by decide +kernel
theorem sb_52 : ∀ j, j < 10 → srF 52 j = 53 + j + 2 := by decide +kernel
theorem s2_53 : ∀ j, j < 10 → 53 + j < KC ∧ skF (53 + j) = (0, 10) := by decide +kernel
theorem cq_X11_225 : CQ RX11 225 yX0_addLog cX0_addLog 5 (some .int) 3 := ⟨wm_1168, wm_117, wm_1171, by decide +kernel, by decide⟩
theorem cr_6_X0_addLog : CR 6 yX0_addLog := ⟨by decide +kernel, 0, 12, TX0, by decide +kernel, rfl, wm_1169, wm_1170⟩
theorem cq_X0_58 : CQ RX0 58 yX0_placeOf cX0_placeOf 3 (some .int) 2 := ⟨wm_1184, wm_117, wm_1187, by decide +kernel, by decide⟩
theorem cr_6_X0_placeOf : CR 6 yX0_placeOf := ⟨by decide +kernel, 0, 12, TX0, by decide +kernel, rfl, wm_1186, wm_37⟩
theorem cq_X0_62 : CQ RX0 62 yX0_timeOf cX0_timeOf 3 (some .int) 2 := ⟨wm_1188, wm_117, wm_1191, by decide +kernel, by decide⟩
theorem cr_6_X0_timeOf : CR 6 yX0_timeOf := ⟨by decide +kernel, 0, 12, TX0, by decide +kernel, rfl, wm_1190, wm_38⟩
theorem cq_X0_65 : CQ RX0 65 yX9_comesTo cX9_comesTo 8 (some .int) 5 := ⟨wm_1192, wm_116, wm_1017, by decide +kernel, by decide⟩
theorem cq_X0_54 : CQ RX0 54 yX0_canBetween cX0_canBetween 12 (some .boolean) 5 := ⟨wm_1180, wm_117, wm_1183, by decide +kernel, by decide⟩
theorem cr_6_X0_canBetween : CR 6 yX0_canBetween := ⟨by decide +kernel, 0, 12, TX0, by decide +kernel, rfl, wm_1182, wm_36⟩
theorem cq_X11_229 : CQ RX11 229 yX0_canHaveBeen cX0_canHaveBeen 6 (some .boolean) 4 := ⟨wm_1176, wm_117, wm_1179, by decide +kernel, by decide⟩
theorem cr_6_X0_canHaveBeen : CR 6 yX0_canHaveBeen := ⟨by decide +kernel, 0, 12, TX0, by decide +kernel, rfl, wm_1177, wm_1178⟩
theorem cw_J6_265 : Cond.constant RJ6 265 (Int32.ofInt 1431655765) ∈ lw_gd := wm_1200
theorem cw_J6_266 : Cond.constant RJ6 266 (Int32.ofInt 858993459) ∈ lw_gd := wm_1201
theorem cw_J6_267 : Cond.constant RJ6 267 (Int32.ofInt 252645135) ∈ lw_gd := wm_1202
theorem cq_X11_232 : CQ RX11 232 yJ6_bitCount_0f7a4 cJ6_bitCount_0f7a4 1 (some .int) 1 := ⟨wm_1197, wm_132, wm_1199, by decide +kernel, by decide⟩
theorem st_J6_bitCount_0f7a4 : Cond.static yJ6_bitCount_0f7a4 ∈ lw_gd := wm_1198
theorem af_X0_35_6 : AF RX0 35 6 11 := ⟨0, 12, RX0, TX0, by decide +kernel, by decide +kernel, rfl, by decide, gX0, wm_350⟩
theorem sr_6_11 : srF 6 11 = 77 := by decide +kernel
theorem kc_75 : 75 < KC := by decide +kernel
theorem sk_75 : skF 75 = (0, 16) := by decide +kernel
theorem cf_X0_76 : CQ RX0 76 ⟨"java/util/Arrays", "fill", "([II)V"⟩ cJ7_fill_53178 4 none 2 := ⟨wm_1211, wm_113, wm_149, by decide +kernel, by decide⟩
theorem cq_X0_82 : CQ RX0 82 yX0_lastLog cX0_lastLog 5 (some .int) 2 := ⟨wm_1212, wm_117, wm_1215, by decide +kernel, by decide⟩
theorem cr_6_X0_lastLog : CR 6 yX0_lastLog := ⟨by decide +kernel, 0, 12, TX0, by decide +kernel, rfl, wm_1214, wm_39⟩
theorem cq_X0_85 : CQ RX0 85 yX9_reach cX9_reach 5 none 3 := ⟨wm_1216, wm_116, wm_1060, by decide +kernel, by decide⟩
theorem cq_X0_89 : CQ RX0 89 yX9_reached cX9_reached 4 (some .int) 1 := ⟨wm_1217, wm_116, wm_1064, by decide +kernel, by decide⟩
theorem cq_X11_237 : CQ RX11 237 yX0_settleTonight cX0_settleTonight 6 none 1 := ⟨wm_1207, wm_117, wm_1210, by decide +kernel, by decide⟩
theorem cr_6_X0_settleTonight : CR 6 yX0_settleTonight := ⟨by decide +kernel, 0, 12, TX0, by decide +kernel, rfl, wm_1208, wm_1209⟩
theorem cq_X0_93 : CQ RX0 93 yJ6_bitCount_0f7a4 cJ6_bitCount_0f7a4 1 (some .int) 1 := ⟨wm_1222, wm_132, wm_1199, by decide +kernel, by decide⟩
theorem cq_X11_243 : CQ RX11 243 yX0_crowd cX0_crowd 3 (some .int) 0 := ⟨wm_1218, wm_117, wm_1221, by decide +kernel, by decide⟩
theorem cr_6_X0_crowd : CR 6 yX0_crowd := ⟨by decide +kernel, 0, 12, TX0, by decide +kernel, rfl, wm_1219, wm_1220⟩
theorem af_X11_240_6 : AF RX11 240 6 11 := ⟨0, 12, RX0, TX0, by decide +kernel, by decide +kernel, rfl, by decide, gX0, wm_351⟩
theorem af_X11_65_0 : AF RX11 65 0 7 := ⟨11, 12, RX11, TX11, by decide +kernel, by decide +kernel, rfl, by decide, gX11, wm_648⟩
theorem sr_0_7 : srF 0 7 = 10 := by decide +kernel
theorem gX3 : ∀ w ∈ u_ws RX3 TX3 7, w ∈ lw_gd := gd_all inX3 (by decide +kernel)
theorem af_X3_24_8 : AF RX3 24 8 2 := ⟨3, 7, RX3, TX3, by decide +kernel, by decide +kernel, rfl, by decide, gX3, wm_420⟩
theorem sr_8_2 : srF 8 2 = 0 := by decide +kernel
theorem af_X3_9_8 : AF RX3 9 8 0 := ⟨3, 7, RX3, TX3, by decide +kernel, by decide +kernel, rfl, by decide, gX3, wm_418⟩
theorem sr_8_0 : srF 8 0 = 83 := by decide +kernel
theorem kc_81 : 81 < KC := by decide +kernel
theorem sk_81 : skF 81 = (0, 7) := by decide +kernel
theorem af_X3_15_8 : AF RX3 15 8 1 := ⟨3, 7, RX3, TX3, by decide +kernel, by decide +kernel, rfl, by decide, gX3, wm_419⟩
theorem sr_8_1 : srF 8 1 = 84 := by decide +kernel
theorem kc_82 : 82 < KC := by decide +kernel
theorem sk_82 : skF 82 = (0, 7) := by decide +kernel
theorem ap_X3_24_8 : AFp RX3 24 8 2 .int := ⟨3, 7, RX3, TX3, tyX3, by decide +kernel, by decide +kernel, rfl, by decide, gX3, wm_420, tyX3_ok, nmX3, by decide +kernel, by decide +kernel⟩
theorem af_X3_21_8 : AF RX3 21 8 6 := ⟨3, 7, RX3, TX3, by decide +kernel, by decide +kernel, rfl, by decide, gX3, wm_427⟩
theorem sr_8_6 : srF 8 6 = 86 := by decide +kernel
theorem kc_84 : 84 < KC := by decide +kernel
theorem sk_84 : skF 84 = (0, 7) := by decide +kernel
theorem cm_X3_45 : Cond.methodLink RX3 45 Lib.Math.max.name ∈ lw_gd := wm_1243
theorem cq_X3_51 : CQ RX3 51 yX3_minutesOf cX3_minutesOf 3 (some .int) 2 := ⟨wm_1244, wm_119, wm_1247, by decide +kernel, by decide⟩
theorem cr_8_X3_minutesOf : CR 8 yX3_minutesOf := ⟨by decide +kernel, 3, 7, TX3, by decide +kernel, rfl, wm_1246, wm_42⟩
theorem cq_X3_37 : CQ RX3 37 yX3_waitOf cX3_waitOf 6 (some .int) 1 := ⟨wm_1239, wm_119, wm_1242, by decide +kernel, by decide⟩
theorem cr_8_X3_waitOf : CR 8 yX3_waitOf := ⟨by decide +kernel, 3, 7, TX3, by decide +kernel, rfl, wm_1241, wm_41⟩
theorem ap_X3_28_8 : AFp RX3 28 8 3 .int := ⟨3, 7, RX3, TX3, tyX3, by decide +kernel, by decide +kernel, rfl, by decide, gX3, wm_422, tyX3_ok, nmX3, by decide +kernel, by decide +kernel⟩
theorem sr_8_3 : srF 8 3 = 0 := by decide +kernel
theorem af_X3_28_8 : AF RX3 28 8 3 := ⟨3, 7, RX3, TX3, by decide +kernel, by decide +kernel, rfl, by decide, gX3, wm_422⟩
theorem ap_X3_31_8 : AFp RX3 31 8 4 .int := ⟨3, 7, RX3, TX3, tyX3, by decide +kernel, by decide +kernel, rfl, by decide, gX3, wm_424, tyX3_ok, nmX3, by decide +kernel, by decide +kernel⟩
theorem sr_8_4 : srF 8 4 = 0 := by decide +kernel
theorem af_X3_18_8 : AF RX3 18 8 5 := ⟨3, 7, RX3, TX3, by decide +kernel, by decide +kernel, rfl, by decide, gX3, wm_426⟩
theorem sr_8_5 : srF 8 5 = 85 := by decide +kernel
theorem kc_83 : 83 < KC := by decide +kernel
theorem sk_83 : skF 83 = (0, 7) := by decide +kernel
theorem cc_X3_55 : Cond.methodLink RX3 55 arraycopyName ∈ lw_gd := wm_1251
theorem af_X3_31_8 : AF RX3 31 8 4 := ⟨3, 7, RX3, TX3, by decide +kernel, by decide +kernel, rfl, by decide, gX3, wm_424⟩
theorem cq_X3_41 : CQ RX3 41 yX3_putNext cX3_putNext 8 none 5 := ⟨wm_1248, wm_119, wm_1250, by decide +kernel, by decide⟩
theorem st_X3_putNext : Cond.static yX3_putNext ∈ lw_gd := wm_1249
theorem cq_X3_34 : CQ RX3 34 yX3_findBest cX3_findBest 2 none 0 := ⟨wm_1235, wm_119, wm_1238, by decide +kernel, by decide⟩
theorem cr_8_X3_findBest : CR 8 yX3_findBest := ⟨by decide +kernel, 3, 7, TX3, by decide +kernel, rfl, wm_1237, wm_40⟩
theorem cq_X11_249 : CQ RX11 249 yX3_add cX3_add 3 (some .int) 2 := ⟨wm_1231, wm_119, wm_1234, by decide +kernel, by decide⟩
theorem cr_8_X3_add : CR 8 yX3_add := ⟨by decide +kernel, 3, 7, TX3, by decide +kernel, rfl, wm_1232, wm_1233⟩
theorem cq_X11_246 : CQ RX11 246 yX3_clear cX3_clear 1 none 0 := ⟨wm_1227, wm_119, wm_1230, by decide +kernel, by decide⟩
theorem cr_8_X3_clear : CR 8 yX3_clear := ⟨by decide +kernel, 3, 7, TX3, by decide +kernel, rfl, wm_1228, wm_1229⟩
theorem af_X11_252_8 : AF RX11 252 8 3 := ⟨3, 7, RX3, TX3, by decide +kernel, by decide +kernel, rfl, by decide, gX3, wm_423⟩
theorem af_X11_255_8 : AF RX11 255 8 4 := ⟨3, 7, RX3, TX3, by decide +kernel, by decide +kernel, rfl, by decide, gX3, wm_425⟩
theorem cq_X11_258 : CQ RX11 258 yX3_lockfulsAsCome cX3_lockfulsAsCome 3 (some .int) 0 := ⟨wm_1256, wm_119, wm_1259, by decide +kernel, by decide⟩
theorem cr_8_X3_lockfulsAsCome : CR 8 yX3_lockfulsAsCome := ⟨by decide +kernel, 3, 7, TX3, by decide +kernel, rfl, wm_1257, wm_1258⟩
theorem cq_X11_261 : CQ RX11 261 yX3_lockfulsAtBest cX3_lockfulsAtBest 3 (some .int) 0 := ⟨wm_1260, wm_119, wm_1263, by decide +kernel, by decide⟩
theorem cr_8_X3_lockfulsAtBest : CR 8 yX3_lockfulsAtBest := ⟨by decide +kernel, 3, 7, TX3, by decide +kernel, rfl, wm_1261, wm_1262⟩
theorem ns_X3_61 : (RX3, 61) ∈ nestL := by decide +kernel
theorem cq_X11_264 : CQ RX11 264 yX3_atBest cX3_atBest 2 (some .int) 1 := ⟨wm_1264, wm_119, wm_1267, by decide +kernel, by decide⟩
theorem cr_8_X3_atBest : CR 8 yX3_atBest := ⟨by decide +kernel, 3, 7, TX3, by decide +kernel, rfl, wm_1265, wm_1266⟩
theorem cq_X11_267 : CQ RX11 267 yX11_isWeek cX11_isWeek 1 (some .boolean) 1 := ⟨wm_1273, wm_111, wm_1275, by decide +kernel, by decide⟩
theorem st_X11_isWeek : Cond.static yX11_isWeek ∈ lw_gd := wm_1274
theorem af_X11_72_0 : AF RX11 72 0 8 := ⟨11, 12, RX11, TX11, by decide +kernel, by decide +kernel, rfl, by decide, gX11, wm_649⟩
theorem sr_0_8 : srF 0 8 = 11 := by decide +kernel
theorem gX1 : ∀ w ∈ u_ws RX1 TX1 17, w ∈ lw_gd := gd_all inX1 (by decide +kernel)
theorem af_X1_48_9 : AF RX1 48 9 4 := ⟨1, 17, RX1, TX1, by decide +kernel, by decide +kernel, rfl, by decide, gX1, wm_453⟩
theorem sr_9_4 : srF 9 4 = 0 := by decide +kernel
theorem af_X1_9_9 : AF RX1 9 9 0 := ⟨1, 17, RX1, TX1, by decide +kernel, by decide +kernel, rfl, by decide, gX1, wm_449⟩
theorem sr_9_0 : srF 9 0 = 87 := by decide +kernel
theorem kc_85 : 85 < KC := by decide +kernel
theorem sk_85 : skF 85 = (0, 8) := by decide +kernel
theorem af_X1_15_9 : AF RX1 15 9 1 := ⟨1, 17, RX1, TX1, by decide +kernel, by decide +kernel, rfl, by decide, gX1, wm_450⟩
theorem sr_9_1 : srF 9 1 = 88 := by decide +kernel
theorem kc_86 : 86 < KC := by decide +kernel
theorem sk_86 : skF 86 = (0, 8) := by decide +kernel
theorem af_X1_18_9 : AF RX1 18 9 2 := ⟨1, 17, RX1, TX1, by decide +kernel, by decide +kernel, rfl, by decide, gX1, wm_451⟩
theorem sr_9_2 : srF 9 2 = 89 := by decide +kernel
theorem kc_87 : 87 < KC := by decide +kernel
theorem sk_87 : skF 87 = (0, 8) := by decide +kernel
theorem af_X1_21_9 : AF RX1 21 9 3 := ⟨1, 17, RX1, TX1, by decide +kernel, by decide +kernel, rfl, by decide, gX1, wm_452⟩
theorem sr_9_3 : srF 9 3 = 90 := by decide +kernel
theorem kc_88 : 88 < KC := by decide +kernel
theorem sk_88 : skF 88 = (0, 8) := by decide +kernel
theorem ap_X1_48_9 : AFp RX1 48 9 4 .int := ⟨1, 17, RX1, TX1, tyX1, by decide +kernel, by decide +kernel, rfl, by decide, gX1, wm_453, tyX1_ok, nmX1, by decide +kernel, by decide +kernel⟩
theorem ap_X1_52_9 : AFp RX1 52 9 11 .int := ⟨1, 17, RX1, TX1, tyX1, by decide +kernel, by decide +kernel, rfl, by decide, gX1, wm_461, tyX1_ok, nmX1, by decide +kernel, by decide +kernel⟩
theorem sr_9_11 : srF 9 11 = 0 := by decide +kernel
theorem af_X1_24_9 : AF RX1 24 9 5 := ⟨1, 17, RX1, TX1, by decide +kernel, by decide +kernel, rfl, by decide, gX1, wm_455⟩
theorem sr_9_5 : srF 9 5 = 91 := by decide +kernel
theorem kc_89 : 89 < KC := by decide +kernel
theorem sk_89 : skF 89 = (0, 8) := by decide +kernel
theorem cq_X1_55 : CQ RX1 55 yX1_putInOrder cX1_putInOrder 4 none 0 := ⟨wm_1280, wm_120, wm_1283, by decide +kernel, by decide⟩
theorem cr_9_X1_putInOrder : CR 9 yX1_putInOrder := ⟨by decide +kernel, 1, 17, TX1, by decide +kernel, rfl, wm_1282, wm_43⟩
theorem cq_X11_270 : CQ RX11 270 yX1_add cX1_add 5 (some .int) 4 := ⟨wm_1276, wm_120, wm_1279, by decide +kernel, by decide⟩
theorem cr_9_X1_add : CR 9 yX1_add := ⟨by decide +kernel, 1, 17, TX1, by decide +kernel, rfl, wm_1277, wm_1278⟩
theorem af_X11_287_6 : AF RX11 287 6 3 := ⟨0, 12, RX0, TX0, by decide +kernel, by decide +kernel, rfl, by decide, gX0, wm_338⟩
theorem af_X11_290_6 : AF RX11 290 6 5 := ⟨0, 12, RX0, TX0, by decide +kernel, by decide +kernel, rfl, by decide, gX0, wm_341⟩
theorem af_X1_27_9 : AF RX1 27 9 6 := ⟨1, 17, RX1, TX1, by decide +kernel, by decide +kernel, rfl, by decide, gX1, wm_456⟩
theorem sr_9_6 : srF 9 6 = 92 := by decide +kernel
theorem kc_90 : 90 < KC := by decide +kernel
theorem sk_90 : skF 90 = (0, 4) := by decide +kernel
theorem af_X1_30_9 : AF RX1 30 9 7 := ⟨1, 17, RX1, TX1, by decide +kernel, by decide +kernel, rfl, by decide, gX1, wm_457⟩
theorem sr_9_7 : srF 9 7 = 93 := by decide +kernel
theorem kc_91 : 91 < KC := by decide +kernel
theorem sk_91 : skF 91 = (0, 4) := by decide +kernel
theorem cq_X11_293 : CQ RX11 293 yX1_hire cX1_hire 4 none 3 := ⟨wm_1292, wm_120, wm_1295, by decide +kernel, by decide⟩
theorem cr_9_X1_hire : CR 9 yX1_hire := ⟨by decide +kernel, 1, 17, TX1, by decide +kernel, rfl, wm_1293, wm_1294⟩
theorem cq_X11_271 : CQ RX11 271 yX11_hireFirst cX11_hireFirst 3 none 1 := ⟨wm_1288, wm_111, wm_1291, by decide +kernel, by decide⟩
theorem cr_0_X11_hireFirst : CR 0 yX11_hireFirst := ⟨by decide +kernel, 11, 12, TX11, by decide +kernel, rfl, wm_1290, wm_44⟩
theorem af_X1_52_9 : AF RX1 52 9 11 := ⟨1, 17, RX1, TX1, by decide +kernel, by decide +kernel, rfl, by decide, gX1, wm_461⟩
theorem cm_X1_58 : Cond.methodLink RX1 58 Lib.Math.min.name ∈ lw_gd := wm_1300
theorem ap_X1_64_9 : AFp RX1 64 9 10 .int := ⟨1, 17, RX1, TX1, tyX1, by decide +kernel, by decide +kernel, rfl, by decide, gX1, wm_460, tyX1_ok, nmX1, by decide +kernel, by decide +kernel⟩
theorem sr_9_10 : srF 9 10 = 0 := by decide +kernel
theorem ap_X1_67_9 : AFp RX1 67 9 15 .int := ⟨1, 17, RX1, TX1, tyX1, by decide +kernel, by decide +kernel, rfl, by decide, gX1, wm_466, tyX1_ok, nmX1, by decide +kernel, by decide +kernel⟩
theorem sr_9_15 : srF 9 15 = 0 := by decide +kernel
theorem ap_X1_70_9 : AFp RX1 70 9 16 .int := ⟨1, 17, RX1, TX1, tyX1, by decide +kernel, by decide +kernel, rfl, by decide, gX1, wm_468, tyX1_ok, nmX1, by decide +kernel, by decide +kernel⟩
theorem sr_9_16 : srF 9 16 = 0 := by decide +kernel
theorem af_X1_64_9 : AF RX1 64 9 10 := ⟨1, 17, RX1, TX1, by decide +kernel, by decide +kernel, rfl, by decide, gX1, wm_460⟩
theorem af_X1_33_9 : AF RX1 33 9 8 := ⟨1, 17, RX1, TX1, by decide +kernel, by decide +kernel, rfl, by decide, gX1, wm_458⟩
theorem sr_9_8 : srF 9 8 = 94 := by decide +kernel
theorem kc_92 : 92 < KC := by decide +kernel
theorem sk_92 : skF 92 = (0, 4) := by decide +kernel
theorem af_X1_36_9 : AF RX1 36 9 9 := ⟨1, 17, RX1, TX1, by decide +kernel, by decide +kernel, rfl, by decide, gX1, wm_459⟩
theorem sr_9_9 : srF 9 9 = 95 := by decide +kernel
theorem kc_93 : 93 < KC := by decide +kernel
theorem sk_93 : skF 93 = (0, 4) := by decide +kernel
theorem af_X1_39_9 : AF RX1 39 9 12 := ⟨1, 17, RX1, TX1, by decide +kernel, by decide +kernel, rfl, by decide, gX1, wm_462⟩
theorem sr_9_12 : srF 9 12 = 96 := by decide +kernel
theorem kc_94 : 94 < KC := by decide +kernel
theorem sk_94 : skF 94 = (0, 9) := by decide +kernel
theorem cq_X1_81 : CQ RX1 81 yX1_canCome cX1_canCome 4 (some .boolean) 2 := ⟨wm_1305, wm_120, wm_1308, by decide +kernel, by decide⟩
theorem cr_9_X1_canCome : CR 9 yX1_canCome := ⟨by decide +kernel, 1, 17, TX1, by decide +kernel, rfl, wm_1307, wm_46⟩
theorem cq_X1_73 : CQ RX1 73 yX1_canEverBeGiven cX1_canEverBeGiven 3 (some .boolean) 1 := ⟨wm_1301, wm_120, wm_1304, by decide +kernel, by decide⟩
theorem cr_9_X1_canEverBeGiven : CR 9 yX1_canEverBeGiven := ⟨by decide +kernel, 1, 17, TX1, by decide +kernel, rfl, wm_1303, wm_45⟩
theorem af_X1_67_9 : AF RX1 67 9 15 := ⟨1, 17, RX1, TX1, by decide +kernel, by decide +kernel, rfl, by decide, gX1, wm_466⟩
theorem af_X1_70_9 : AF RX1 70 9 16 := ⟨1, 17, RX1, TX1, by decide +kernel, by decide +kernel, rfl, by decide, gX1, wm_468⟩
theorem af_X1_42_9 : AF RX1 42 9 13 := ⟨1, 17, RX1, TX1, by decide +kernel, by decide +kernel, rfl, by decide, gX1, wm_463⟩
theorem sr_9_13 : srF 9 13 = 97 := by decide +kernel
theorem af_X1_45_9 : AF RX1 45 9 14 := ⟨1, 17, RX1, TX1, by decide +kernel, by decide +kernel, rfl, by decide, gX1, wm_464⟩
theorem sr_9_14 : srF 9 14 = 98 := by decide +kernel
theorem kc_95 : 95 < KC := by decide +kernel
theorem sk_95 : skF 95 = (0, 8) := by decide +kernel
theorem kc_96 : 96 < KC := by decide +kernel
theorem sk_96 : skF 96 = (0, 8) := by decide +kernel
theorem cc_X1_92 : Cond.methodLink RX1 92 arraycopyName ∈ lw_gd := wm_1316
theorem cq_X1_85 : CQ RX1 85 yX1_compare cX1_compare 4 none 1 := ⟨wm_1312, wm_120, wm_1315, by decide +kernel, by decide⟩
theorem cr_9_X1_compare : CR 9 yX1_compare := ⟨by decide +kernel, 1, 17, TX1, by decide +kernel, rfl, wm_1314, wm_47⟩
theorem cq_X1_89 : CQ RX1 89 yX1_canHave cX1_canHave 3 (some .boolean) 2 := ⟨wm_1317, wm_120, wm_1320, by decide +kernel, by decide⟩
theorem cr_9_X1_canHave : CR 9 yX1_canHave := ⟨by decide +kernel, 1, 17, TX1, by decide +kernel, rfl, wm_1319, wm_48⟩
theorem cq_X1_77 : CQ RX1 77 yX1_giveNext cX1_giveNext 8 none 3 := ⟨wm_1309, wm_120, wm_1311, by decide +kernel, by decide⟩
theorem st_X1_giveNext : Cond.static yX1_giveNext ∈ lw_gd := wm_1310
theorem cq_X11_274 : CQ RX11 274 yX1_giveBest cX1_giveBest 3 none 1 := ⟨wm_1296, wm_120, wm_1299, by decide +kernel, by decide⟩
theorem cr_9_X1_giveBest : CR 9 yX1_giveBest := ⟨by decide +kernel, 1, 17, TX1, by decide +kernel, rfl, wm_1297, wm_1298⟩
theorem af_X11_283_9 : AF RX11 283 9 4 := ⟨1, 17, RX1, TX1, by decide +kernel, by decide +kernel, rfl, by decide, gX1, wm_454⟩
theorem af_X11_284_9 : AF RX11 284 9 14 := ⟨1, 17, RX1, TX1, by decide +kernel, by decide +kernel, rfl, by decide, gX1, wm_465⟩
theorem af_X11_280_9 : AF RX11 280 9 16 := ⟨1, 17, RX1, TX1, by decide +kernel, by decide +kernel, rfl, by decide, gX1, wm_469⟩
theorem af_X11_277_9 : AF RX11 277 9 15 := ⟨1, 17, RX1, TX1, by decide +kernel, by decide +kernel, rfl, by decide, gX1, wm_467⟩
theorem af_X11_79_0 : AF RX11 79 0 9 := ⟨11, 12, RX11, TX11, by decide +kernel, by decide +kernel, rfl, by decide, gX11, wm_650⟩
theorem sr_0_9 : srF 0 9 = 12 := by decide +kernel
theorem gX10 : ∀ w ∈ u_ws RX10 TX10 15, w ∈ lw_gd := gd_all inX10 (by decide +kernel)
theorem af_X10_15_10 : AF RX10 15 10 1 := ⟨10, 15, RX10, TX10, by decide +kernel, by decide +kernel, rfl, by decide, gX10, wm_512⟩
theorem sr_10_1 : srF 10 1 = 100 := by decide +kernel
theorem kc_98 : 98 < KC := by decide +kernel
theorem sk_98 : skF 98 = (0, 10) := by decide +kernel
theorem cq_X10_42 : CQ RX10 42 yX10_othersInDock cX10_othersInDock 4 (some .int) 1 := ⟨wm_1333, wm_121, wm_1336, by decide +kernel, by decide⟩
theorem cr_10_X10_othersInDock : CR 10 yX10_othersInDock := ⟨by decide +kernel, 10, 15, TX10, by decide +kernel, rfl, wm_1335, wm_49⟩
theorem af_X10_9_10 : AF RX10 9 10 0 := ⟨10, 15, RX10, TX10, by decide +kernel, by decide +kernel, rfl, by decide, gX10, wm_511⟩
theorem sr_10_0 : srF 10 0 = 99 := by decide +kernel
theorem kc_97 : 97 < KC := by decide +kernel
theorem sk_97 : skF 97 = (0, 10) := by decide +kernel
theorem cq_X11_296 : CQ RX11 296 yX10_tellDock cX10_tellDock 4 (some .boolean) 3 := ⟨wm_1329, wm_121, wm_1332, by decide +kernel, by decide⟩
theorem cr_10_X10_tellDock : CR 10 yX10_tellDock := ⟨by decide +kernel, 10, 15, TX10, by decide +kernel, rfl, wm_1330, wm_1331⟩
theorem ap_X10_46_10 : AFp RX10 46 10 2 .int := ⟨10, 15, RX10, TX10, tyX10, by decide +kernel, by decide +kernel, rfl, by decide, gX10, wm_513, tyX10_ok, nmX10, by decide +kernel, by decide +kernel⟩
theorem sr_10_2 : srF 10 2 = 0 := by decide +kernel
theorem af_X10_46_10 : AF RX10 46 10 2 := ⟨10, 15, RX10, TX10, by decide +kernel, by decide +kernel, rfl, by decide, gX10, wm_513⟩
theorem af_X10_18_10 : AF RX10 18 10 3 := ⟨10, 15, RX10, TX10, by decide +kernel, by decide +kernel, rfl, by decide, gX10, wm_515⟩
theorem sr_10_3 : srF 10 3 = 101 := by decide +kernel
theorem kc_99 : 99 < KC := by decide +kernel
theorem sk_99 : skF 99 = (0, 7) := by decide +kernel
theorem af_X10_21_10 : AF RX10 21 10 4 := ⟨10, 15, RX10, TX10, by decide +kernel, by decide +kernel, rfl, by decide, gX10, wm_516⟩
theorem sr_10_4 : srF 10 4 = 102 := by decide +kernel
theorem kc_100 : 100 < KC := by decide +kernel
theorem sk_100 : skF 100 = (0, 128) := by decide +kernel
theorem af_X10_24_10 : AF RX10 24 10 5 := ⟨10, 15, RX10, TX10, by decide +kernel, by decide +kernel, rfl, by decide, gX10, wm_518⟩
theorem sr_10_5 : srF 10 5 = 103 := by decide +kernel
theorem kc_101 : 101 < KC := by decide +kernel
theorem sk_101 : skF 101 = (0, 128) := by decide +kernel
theorem af_X10_27_10 : AF RX10 27 10 6 := ⟨10, 15, RX10, TX10, by decide +kernel, by decide +kernel, rfl, by decide, gX10, wm_520⟩
theorem sr_10_6 : srF 10 6 = 104 := by decide +kernel
theorem kc_102 : 102 < KC := by decide +kernel
theorem sk_102 : skF 102 = (0, 128) := by decide +kernel
theorem cq_X10_54 : CQ RX10 54 yX10_isBetter cX10_isBetter 4 (some .boolean) 3 := ⟨wm_1349, wm_121, wm_1352, by decide +kernel, by decide⟩
theorem cr_10_X10_isBetter : CR 10 yX10_isBetter := ⟨by decide +kernel, 10, 15, TX10, by decide +kernel, rfl, wm_1351, wm_51⟩
theorem cq_X10_50 : CQ RX10 50 yX10_chooseNext cX10_chooseNext 7 none 1 := ⟨wm_1345, wm_121, wm_1348, by decide +kernel, by decide⟩
theorem cr_10_X10_chooseNext : CR 10 yX10_chooseNext := ⟨by decide +kernel, 10, 15, TX10, by decide +kernel, rfl, wm_1347, wm_50⟩
theorem cq_X11_299 : CQ RX11 299 yX10_orderDock cX10_orderDock 3 none 0 := ⟨wm_1341, wm_121, wm_1344, by decide +kernel, by decide⟩
theorem cr_10_X10_orderDock : CR 10 yX10_orderDock := ⟨by decide +kernel, 10, 15, TX10, by decide +kernel, rfl, wm_1342, wm_1343⟩
theorem af_X11_302_10 : AF RX11 302 10 4 := ⟨10, 15, RX10, TX10, by decide +kernel, by decide +kernel, rfl, by decide, gX10, wm_517⟩
theorem af_X11_305_10 : AF RX11 305 10 5 := ⟨10, 15, RX10, TX10, by decide +kernel, by decide +kernel, rfl, by decide, gX10, wm_519⟩
theorem af_X11_308_10 : AF RX11 308 10 2 := ⟨10, 15, RX10, TX10, by decide +kernel, by decide +kernel, rfl, by decide, gX10, wm_514⟩
theorem ns_X10_58 : (RX10, 58) ∈ nestL := by decide +kernel
theorem cq_X11_311 : CQ RX11 311 yX10_dockedAt cX10_dockedAt 4 (some .int) 1 := ⟨wm_1353, wm_121, wm_1356, by decide +kernel, by decide⟩
theorem cr_10_X10_dockedAt : CR 10 yX10_dockedAt := ⟨by decide +kernel, 10, 15, TX10, by decide +kernel, rfl, wm_1354, wm_1355⟩
theorem af_X10_61_10 : AF RX10 61 10 7 := ⟨10, 15, RX10, TX10, by decide +kernel, by decide +kernel, rfl, by decide, gX10, wm_521⟩
theorem sr_10_7 : srF 10 7 = 0 := by decide +kernel
theorem af_X10_30_10 : AF RX10 30 10 8 := ⟨10, 15, RX10, TX10, by decide +kernel, by decide +kernel, rfl, by decide, gX10, wm_523⟩
theorem sr_10_8 : srF 10 8 = 105 := by decide +kernel
theorem kc_103 : 103 < KC := by decide +kernel
theorem sk_103 : skF 103 = (0, 8) := by decide +kernel
theorem ap_X10_61_10 : AFp RX10 61 10 7 .int := ⟨10, 15, RX10, TX10, tyX10, by decide +kernel, by decide +kernel, rfl, by decide, gX10, wm_521, tyX10_ok, nmX10, by decide +kernel, by decide +kernel⟩
theorem cq_X11_317 : CQ RX11 317 yX10_addJob cX10_addJob 2 (some .int) 1 := ⟨wm_1362, wm_121, wm_1365, by decide +kernel, by decide⟩
theorem cr_10_X10_addJob : CR 10 yX10_addJob := ⟨by decide +kernel, 10, 15, TX10, by decide +kernel, rfl, wm_1363, wm_1364⟩
theorem ap_X11_314_10 : AFp RX11 314 10 7 .int := ⟨10, 15, RX10, TX10, tyX10, by decide +kernel, by decide +kernel, rfl, by decide, gX10, wm_522, tyX10_ok, nmX10, by decide +kernel, by decide +kernel⟩
theorem af_X11_314_10 : AF RX11 314 10 7 := ⟨10, 15, RX10, TX10, by decide +kernel, by decide +kernel, rfl, by decide, gX10, wm_522⟩
theorem af_X10_33_10 : AF RX10 33 10 9 := ⟨10, 15, RX10, TX10, by decide +kernel, by decide +kernel, rfl, by decide, gX10, wm_524⟩
theorem sr_10_9 : srF 10 9 = 106 := by decide +kernel
theorem kc_104 : 104 < KC := by decide +kernel
theorem sk_104 : skF 104 = (0, 3) := by decide +kernel
theorem cf_X10_64 : CQ RX10 64 ⟨"java/util/Arrays", "fill", "([II)V"⟩ cJ7_fill_53178 4 none 2 := ⟨wm_1374, wm_113, wm_149, by decide +kernel, by decide⟩
theorem ap_X10_70_10 : AFp RX10 70 10 13 .int := ⟨10, 15, RX10, TX10, tyX10, by decide +kernel, by decide +kernel, rfl, by decide, gX10, wm_530, tyX10_ok, nmX10, by decide +kernel, by decide +kernel⟩
theorem sr_10_13 : srF 10 13 = 0 := by decide +kernel
theorem ap_X10_73_10 : AFp RX10 73 10 14 .int := ⟨10, 15, RX10, TX10, tyX10, by decide +kernel, by decide +kernel, rfl, by decide, gX10, wm_532, tyX10_ok, nmX10, by decide +kernel, by decide +kernel⟩
theorem sr_10_14 : srF 10 14 = 0 := by decide +kernel
theorem af_X10_70_10 : AF RX10 70 10 13 := ⟨10, 15, RX10, TX10, by decide +kernel, by decide +kernel, rfl, by decide, gX10, wm_530⟩
theorem cm_X10_76 : Cond.methodLink RX10 76 Lib.Math.max.name ∈ lw_gd := wm_1375
theorem af_X10_73_10 : AF RX10 73 10 14 := ⟨10, 15, RX10, TX10, by decide +kernel, by decide +kernel, rfl, by decide, gX10, wm_532⟩
theorem cq_X11_320 : CQ RX11 320 yX10_workInOrder cX10_workInOrder 5 none 1 := ⟨wm_1370, wm_121, wm_1373, by decide +kernel, by decide⟩
theorem cr_10_X10_workInOrder : CR 10 yX10_workInOrder := ⟨by decide +kernel, 10, 15, TX10, by decide +kernel, rfl, wm_1371, wm_1372⟩
theorem af_X11_326_10 : AF RX11 326 10 14 := ⟨10, 15, RX10, TX10, by decide +kernel, by decide +kernel, rfl, by decide, gX10, wm_533⟩
theorem af_X11_323_10 : AF RX11 323 10 13 := ⟨10, 15, RX10, TX10, by decide +kernel, by decide +kernel, rfl, by decide, gX10, wm_531⟩
theorem ap_X10_82_10 : AFp RX10 82 10 12 .int := ⟨10, 15, RX10, TX10, tyX10, by decide +kernel, by decide +kernel, rfl, by decide, gX10, wm_528, tyX10_ok, nmX10, by decide +kernel, by decide +kernel⟩
theorem sr_10_12 : srF 10 12 = 0 := by decide +kernel
theorem af_X10_82_10 : AF RX10 82 10 12 := ⟨10, 15, RX10, TX10, by decide +kernel, by decide +kernel, rfl, by decide, gX10, wm_528⟩
theorem af_X10_36_10 : AF RX10 36 10 10 := ⟨10, 15, RX10, TX10, by decide +kernel, by decide +kernel, rfl, by decide, gX10, wm_525⟩
theorem sr_10_10 : srF 10 10 = 107 := by decide +kernel
theorem af_X10_39_10 : AF RX10 39 10 11 := ⟨10, 15, RX10, TX10, by decide +kernel, by decide +kernel, rfl, by decide, gX10, wm_526⟩
theorem sr_10_11 : srF 10 11 = 108 := by decide +kernel
theorem kc_105 : 105 < KC := by decide +kernel
theorem sk_105 : skF 105 = (0, 8) := by decide +kernel
theorem kc_106 : 106 < KC := by decide +kernel
theorem sk_106 : skF 106 = (0, 8) := by decide +kernel
theorem cc_X10_89 : Cond.methodLink RX10 89 arraycopyName ∈ lw_gd := wm_1383
theorem cq_X10_85 : CQ RX10 85 yX10_shareNext cX10_shareNext 5 none 4 := ⟨wm_1380, wm_121, wm_1382, by decide +kernel, by decide⟩
theorem st_X10_shareNext : Cond.static yX10_shareNext ∈ lw_gd := wm_1381
theorem cq_X11_329 : CQ RX11 329 yX10_shareBest cX10_shareBest 2 none 1 := ⟨wm_1376, wm_121, wm_1379, by decide +kernel, by decide⟩
theorem cr_10_X10_shareBest : CR 10 yX10_shareBest := ⟨by decide +kernel, 10, 15, TX10, by decide +kernel, rfl, wm_1377, wm_1378⟩
theorem af_X11_335_10 : AF RX11 335 10 11 := ⟨10, 15, RX10, TX10, by decide +kernel, by decide +kernel, rfl, by decide, gX10, wm_527⟩
theorem af_X11_332_10 : AF RX11 332 10 12 := ⟨10, 15, RX10, TX10, by decide +kernel, by decide +kernel, rfl, by decide, gX10, wm_529⟩
theorem af_X11_88_0 : AF RX11 88 0 10 := ⟨11, 12, RX11, TX11, by decide +kernel, by decide +kernel, rfl, by decide, gX11, wm_651⟩
theorem sr_0_10 : srF 0 10 = 13 := by decide +kernel
theorem gX8 : ∀ w ∈ u_ws RX8 TX8 15, w ∈ lw_gd := gd_all inX8 (by decide +kernel)
theorem af_X11_338_11 : AF RX11 338 11 1 := ⟨8, 15, RX8, TX8, by decide +kernel, by decide +kernel, rfl, by decide, gX8, wm_573⟩
theorem sr_11_1 : srF 11 1 = 109 := by decide +kernel
theorem kc_107 : 107 < KC := by decide +kernel
theorem sk_107 : skF 107 = (0, 16) := by decide +kernel
theorem af_X8_15_11 : AF RX8 15 11 2 := ⟨8, 15, RX8, TX8, by decide +kernel, by decide +kernel, rfl, by decide, gX8, wm_574⟩
theorem sr_11_2 : srF 11 2 = 110 := by decide +kernel
theorem kc_108 : 108 < KC := by decide +kernel
theorem sk_108 : skF 108 = (0, 16) := by decide +kernel
theorem af_X8_36_11 : AF RX8 36 11 0 := ⟨8, 15, RX8, TX8, by decide +kernel, by decide +kernel, rfl, by decide, gX8, wm_571⟩
theorem sr_11_0 : srF 11 0 = 3 := by decide +kernel
theorem af_X8_40_1 : AF RX8 40 1 2 := ⟨2, 7, RX2, TX2, by decide +kernel, by decide +kernel, rfl, by decide, gX2, wm_157⟩
theorem cq_X11_341 : CQ RX11 341 yX8_measure cX8_measure 2 none 0 := ⟨wm_1392, wm_122, wm_1395, by decide +kernel, by decide⟩
theorem cr_11_X8_measure : CR 11 yX8_measure := ⟨by decide +kernel, 8, 15, TX8, by decide +kernel, rfl, wm_1393, wm_1394⟩
theorem af_X8_9_11 : AF RX8 9 11 1 := ⟨8, 15, RX8, TX8, by decide +kernel, by decide +kernel, rfl, by decide, gX8, wm_572⟩
theorem cm_X8_45 : Cond.methodLink RX8 45 Lib.Math.abs.name ∈ lw_gd := wm_1408
theorem cq_X8_51 : CQ RX8 51 yX8_minutes cX8_minutes 3 (some .int) 2 := ⟨wm_1404, wm_122, wm_1407, by decide +kernel, by decide⟩
theorem cr_11_X8_minutes : CR 11 yX8_minutes := ⟨by decide +kernel, 8, 15, TX8, by decide +kernel, rfl, wm_1406, wm_52⟩
theorem cm_X8_61 : Cond.methodLink RX8 61 Lib.Math.max.name ∈ lw_gd := wm_1415
theorem cq_X11_350 : CQ RX11 350 yX8_worstFrom cX8_worstFrom 4 (some .int) 1 := ⟨wm_1411, wm_122, wm_1414, by decide +kernel, by decide⟩
theorem cr_11_X8_worstFrom : CR 11 yX8_worstFrom := ⟨by decide +kernel, 8, 15, TX8, by decide +kernel, rfl, wm_1412, wm_1413⟩
theorem cm_X8_55 : Cond.methodLink RX8 55 Lib.Math.min.name ∈ lw_gd := wm_1409
theorem cq_X11_347 : CQ RX11 347 yX8_sumFrom cX8_sumFrom 5 (some .int) 2 := ⟨wm_1410, wm_122, wm_1403, by decide +kernel, by decide⟩
theorem cr_11_X8_sumFrom : CR 11 yX8_sumFrom := ⟨by decide +kernel, 8, 15, TX8, by decide +kernel, rfl, wm_1401, wm_1402⟩
theorem cq_X8_58 : CQ RX8 58 yX8_sumFrom cX8_sumFrom 5 (some .int) 2 := ⟨wm_1400, wm_122, wm_1403, by decide +kernel, by decide⟩
theorem cq_X11_344 : CQ RX11 344 yX8_bestPoint cX8_bestPoint 3 (some .int) 0 := ⟨wm_1396, wm_122, wm_1399, by decide +kernel, by decide⟩
theorem cr_11_X8_bestPoint : CR 11 yX8_bestPoint := ⟨by decide +kernel, 8, 15, TX8, by decide +kernel, rfl, wm_1397, wm_1398⟩
theorem ap_X8_64_11 : AFp RX8 64 11 3 .int := ⟨8, 15, RX8, TX8, tyX8, by decide +kernel, by decide +kernel, rfl, by decide, gX8, wm_575, tyX8_ok, nmX8, by decide +kernel, by decide +kernel⟩
theorem sr_11_3 : srF 11 3 = 0 := by decide +kernel
theorem ap_X8_68_11 : AFp RX8 68 11 4 .int := ⟨8, 15, RX8, TX8, tyX8, by decide +kernel, by decide +kernel, rfl, by decide, gX8, wm_577, tyX8_ok, nmX8, by decide +kernel, by decide +kernel⟩
theorem sr_11_4 : srF 11 4 = 0 := by decide +kernel
theorem af_X8_68_11 : AF RX8 68 11 4 := ⟨8, 15, RX8, TX8, by decide +kernel, by decide +kernel, rfl, by decide, gX8, wm_577⟩
theorem cq_X11_353 : CQ RX11 353 yX8_findCouple cX8_findCouple 4 none 0 := ⟨wm_1420, wm_122, wm_1423, by decide +kernel, by decide⟩
theorem cr_11_X8_findCouple : CR 11 yX8_findCouple := ⟨by decide +kernel, 8, 15, TX8, by decide +kernel, rfl, wm_1421, wm_1422⟩
theorem af_X11_359_11 : AF RX11 359 11 4 := ⟨8, 15, RX8, TX8, by decide +kernel, by decide +kernel, rfl, by decide, gX8, wm_578⟩
theorem af_X11_356_11 : AF RX11 356 11 3 := ⟨8, 15, RX8, TX8, by decide +kernel, by decide +kernel, rfl, by decide, gX8, wm_576⟩
theorem af_X8_71_11 : AF RX8 71 11 5 := ⟨8, 15, RX8, TX8, by decide +kernel, by decide +kernel, rfl, by decide, gX8, wm_579⟩
theorem sr_11_5 : srF 11 5 = 0 := by decide +kernel
theorem af_X8_18_11 : AF RX8 18 11 6 := ⟨8, 15, RX8, TX8, by decide +kernel, by decide +kernel, rfl, by decide, gX8, wm_581⟩
theorem sr_11_6 : srF 11 6 = 111 := by decide +kernel
theorem kc_109 : 109 < KC := by decide +kernel
theorem sk_109 : skF 109 = (0, 12) := by decide +kernel
theorem af_X8_21_11 : AF RX8 21 11 7 := ⟨8, 15, RX8, TX8, by decide +kernel, by decide +kernel, rfl, by decide, gX8, wm_582⟩
theorem sr_11_7 : srF 11 7 = 112 := by decide +kernel
theorem kc_110 : 110 < KC := by decide +kernel
theorem sk_110 : skF 110 = (0, 12) := by decide +kernel
theorem af_X8_24_11 : AF RX8 24 11 8 := ⟨8, 15, RX8, TX8, by decide +kernel, by decide +kernel, rfl, by decide, gX8, wm_583⟩
theorem sr_11_8 : srF 11 8 = 113 := by decide +kernel
theorem kc_111 : 111 < KC := by decide +kernel
theorem sk_111 : skF 111 = (0, 12) := by decide +kernel
theorem ap_X8_71_11 : AFp RX8 71 11 5 .int := ⟨8, 15, RX8, TX8, tyX8, by decide +kernel, by decide +kernel, rfl, by decide, gX8, wm_579, tyX8_ok, nmX8, by decide +kernel, by decide +kernel⟩
theorem cq_X11_365 : CQ RX11 365 yX8_addCall cX8_addCall 4 (some .int) 3 := ⟨wm_1428, wm_122, wm_1431, by decide +kernel, by decide⟩
theorem cr_11_X8_addCall : CR 11 yX8_addCall := ⟨by decide +kernel, 8, 15, TX8, by decide +kernel, rfl, wm_1429, wm_1430⟩
theorem ap_X11_362_11 : AFp RX11 362 11 5 .int := ⟨8, 15, RX8, TX8, tyX8, by decide +kernel, by decide +kernel, rfl, by decide, gX8, wm_580, tyX8_ok, nmX8, by decide +kernel, by decide +kernel⟩
theorem af_X8_30_11 : AF RX8 30 11 10 := ⟨8, 15, RX8, TX8, by decide +kernel, by decide +kernel, rfl, by decide, gX8, wm_585⟩
theorem sr_11_10 : srF 11 10 = 115 := by decide +kernel
theorem kc_113 : 113 < KC := by decide +kernel
theorem sk_113 : skF 113 = (0, 2) := by decide +kernel
theorem af_X8_33_11 : AF RX8 33 11 11 := ⟨8, 15, RX8, TX8, by decide +kernel, by decide +kernel, rfl, by decide, gX8, wm_586⟩
theorem sr_11_11 : srF 11 11 = 116 := by decide +kernel
theorem kc_114 : 114 < KC := by decide +kernel
theorem sk_114 : skF 114 = (0, 2) := by decide +kernel
theorem cf_X8_74 : CQ RX8 74 ⟨"java/util/Arrays", "fill", "([II)V"⟩ cJ7_fill_53178 4 none 2 := ⟨wm_1440, wm_113, wm_149, by decide +kernel, by decide⟩
theorem ap_X8_80_11 : AFp RX8 80 11 12 .int := ⟨8, 15, RX8, TX8, tyX8, by decide +kernel, by decide +kernel, rfl, by decide, gX8, wm_587, tyX8_ok, nmX8, by decide +kernel, by decide +kernel⟩
theorem sr_11_12 : srF 11 12 = 0 := by decide +kernel
theorem ap_X8_83_11 : AFp RX8 83 11 13 .int := ⟨8, 15, RX8, TX8, tyX8, by decide +kernel, by decide +kernel, rfl, by decide, gX8, wm_589, tyX8_ok, nmX8, by decide +kernel, by decide +kernel⟩
theorem sr_11_13 : srF 11 13 = 0 := by decide +kernel
theorem ap_X8_86_11 : AFp RX8 86 11 14 .int := ⟨8, 15, RX8, TX8, tyX8, by decide +kernel, by decide +kernel, rfl, by decide, gX8, wm_591, tyX8_ok, nmX8, by decide +kernel, by decide +kernel⟩
theorem sr_11_14 : srF 11 14 = 0 := by decide +kernel
theorem cq_X8_89 : CQ RX8 89 yX8_comesAt cX8_comesAt 3 (some .int) 2 := ⟨wm_1441, wm_122, wm_1444, by decide +kernel, by decide⟩
theorem cr_11_X8_comesAt : CR 11 yX8_comesAt := ⟨by decide +kernel, 8, 15, TX8, by decide +kernel, rfl, wm_1443, wm_53⟩
theorem af_X8_27_11 : AF RX8 27 11 9 := ⟨8, 15, RX8, TX8, by decide +kernel, by decide +kernel, rfl, by decide, gX8, wm_584⟩
theorem sr_11_9 : srF 11 9 = 114 := by decide +kernel
theorem kc_112 : 112 < KC := by decide +kernel
theorem sk_112 : skF 112 = (0, 12) := by decide +kernel
theorem af_X8_80_11 : AF RX8 80 11 12 := ⟨8, 15, RX8, TX8, by decide +kernel, by decide +kernel, rfl, by decide, gX8, wm_587⟩
theorem af_X8_83_11 : AF RX8 83 11 13 := ⟨8, 15, RX8, TX8, by decide +kernel, by decide +kernel, rfl, by decide, gX8, wm_589⟩
theorem af_X8_86_11 : AF RX8 86 11 14 := ⟨8, 15, RX8, TX8, by decide +kernel, by decide +kernel, rfl, by decide, gX8, wm_591⟩
theorem cq_X11_368 : CQ RX11 368 yX8_takeCalls cX8_takeCalls 6 none 2 := ⟨wm_1436, wm_122, wm_1439, by decide +kernel, by decide⟩
theorem cr_11_X8_takeCalls : CR 11 yX8_takeCalls := ⟨by decide +kernel, 8, 15, TX8, by decide +kernel, rfl, wm_1437, wm_1438⟩
theorem af_X11_372_11 : AF RX11 372 11 12 := ⟨8, 15, RX8, TX8, by decide +kernel, by decide +kernel, rfl, by decide, gX8, wm_588⟩
theorem af_X11_375_11 : AF RX11 375 11 13 := ⟨8, 15, RX8, TX8, by decide +kernel, by decide +kernel, rfl, by decide, gX8, wm_590⟩
theorem af_X11_378_11 : AF RX11 378 11 14 := ⟨8, 15, RX8, TX8, by decide +kernel, by decide +kernel, rfl, by decide, gX8, wm_592⟩
theorem ns_X8_92 : (RX8, 92) ∈ nestL := by decide +kernel
theorem cq_X11_381 : CQ RX11 381 yX8_takerOf cX8_takerOf 2 (some .int) 1 := ⟨wm_1445, wm_122, wm_1448, by decide +kernel, by decide⟩
theorem cr_11_X8_takerOf : CR 11 yX8_takerOf := ⟨by decide +kernel, 8, 15, TX8, by decide +kernel, rfl, wm_1446, wm_1447⟩
theorem cq_X11_384 : CQ RX11 384 yX11_isWeather cX11_isWeather 4 (some .boolean) 4 := ⟨wm_1454, wm_111, wm_1456, by decide +kernel, by decide⟩
theorem st_X11_isWeather : Cond.static yX11_isWeather ∈ lw_gd := wm_1455
theorem af_X11_95_0 : AF RX11 95 0 11 := ⟨11, 12, RX11, TX11, by decide +kernel, by decide +kernel, rfl, by decide, gX11, wm_652⟩
theorem sr_0_11 : srF 0 11 = 14 := by decide +kernel
theorem af_X11_127_1 : AF RX11 127 1 5 := ⟨2, 7, RX2, TX2, by decide +kernel, by decide +kernel, rfl, by decide, gX2, wm_165⟩
theorem gX5 : ∀ w ∈ u_ws RX5 TX5 3, w ∈ lw_gd := gd_all inX5 (by decide +kernel)
theorem af_X5_9_12 : AF RX5 9 12 0 := ⟨5, 3, RX5, TX5, by decide +kernel, by decide +kernel, rfl, by decide, gX5, wm_630⟩
theorem sr_12_0 : srF 12 0 = 1 := by decide +kernel
theorem cf_X5_18 : CQ RX5 18 ⟨"java/util/Arrays", "fill", "([II)V"⟩ cJ7_fill_53178 4 none 2 := ⟨wm_1461, wm_113, wm_149, by decide +kernel, by decide⟩
theorem cw_X5_24 : Cond.constant RX5 24 (Int32.ofInt 1000000) ∈ lw_gd := wm_1462
theorem ap_X5_25_12 : AFp RX5 25 12 2 .int := ⟨5, 3, RX5, TX5, tyX5, by decide +kernel, by decide +kernel, rfl, by decide, gX5, wm_632, tyX5_ok, nmX5, by decide +kernel, by decide +kernel⟩
theorem sr_12_2 : srF 12 2 = 0 := by decide +kernel
theorem af_X5_25_12 : AF RX5 25 12 2 := ⟨5, 3, RX5, TX5, by decide +kernel, by decide +kernel, rfl, by decide, gX5, wm_632⟩
theorem cq_X11_387 : CQ RX11 387 yX5_start cX5_start 3 none 2 := ⟨wm_1457, wm_123, wm_1460, by decide +kernel, by decide⟩
theorem cr_12_X5_start : CR 12 yX5_start := ⟨by decide +kernel, 5, 3, TX5, by decide +kernel, rfl, wm_1458, wm_1459⟩
theorem af_X5_15_12 : AF RX5 15 12 1 := ⟨5, 3, RX5, TX5, by decide +kernel, by decide +kernel, rfl, by decide, gX5, wm_631⟩
theorem sr_12_1 : srF 12 1 = 1 := by decide +kernel
theorem cm_X5_29 : Cond.methodLink RX5 29 Lib.Math.max.name ∈ lw_gd := wm_1467
theorem cm_X5_35 : Cond.methodLink RX5 35 Lib.Math.min.name ∈ lw_gd := wm_1468
theorem ap_X5_9_12 : AFp RX5 9 12 0 (.array .int) := ⟨5, 3, RX5, TX5, tyX5, by decide +kernel, by decide +kernel, rfl, by decide, gX5, wm_630, tyX5_ok, nmX5, by decide +kernel, by decide +kernel⟩
theorem ap_X5_15_12 : AFp RX5 15 12 1 (.array .int) := ⟨5, 3, RX5, TX5, tyX5, by decide +kernel, by decide +kernel, rfl, by decide, gX5, wm_631, tyX5_ok, nmX5, by decide +kernel, by decide +kernel⟩
theorem cq_X11_390 : CQ RX11 390 yX5_passDay cX5_passDay 8 none 4 := ⟨wm_1463, wm_123, wm_1466, by decide +kernel, by decide⟩
theorem cr_12_X5_passDay : CR 12 yX5_passDay := ⟨by decide +kernel, 5, 3, TX5, by decide +kernel, rfl, wm_1464, wm_1465⟩
theorem af_X11_394_12 : AF RX11 394 12 2 := ⟨5, 3, RX5, TX5, by decide +kernel, by decide +kernel, rfl, by decide, gX5, wm_633⟩
theorem cw_X11_397 : Cond.constant RX11 397 (Int32.ofInt 500000) ∈ lw_gd := wm_1473
theorem cq_X11_398 : CQ RX11 398 yX0_priceLine cX0_priceLine 4 (some .int) 3 := ⟨wm_1478, wm_117, wm_1115, by decide +kernel, by decide⟩
theorem cq_X11_402 : CQ RX11 402 yX6_valueOf cX6_valueOf 2 (some .int) 1 := ⟨wm_1479, wm_114, wm_1082, by decide +kernel, by decide⟩
theorem cq_X11_405 : CQ RX11 405 yX0_holdLine cX0_holdLine 5 (some .int) 4 := ⟨wm_1484, wm_117, wm_1487, by decide +kernel, by decide⟩
theorem cr_6_X0_holdLine : CR 6 yX0_holdLine := ⟨by decide +kernel, 0, 12, TX0, by decide +kernel, rfl, wm_1485, wm_1486⟩
theorem af_X11_408_8 : AF RX11 408 8 2 := ⟨3, 7, RX3, TX3, by decide +kernel, by decide +kernel, rfl, by decide, gX3, wm_421⟩
theorem af_X11_362_11 : AF RX11 362 11 5 := ⟨8, 15, RX8, TX8, by decide +kernel, by decide +kernel, rfl, by decide, gX8, wm_580⟩
end
section
def Integer_bitCount (x0 : Int) (g : AG) : Option Int :=
  (some ((andI (x0 - (andI (ushrI x0 1) 1431655765)) 858993459) + (andI (ushrI (x0 - (andI (ushrI x0 1) 1431655765)) 2) 858993459)) >>= fun (t1 : Int) => (some ((andI (t1 + (ushrI t1 4)) 252645135) + (ushrI (andI (t1 + (ushrI t1 4)) 252645135) 8)) >>= fun (t3 : Int) => some (andI (t3 + (ushrI t3 16)) 63)))
def M_isIn (x0 : Int) (x1 : Int) (x2 : Int) : Int :=
  (if nw x0 < nw x1 then 0 else (if nw x2 < nw x0 then 0 else 1))
theorem M_isIn_01 {x0 : Int} {x1 : Int} {x2 : Int} : (M_isIn x0 x1 x2) = 0 ∨ (M_isIn x0 x1 x2) = 1 := by
  unfold M_isIn
  (repeat' split) <;> first | exact Or.inl rfl | exact Or.inr rfl
def M_stretch (x1 : Int) (x2 : Int) (x3 : Int) (x4 : Int) (g : AG) : Option (Int × AG) :=
  (if nw (M_isIn x1 0 14) = 0 then some (0, g) else (if nw (M_isIn x2 0 9) = 0 then some (0, g) else (if nw (M_isIn x3 0 9) = 0 then some (0, g) else (if nw (M_isIn x4 1 99) = 0 then some (0, g) else if 0 ≤ nw x1 ∧ nw x1 < 15 then (some (up g 118 (ix x1) x2) >>= fun (g6 : AG) => (some (up g6 119 (ix x1) x3) >>= fun (g8 : AG) => (some (up g8 120 (ix x1) x4) >>= fun (g10 : AG) => some (1, g10)))) else none))))
def M_water (x1 : Int) (g : AG) : Option (Int × AG) :=
  (if nw (M_isIn x1 0 999) = 0 then some (0, g) else (some (up g 117 10 x1) >>= fun (g2 : AG) => some (1, g2)))
def M_stoppage (x1 : Int) (x2 : Int) (x3 : Int) (g : AG) : Option (Int × AG) :=
  (if nw x1 = (-1) then (some (up g 117 11 0) >>= fun (g17 : AG) => some (0, g17)) else (if nw (M_isIn x1 0 14) = 0 then some ((-1), g) else (if nw (M_isIn x2 0 13) = 0 then some ((-1), g) else (if nw (M_isIn x3 x2 13) = 0 then some ((-1), g) else (if nw (g 117 11) = 8 then some ((-1), g) else if 0 ≤ nw (g 117 11) ∧ nw (g 117 11) < 8 then (some (up g 121 (ix (g 117 11)) x1) >>= fun (g7 : AG) => if 0 ≤ nw (g7 117 11) ∧ nw (g7 117 11) < 8 then (some (up g7 122 (ix (g7 117 11)) x2) >>= fun (g10 : AG) => if 0 ≤ nw (g10 117 11) ∧ nw (g10 117 11) < 8 then (some (up g10 123 (ix (g10 117 11)) x3) >>= fun (g13 : AG) => (some (up g13 117 11 ((g13 117 11) + 1)) >>= fun (g15 : AG) => some ((g15 117 11), g15))) else none) else none) else none)))))
def M_isPoint (x0 : Int) : Int :=
  (M_isIn x0 0 15)
theorem M_isPoint_01 {x0 : Int} : (M_isPoint x0) = 0 ∨ (M_isPoint x0) = 1 := by
  unfold M_isPoint
  (repeat' split) <;> first | exact Or.inl rfl | exact Or.inr rfl | exact M_isIn_01
def M_boat (x1 : Int) (x2 : Int) (x3 : Int) (x4 : Int) (g : AG) : Option (Int × AG) :=
  (if nw (M_isIn x1 2 12) = 0 then some ((-1), g) else (if nw (M_isIn x2 0 99) = 0 then some ((-1), g) else (if nw (M_isPoint x3) = 0 then some ((-1), g) else (if nw (M_isIn x4 0 60) = 0 then some ((-1), g) else (if nw (g 117 12) = 10 then some ((-1), g) else if 0 ≤ nw (g 117 12) ∧ nw (g 117 12) < 10 then (some (up g 124 (ix (g 117 12)) x1) >>= fun (g7 : AG) => if 0 ≤ nw (g7 117 12) ∧ nw (g7 117 12) < 10 then (some (up g7 125 (ix (g7 117 12)) x2) >>= fun (g10 : AG) => if 0 ≤ nw (g10 117 12) ∧ nw (g10 117 12) < 10 then (some (up g10 126 (ix (g10 117 12)) x3) >>= fun (g13 : AG) => if 0 ≤ nw (g13 117 12) ∧ nw (g13 117 12) < 10 then (some (up g13 127 (ix (g13 117 12)) x4) >>= fun (g16 : AG) => (some (up g16 117 12 ((g16 117 12) + 1)) >>= fun (g18 : AG) => some (((g18 117 12) - 1), g18))) else none) else none) else none) else none)))))
set_option synthInstance.maxHeartbeats 2000000 in
def M_feed_b (x1 : Int) (x2 : Int) (x3 : Int) (x4 : Int) (x5 : Int) (x6 : Int) (g : AG) : Option (Int × AG) :=
  (if 20 ≤ nw x6 then some ((g 117 37), g) else (some ((if 4 ≤ nw x6 then (if 8 ≤ nw x6 then (if 12 ≤ nw x6 then (if 16 ≤ nw x6 then x5 else x4) else x3) else x2) else x1)) >>= fun (t2 : Int) => if 0 ≤ nw (g 117 37) ∧ nw (g 117 37) < 500 then (some (up g 146 (ix (g 117 37)) (andI (shrI t2 (24 - (8 * ((nw x6).tmod 4)))) 255)) >>= fun (g5 : AG) => (some (up g5 117 37 ((g5 117 37) + 1)) >>= fun (g7 : AG) => M_feed_b x1 x2 x3 x4 x5 (x6 + 1) g7)) else none))
partial_fixpoint
def M_feed (x1 : Int) (x2 : Int) (x3 : Int) (x4 : Int) (x5 : Int) (g : AG) : Option (Int × AG) :=
  (if nw ((g 117 37) + 20) ≤ 500 then M_feed_b x1 x2 x3 x4 x5 0 g else some ((-1), g))
def M_end (x1 : Int) (g : AG) : Option (Int × AG) :=
  (if nw (M_isIn x1 0 (g 117 37)) = 0 then some (0, g) else (some (up g 117 37 x1) >>= fun (g2 : AG) => some (1, g2)))
def M_see (x1 : Int) (g : AG) : Option Int :=
  (((if nw (g 117 37) ≤ nw x1 then some ((-1)) else if 0 ≤ nw x1 ∧ nw x1 < 500 then some ((g 146 (ix x1))) else none) : Option (Int)) >>= fun (r3 : Int) => some r3)
def M_isLetter (x0 : Int) : Int :=
  (if nw (M_isIn x0 97 122) = 0 then (if nw (M_isIn x0 65 90) = 0 then 0 else 1) else 1)
theorem M_isLetter_01 {x0 : Int} : (M_isLetter x0) = 0 ∨ (M_isLetter x0) = 1 := by
  unfold M_isLetter
  (repeat' split) <;> first | exact Or.inl rfl | exact Or.inr rfl | exact M_isIn_01
def M_isDigit (x0 : Int) : Int :=
  (M_isIn x0 48 57)
theorem M_isDigit_01 {x0 : Int} : (M_isDigit x0) = 0 ∨ (M_isDigit x0) = 1 := by
  unfold M_isDigit
  (repeat' split) <;> first | exact Or.inl rfl | exact Or.inr rfl | exact M_isIn_01
set_option synthInstance.maxHeartbeats 2000000 in
def M_is_b (s1 : Nat) (g : AG) (x2 : Int) (x3 : Int) : Option Int :=
  (if nw (strLen s1) ≤ nw x3 then if x2 = 0 ∨ x2 = 1 then some x2 else none else (if nw x2 = 0 then if x2 = 0 ∨ x2 = 1 then some x2 else none else if 0 ≤ nw ((g 117 40) + x3) ∧ nw ((g 117 40) + x3) < 500 then if 0 ≤ nw x3 ∧ nw x3 < strLen s1 then (some ((if nw (g 146 (ix ((g 117 40) + x3))) = nw (strCh s1 (ix x3)) then 1 else 0)) >>= fun (t7 : Int) => M_is_b s1 g t7 (x3 + 1)) else none else none))
partial_fixpoint
def M_is (s1 : Nat) (g : AG) : Option Int :=
  (some ((if nw ((g 117 38) - (g 117 40)) = nw (strLen s1) then 1 else 0)) >>= fun (t1 : Int) => M_is_b s1 g t1 0)
def M_word (g : AG) : Option Int :=
  (M_is 2 g >>= fun (r1 : Int) => (if nw r1 = 0 then (M_is 3 g >>= fun (r4 : Int) => (if nw r4 = 0 then (M_is 4 g >>= fun (r7 : Int) => (if nw r7 = 0 then (M_is 5 g >>= fun (r10 : Int) => (if nw r10 = 0 then (M_is 6 g >>= fun (r13 : Int) => (if nw r13 = 0 then (M_is 7 g >>= fun (r16 : Int) => (if nw r16 = 0 then (M_is 8 g >>= fun (r19 : Int) => (if nw r19 = 0 then (M_is 9 g >>= fun (r22 : Int) => (if nw r22 = 0 then (M_is 10 g >>= fun (r25 : Int) => (if nw r25 = 0 then (M_is 11 g >>= fun (r28 : Int) => (if nw r28 = 0 then (M_is 12 g >>= fun (r31 : Int) => (if nw r31 = 0 then (M_is 13 g >>= fun (r34 : Int) => (if nw r34 = 0 then (M_is 14 g >>= fun (r37 : Int) => (if nw r37 = 0 then (M_is 15 g >>= fun (r40 : Int) => (if nw r40 = 0 then (M_is 16 g >>= fun (r43 : Int) => (if nw r43 = 0 then (M_is 17 g >>= fun (r46 : Int) => (if nw r46 = 0 then (M_is 18 g >>= fun (r49 : Int) => (if nw r49 = 0 then (M_is 19 g >>= fun (r52 : Int) => (if nw r52 = 0 then (M_is 20 g >>= fun (r55 : Int) => (if nw r55 = 0 then (M_is 21 g >>= fun (r58 : Int) => (some ((if nw r58 = 0 then 1 else 48)) >>= fun (t60 : Int) => some t60)) else some 47)) else some 46)) else some 45)) else some 44)) else some 43)) else some 42)) else some 41)) else some 6)) else some 5)) else some 4)) else some 3)) else some 8)) else some 7)) else some 49)) else some 24)) else some 23)) else some 22)) else some 21)) else some 20))
set_option synthInstance.maxHeartbeats 2000000 in
def M_next0_b (tag : Nat) (g : AG) : Option (Int × AG) :=
  (if tag = 1 then (M_see (g 117 38) g >>= fun (r1 : Int) => (if nw r1 = 32 then M_next0_b 2 g else (M_see (g 117 38) g >>= fun (r4 : Int) => (if nw r4 = 10 then M_next0_b 2 g else (some (up g 117 40 (g 117 38)) >>= fun (g7 : AG) => (M_see (g7 117 38) g7 >>= fun (r9 : Int) => (if nw r9 = (-1) then (some (up g7 117 39 0) >>= fun (g35 : AG) => some (0, g35)) else (if nw (M_isLetter r9) = 0 then (if nw (M_isDigit r9) = 0 then (some (up g7 117 38 ((g7 117 38) + 1)) >>= fun (g14 : AG) => (some ((if nw r9 = 59 then 1 else (if nw r9 = 43 then 1 else (if nw r9 = 45 then 1 else (if nw r9 = 42 then 1 else (if nw r9 = 47 then 1 else (if nw r9 = 40 then 1 else (if nw r9 = 41 then 1 else (if nw r9 = 60 then 1 else (if nw r9 = 61 then 1 else (if nw r9 = 62 then 1 else 0))))))))))) >>= fun (t16 : Int) => (some ((if nw t16 = 0 then 1 else (100 + r9))) >>= fun (t18 : Int) => (some (up g14 117 39 t18) >>= fun (g20 : AG) => some (0, g20))))) else (some (up g7 117 41 0) >>= fun (g33 : AG) => M_next0_b 4 g33)) else M_next0_b 3 g7)))))))) else (if tag = 2 then (some (up g 117 38 ((g 117 38) + 1)) >>= fun (g1 : AG) => M_next0_b 1 g1) else (if tag = 3 then (M_see (g 117 38) g >>= fun (r1 : Int) => (if nw (M_isLetter r1) = 0 then (M_word g >>= fun (r4 : Int) => (some (up g 117 39 r4) >>= fun (g6 : AG) => some (0, g6))) else (some (up g 117 38 ((g 117 38) + 1)) >>= fun (g8 : AG) => M_next0_b 3 g8))) else (if tag = 4 then (M_see (g 117 38) g >>= fun (r1 : Int) => (if nw (M_isDigit r1) = 0 then (some ((if 5 ≤ nw ((g 117 38) - (g 117 40)) then 1 else 2)) >>= fun (t4 : Int) => (some (up g 117 39 t4) >>= fun (g6 : AG) => some (0, g6))) else (((if nw ((g 117 40) + 4) ≤ nw (g 117 38) then some g else (M_see (g 117 38) g >>= fun (r10 : Int) => (some (up g 117 41 (((10 * (g 117 41)) + r10) - 48)) >>= fun (g12 : AG) => some g12))) : Option (AG)) >>= fun (r14 : AG) => (some (up r14 117 38 ((r14 117 38) + 1)) >>= fun (g16 : AG) => M_next0_b 4 g16)))) else none))))
partial_fixpoint
def M_next0 (g : AG) : Option (Int × AG) :=
  M_next0_b 1 g
def M_bad (x1 : Int) (g : AG) : Option (Int × AG) :=
  (some (up g 117 42 x1) >>= fun (g1 : AG) => (some (up g1 117 43 (g1 117 40)) >>= fun (g3 : AG) => some (0, g3)))
def M_lay (x1 : Int) (x2 : Int) (g : AG) : Option (Int × AG) :=
  if 0 ≤ nw (2 * (g 117 36)) ∧ nw (2 * (g 117 36)) < 1020 then (some (up g 141 (ix (2 * (g 117 36))) x1) >>= fun (g2 : AG) => if 0 ≤ nw ((2 * (g2 117 36)) + 1) ∧ nw ((2 * (g2 117 36)) + 1) < 1020 then (some (up g2 141 (ix ((2 * (g2 117 36)) + 1)) x2) >>= fun (g5 : AG) => (some (up g5 117 36 ((g5 117 36) + 1)) >>= fun (g7 : AG) => some (0, g7))) else none) else none
set_option synthInstance.maxHeartbeats 2000000 in
def M_unit_b (x1 : Int) (g : AG) : Option (Int × AG) :=
  (some ((if nw x1 = 0 then 0 else ((g 117 39) - 40))) >>= fun (t1 : Int) => (M_lay t1 (g 117 41) g >>= fun (r3 : Int × AG) => (M_next0 r3.2 >>= fun (r5 : Int × AG) => some (1, r5.2))))
partial_fixpoint
def M_unit (g : AG) : Option (Int × AG) :=
  (if nw (g 117 39) = 2 then M_unit_b (M_isIn (g 117 39) 41 49) g else (if nw (M_isIn (g 117 39) 41 49) = 0 then (M_bad 1 g >>= fun (r3 : Int × AG) => if r3.1 = 0 ∨ r3.1 = 1 then some (r3.1, r3.2) else none) else M_unit_b (M_isIn (g 117 39) 41 49) g))
def M_number (x1 : Int) (x2 : Int) (g : AG) : Option (Int × AG) :=
  (if nw (g 117 39) = 2 then (if nw (M_isIn (g 117 41) x1 x2) = 0 then (M_bad 2 g >>= fun (r5 : Int × AG) => if r5.1 = 0 ∨ r5.1 = 1 then some (r5.1, r5.2) else none) else (M_next0 g >>= fun (r3 : Int × AG) => some (1, r3.2))) else (M_bad 1 g >>= fun (r8 : Int × AG) => if r8.1 = 0 ∨ r8.1 = 1 then some (r8.1, r8.2) else none))
set_option synthInstance.maxHeartbeats 2000000 in
def M_product_b (tag : Nat) (g : AG) : Option (Int × AG) :=
  (if tag = 1 then (if nw (g 117 39) = 142 then M_product_b 2 g else (if nw (g 117 39) = 147 then M_product_b 2 g else some (1, g))) else (if tag = 2 then (some ((if nw (g 117 39) = 147 then 1 else 0)) >>= fun (t1 : Int) => (M_next0 g >>= fun (r3 : Int × AG) => (if nw t1 = 0 then (M_unit r3.2 >>= fun (r6 : Int × AG) => (if nw r6.1 = 0 then some (0, r6.2) else (M_lay 12 0 r6.2 >>= fun (r9 : Int × AG) => M_product_b 3 r9.2))) else (M_number 1 9999 r3.2 >>= fun (r11 : Int × AG) => (if nw r11.1 = 0 then some (0, r11.2) else (M_lay 13 (r3.2 117 41) r11.2 >>= fun (r14 : Int × AG) => M_product_b 3 r14.2)))))) else (if tag = 3 then M_product_b 1 g else none)))
partial_fixpoint
def M_product (g : AG) : Option (Int × AG) :=
  (M_unit g >>= fun (r1 : Int × AG) => (if nw r1.1 = 0 then some (0, r1.2) else M_product_b 1 r1.2))
set_option synthInstance.maxHeartbeats 2000000 in
def M_sumUp_b (tag : Nat) (g : AG) : Option (Int × AG) :=
  (if tag = 1 then (if nw (g 117 39) = 143 then M_sumUp_b 2 g else (if nw (g 117 39) = 145 then M_sumUp_b 2 g else some (1, g))) else (if tag = 2 then (some ((if nw (g 117 39) = 143 then 10 else 11)) >>= fun (t1 : Int) => (M_next0 g >>= fun (r3 : Int × AG) => (M_product r3.2 >>= fun (r5 : Int × AG) => (if nw r5.1 = 0 then some (0, r5.2) else (M_lay t1 0 r5.2 >>= fun (r8 : Int × AG) => M_sumUp_b 1 r8.2))))) else none))
partial_fixpoint
def M_sumUp (g : AG) : Option (Int × AG) :=
  (M_product g >>= fun (r1 : Int × AG) => (if nw r1.1 = 0 then some (0, r1.2) else M_sumUp_b 1 r1.2))
def M_hours_117_136_137 (x2 : Int) (x4 : Int) (g : AG) : Option (Int × AG) :=
  if 0 ≤ nw x2 ∧ nw x2 < 16 then (some (up g 136 (ix x2) (g 117 41)) >>= fun (g2 : AG) => (M_number 0 24 g2 >>= fun (r4 : Int × AG) => (if nw r4.1 = 0 then some (0, r4.2) else if 0 ≤ nw x4 ∧ nw x4 < 16 then (some (up r4.2 137 (ix x4) (r4.2 117 41)) >>= fun (g8 : AG) => (M_number 0 24 g8 >>= fun (r10 : Int × AG) => if r10.1 = 0 ∨ r10.1 = 1 then some (r10.1, r10.2) else none)) else none))) else none
def M_hours_117_143_143 (x2 : Int) (x4 : Int) (g : AG) : Option (Int × AG) :=
  if 0 ≤ nw x2 ∧ nw x2 < 60 then (some (up g 143 (ix x2) (g 117 41)) >>= fun (g2 : AG) => (M_number 0 24 g2 >>= fun (r4 : Int × AG) => (if nw r4.1 = 0 then some (0, r4.2) else if 0 ≤ nw x4 ∧ nw x4 < 60 then (some (up r4.2 143 (ix x4) (r4.2 117 41)) >>= fun (g8 : AG) => (M_number 0 24 g8 >>= fun (r10 : Int × AG) => if r10.1 = 0 ∨ r10.1 = 1 then some (r10.1, r10.2) else none)) else none))) else none
set_option synthInstance.maxHeartbeats 2000000 in
def M_aTunnel_b (x1 : Int) (g : AG) : Option (Int × AG) :=
  (some ((if nw (g 117 39) = 7 then 0 else 1)) >>= fun (t1 : Int) => if 0 ≤ nw ((2 * x1) + t1) ∧ nw ((2 * x1) + t1) < 30 then (if nw (g 145 (ix ((2 * x1) + t1))) = 0 then (some (up g 145 (ix ((2 * x1) + t1)) 1) >>= fun (g5 : AG) => (M_next0 g5 >>= fun (r7 : Int × AG) => (M_hours_117_143_143 (2 * ((2 * x1) + t1)) ((2 * ((2 * x1) + t1)) + 1) r7.2 >>= fun (r9 : Int × AG) => if r9.1 = 0 ∨ r9.1 = 1 then some (r9.1, r9.2) else none))) else (M_bad 3 g >>= fun (r12 : Int × AG) => if r12.1 = 0 ∨ r12.1 = 1 then some (r12.1, r12.2) else none)) else none)
partial_fixpoint
def M_aTunnel (g : AG) : Option (Int × AG) :=
  (M_number 0 14 g >>= fun (r1 : Int × AG) => (if nw r1.1 = 0 then some (0, r1.2) else (if nw (r1.2 117 39) = 7 then M_aTunnel_b (g 117 41) r1.2 else (if nw (r1.2 117 39) = 8 then M_aTunnel_b (g 117 41) r1.2 else (M_bad 1 r1.2 >>= fun (r6 : Int × AG) => if r6.1 = 0 ∨ r6.1 = 1 then some (r6.1, r6.2) else none)))))
def M_need (x1 : Int) (g : AG) : Option (Int × AG) :=
  (if nw (g 117 39) = nw x1 then (M_next0 g >>= fun (r2 : Int × AG) => some (1, r2.2)) else (M_bad 1 g >>= fun (r4 : Int × AG) => if r4.1 = 0 ∨ r4.1 = 1 then some (r4.1, r4.2) else none))
set_option synthInstance.maxHeartbeats 2000000 in
def M_every_b (rec : AG → Option (Int × AG)) (g : AG) : Option (Int × AG) :=
  (if nw (g 117 39) = 5 then (M_next0 g >>= fun (r2 : Int × AG) => (rec r2.2 >>= fun (r4 : Int × AG) => (if nw r4.1 = 0 then some (0, r4.2) else (M_lay 18 0 r4.2 >>= fun (r7 : Int × AG) => M_every_b rec r7.2)))) else some (1, g))
partial_fixpoint
def M_every (rec : AG → Option (Int × AG)) (g : AG) : Option (Int × AG) :=
  (rec g >>= fun (r1 : Int × AG) => (if nw r1.1 = 0 then some (0, r1.2) else M_every_b rec r1.2))
set_option synthInstance.maxHeartbeats 2000000 in
def M_any_b (rec : AG → Option (Int × AG)) (g : AG) : Option (Int × AG) :=
  (if nw (g 117 39) = 4 then (M_next0 g >>= fun (r2 : Int × AG) => (M_every rec r2.2 >>= fun (r4 : Int × AG) => (if nw r4.1 = 0 then some (0, r4.2) else (M_lay 19 0 r4.2 >>= fun (r7 : Int × AG) => M_any_b rec r7.2)))) else some (1, g))
partial_fixpoint
def M_any (rec : AG → Option (Int × AG)) (g : AG) : Option (Int × AG) :=
  (M_every rec g >>= fun (r1 : Int × AG) => (if nw r1.1 = 0 then some (0, r1.2) else M_any_b rec r1.2))
def M_opens (g : AG) : Option (Int × AG) :=
  (if nw (g 117 45) = 8 then (M_bad 3 g >>= fun (r6 : Int × AG) => if r6.1 = 0 ∨ r6.1 = 1 then some (r6.1, r6.2) else none) else (some (up g 117 45 ((g 117 45) + 1)) >>= fun (g2 : AG) => (M_next0 g2 >>= fun (r4 : Int × AG) => some (1, r4.2))))
def M_one_s (rec : AG → Option (Int × AG)) (g : AG) : Option (Int × AG) :=
  (if nw (g 117 39) = 6 then (M_opens g >>= fun (r33 : Int × AG) => (if nw r33.1 = 0 then some (0, r33.2) else (rec r33.2 >>= fun (r36 : Int × AG) => (if nw r36.1 = 0 then some (0, r36.2) else (some (up r36.2 117 45 ((r36.2 117 45) - 1)) >>= fun (g39 : AG) => (M_lay 17 0 g39 >>= fun (r41 : Int × AG) => some (1, r41.2))))))) else (if nw (g 117 39) = 140 then (M_opens g >>= fun (r22 : Int × AG) => (if nw r22.1 = 0 then some (0, r22.2) else (M_any rec r22.2 >>= fun (r25 : Int × AG) => (if nw r25.1 = 0 then some (0, r25.2) else (M_need 141 r25.2 >>= fun (r28 : Int × AG) => (if nw r28.1 = 0 then some (0, r28.2) else (some (up r28.2 117 45 ((r28.2 117 45) - 1)) >>= fun (g31 : AG) => some (1, g31)))))))) else (M_sumUp g >>= fun (r3 : Int × AG) => (if nw r3.1 = 0 then some (0, r3.2) else (some ((if nw (r3.2 117 39) = 160 then 14 else (if nw (r3.2 117 39) = 161 then 15 else (if nw (r3.2 117 39) = 162 then 16 else (-1))))) >>= fun (t6 : Int) => (if nw t6 = (-1) then (M_bad 1 r3.2 >>= fun (r16 : Int × AG) => if r16.1 = 0 ∨ r16.1 = 1 then some (r16.1, r16.2) else none) else (M_next0 r3.2 >>= fun (r9 : Int × AG) => (M_sumUp r9.2 >>= fun (r11 : Int × AG) => (if nw r11.1 = 0 then some (0, r11.2) else (M_lay t6 0 r11.2 >>= fun (r14 : Int × AG) => some (1, r14.2)))))))))))
def M_one : Nat → AG → Option (Int × AG)
  | 0 => fun _ => none
  | n + 1 => fun g => M_one_s (M_one n) g
set_option synthInstance.maxHeartbeats 2000000 in
def M_aLine_b (x2 : Int) (tag : Nat) (g : AG) : Option (Int × AG) :=
  (if tag = 1 then if 0 ≤ nw x2 ∧ nw x2 < 16 then (some (up g 139 (ix x2) (g 117 36)) >>= fun (g2 : AG) => (if nw (g2 117 39) = 3 then (M_next0 g2 >>= fun (r5 : Int × AG) => (M_any (M_one 12) r5.2 >>= fun (r7 : Int × AG) => (if nw r7.1 = 0 then some (0, r7.2) else M_aLine_b x2 2 r7.2))) else M_aLine_b x2 2 g2)) else none else (if tag = 2 then if 0 ≤ nw x2 ∧ nw x2 < 16 then (some (up g 140 (ix x2) (g 117 36)) >>= fun (g2 : AG) => (M_need 159 g2 >>= fun (r4 : Int × AG) => if r4.1 = 0 ∨ r4.1 = 1 then some (r4.1, r4.2) else none)) else none else none))
partial_fixpoint
def M_aLine (g : AG) : Option (Int × AG) :=
  (if nw (M_isIn (g 117 39) 20 24) = 0 then (M_bad 1 g >>= fun (r38 : Int × AG) => if r38.1 = 0 ∨ r38.1 = 1 then some (r38.1, r38.2) else none) else (if nw (g 117 35) = 16 then (M_bad 3 g >>= fun (r35 : Int × AG) => if r35.1 = 0 ∨ r35.1 = 1 then some (r35.1, r35.2) else none) else (some (up g 117 45 0) >>= fun (g3 : AG) => (M_next0 g3 >>= fun (r5 : Int × AG) => if 0 ≤ nw (g 117 35) ∧ nw (g 117 35) < 16 then (some (up r5.2 135 (ix (g 117 35)) ((g 117 39) - 20)) >>= fun (g8 : AG) => (some (up g8 138 (ix (g 117 35)) (g8 117 36)) >>= fun (g10 : AG) => (some (up g10 139 (ix (g 117 35)) (g10 117 36)) >>= fun (g12 : AG) => (some (up g12 140 (ix (g 117 35)) (g12 117 36)) >>= fun (g14 : AG) => (if nw ((g 117 39) - 20) = 1 then (M_aTunnel g14 >>= fun (r24 : Int × AG) => (((if nw r24.1 = 0 then some (0, r24.2) else (M_need 159 r24.2 >>= fun (r27 : Int × AG) => (some ((if nw r27.1 = 0 then 0 else 1)) >>= fun (t29 : Int) => some (t29, r27.2)))) : Option (Int × AG)) >>= fun (r32 : Int × AG) => if r32.1 = 0 ∨ r32.1 = 1 then some (r32.1, r32.2) else none)) else (if nw ((g 117 39) - 20) = 0 then (M_hours_117_136_137 (g 117 35) (g 117 35) g14 >>= fun (r21 : Int × AG) => (if nw r21.1 = 0 then some (0, r21.2) else M_aLine_b (g 117 35) 1 r21.2)) else (M_sumUp g14 >>= fun (r18 : Int × AG) => (if nw r18.1 = 0 then some (0, r18.2) else M_aLine_b (g 117 35) 1 r18.2)))))))) else none))))
set_option synthInstance.maxHeartbeats 2000000 in
def M_keeps_b (tag : Nat) (x1 : Int) (g : AG) : Option (Int × AG) :=
  (if tag = 1 then (if nw (g 117 34) ≤ nw x1 then M_keeps_b 2 0 g else if 0 ≤ nw x1 ∧ nw x1 < 16 then (some (up g 128 (ix x1) (g 135 (ix x1))) >>= fun (g3 : AG) => (some (up g3 129 (ix x1) (g3 136 (ix x1))) >>= fun (g5 : AG) => (some (up g5 130 (ix x1) (g5 137 (ix x1))) >>= fun (g7 : AG) => (some (up g7 131 (ix x1) (g7 138 (ix x1))) >>= fun (g9 : AG) => (some (up g9 132 (ix x1) (g9 139 (ix x1))) >>= fun (g11 : AG) => (some (up g11 133 (ix x1) (g11 140 (ix x1))) >>= fun (g13 : AG) => M_keeps_b 1 (x1 + 1) g13)))))) else none) else (if tag = 2 then (if nw (2 * (g 117 36)) ≤ nw x1 then M_keeps_b 3 0 g else if 0 ≤ nw x1 ∧ nw x1 < 1020 then (some (up g 134 (ix x1) (g 141 (ix x1))) >>= fun (g3 : AG) => M_keeps_b 2 (x1 + 1) g3) else none) else (if tag = 3 then (if 30 ≤ nw x1 then M_keeps_b 4 0 g else if 0 ≤ nw x1 ∧ nw x1 < 30 then if (g 145 (ix x1)) = 0 ∨ (g 145 (ix x1)) = 1 then (some (up g 144 (ix x1) (g 145 (ix x1))) >>= fun (g4 : AG) => M_keeps_b 3 (x1 + 1) g4) else none else none) else (if tag = 4 then (if 60 ≤ nw x1 then some (0, g) else if 0 ≤ nw x1 ∧ nw x1 < 60 then (some (up g 142 (ix x1) (g 143 (ix x1))) >>= fun (g3 : AG) => M_keeps_b 4 (x1 + 1) g3) else none) else none))))
partial_fixpoint
def M_keeps (g : AG) : Option (Int × AG) :=
  (some (up g 117 34 (g 117 35)) >>= fun (g1 : AG) => M_keeps_b 1 0 g1)
set_option synthInstance.maxHeartbeats 2000000 in
def M_rules_b (tag : Nat) (x1 : Int) (g : AG) : Option (Int × AG) :=
  (if tag = 1 then (if 30 ≤ nw x1 then (M_next0 g >>= fun (r2 : Int × AG) => M_rules_b 2 1 r2.2) else if 0 ≤ nw x1 ∧ nw x1 < 30 then (some (up g 145 (ix x1) 0) >>= fun (g5 : AG) => M_rules_b 1 (x1 + 1) g5) else none) else (if tag = 2 then (if nw x1 = 0 then M_rules_b 3 x1 g else (if nw (g 117 39) = 0 then M_rules_b 3 x1 g else (M_aLine g >>= fun (r3 : Int × AG) => (some ((if nw r3.1 = 0 then 0 else 1)) >>= fun (t5 : Int) => (some (up r3.2 117 35 ((r3.2 117 35) + t5)) >>= fun (g7 : AG) => M_rules_b 2 r3.1 g7))))) else (if tag = 3 then (some (up g 117 37 0) >>= fun (g1 : AG) => (some (up g1 117 44 (g1 117 42)) >>= fun (g3 : AG) => (some ((if nw x1 = 0 then (g3 117 43) else (-1))) >>= fun (t5 : Int) => (some (up g3 117 46 t5) >>= fun (g7 : AG) => (if nw x1 = 0 then some ((-1), g7) else (M_keeps g7 >>= fun (r10 : Int × AG) => some ((r10.2 117 34), r10.2))))))) else none)))
partial_fixpoint
def M_rules (g : AG) : Option (Int × AG) :=
  (some (up g 117 42 0) >>= fun (g1 : AG) => (some (up g1 117 38 0) >>= fun (g3 : AG) => (some (up g3 117 35 0) >>= fun (g5 : AG) => (some (up g5 117 36 0) >>= fun (g7 : AG) => M_rules_b 1 0 g7))))
def M_fault (x1 : Int) (g : AG) : Int :=
  (if nw x1 = 0 then (g 117 44) else (if nw x1 = 1 then (g 117 46) else (-1)))
set_option synthInstance.maxHeartbeats 2000000 in
def M_forgets_b (x1 : Int) (g : AG) : Option (Int × AG) :=
  (if 10 ≤ nw x1 then some (0, g) else if 0 ≤ nw x1 ∧ nw x1 < 10 then (some (up g 148 (ix x1) 0) >>= fun (g3 : AG) => M_forgets_b (x1 + 1) g3) else none)
partial_fixpoint
def M_forgets (g : AG) : Option (Int × AG) :=
  M_forgets_b 0 g
def M_both (x0 : Int) (x1 : Int) (x2 : Int) : Int :=
  (if nw x0 = 10 then (x1 + x2) else (if nw x0 = 11 then (x1 - x2) else (if nw x0 = 12 then (x1 * x2) else (if nw x0 = 13 then (orI x1 x2) else (if nw x0 = 14 then (if nw x2 ≤ nw x1 then 0 else 1) else (if nw x0 = 15 then (if nw x1 = nw x2 then 1 else 0) else (if nw x0 = 16 then (if nw x1 ≤ nw x2 then 0 else 1) else (if nw x0 = 17 then (orI x1 x2) else (if nw x0 = 18 then (andI x1 x2) else (orI x1 x2))))))))))
set_option synthInstance.maxHeartbeats 2000000 in
def M_comesTo_b (x2 : Int) (x3 : Int) (x4 : Int) (g : AG) : Option (Int × AG) :=
  (if nw x2 ≤ nw x4 then some ((g 147 (ix 0)), g) else if 0 ≤ nw (2 * x4) ∧ nw (2 * x4) < 1020 then if 0 ≤ nw ((2 * x4) + 1) ∧ nw ((2 * x4) + 1) < 1020 then (((if 10 ≤ nw (g 134 (ix (2 * x4))) then (if nw (g 134 (ix (2 * x4))) = 13 then if 0 ≤ nw (x3 - 1) ∧ nw (x3 - 1) < 520 then if ¬ nw (g 134 (ix ((2 * x4) + 1))) = 0 then (some (up g 147 (ix (x3 - 1)) ((nw (g 147 (ix (x3 - 1)))).tdiv (nw (g 134 (ix ((2 * x4) + 1)))))) >>= fun (g16 : AG) => some (x3, g16)) else none else none else (if nw (g 134 (ix (2 * x4))) = 17 then if 0 ≤ nw (x3 - 1) ∧ nw (x3 - 1) < 520 then (some (up g 147 (ix (x3 - 1)) (1 - (g 147 (ix (x3 - 1))))) >>= fun (g12 : AG) => some (x3, g12)) else none else if 0 ≤ nw ((x3 + (-1)) - 1) ∧ nw ((x3 + (-1)) - 1) < 520 then if 0 ≤ nw (x3 + (-1)) ∧ nw (x3 + (-1)) < 520 then (some (up g 147 (ix ((x3 + (-1)) - 1)) (M_both (g 134 (ix (2 * x4))) (g 147 (ix ((x3 + (-1)) - 1))) (g 147 (ix (x3 + (-1)))))) >>= fun (g9 : AG) => some ((x3 + (-1)), g9)) else none else none)) else (((if nw (g 134 (ix (2 * x4))) = 0 then some ((g 134 (ix ((2 * x4) + 1))), g) else if 0 ≤ nw (g 134 (ix (2 * x4))) ∧ nw (g 134 (ix (2 * x4))) < 10 then some ((g 148 (ix (g 134 (ix (2 * x4))))), g) else none) : Option (Int × AG)) >>= fun (r20 : Int × AG) => if 0 ≤ nw x3 ∧ nw x3 < 520 then (some (up r20.2 147 (ix x3) r20.1) >>= fun (g23 : AG) => some ((x3 + 1), g23)) else none)) : Option (Int × AG)) >>= fun (r25 : Int × AG) => M_comesTo_b x2 r25.1 (x4 + 1) r25.2) else none else none)
partial_fixpoint
def M_comesTo (x1 : Int) (x2 : Int) (g : AG) : Option (Int × AG) :=
  M_comesTo_b x2 0 x1 g
set_option synthInstance.maxHeartbeats 2000000 in
def M_serves_b (x1 : Int) (tag : Nat) (x2 : Int) (g : AG) : Option (Int × AG) :=
  (if tag = 1 then (if nw (g 117 34) ≤ nw x2 then some ((-1), g) else if 0 ≤ nw x2 ∧ nw x2 < 16 then (if nw (g 128 (ix x2)) = nw x1 then (if nw (g 133 (ix x2)) = nw (g 132 (ix x2)) then some (x2, g) else (M_comesTo (g 132 (ix x2)) (g 133 (ix x2)) g >>= fun (r5 : Int × AG) => (if nw r5.1 = 1 then some (x2, r5.2) else M_serves_b x1 2 x2 r5.2))) else M_serves_b x1 2 x2 g) else none) else (if tag = 2 then M_serves_b x1 1 (x2 + 1) g else none))
partial_fixpoint
def M_serves (x1 : Int) (g : AG) : Option (Int × AG) :=
  M_serves_b x1 1 0 g
def M_locksLine (x1 : Int) (g : AG) : Option (Int × AG) :=
  (M_forgets g >>= fun (r1 : Int × AG) => (some (up r1.2 148 (ix 1) ((nw x1).tmod 7)) >>= fun (g3 : AG) => (some (up g3 148 (ix 2) ((nw x1).tdiv 7)) >>= fun (g5 : AG) => (some (up g5 148 (ix 3) (g5 117 10)) >>= fun (g7 : AG) => (M_serves 0 g7 >>= fun (r9 : Int × AG) => some (r9.1, r9.2))))))
def M_open (x1 : Int) (x2 : Int) (g : AG) : Option (Int × AG) :=
  (if nw (M_isIn x1 0 13) = 0 then some ((-1), g) else (if nw (M_isIn x2 0 1) = 0 then some ((-1), g) else (M_locksLine x1 g >>= fun (r3 : Int × AG) => (((if nw r3.1 = (-1) then (some ((if nw x2 = 0 then 0 else 24)) >>= fun (t9 : Int) => some (t9, r3.2)) else (if nw x2 = 0 then if 0 ≤ nw r3.1 ∧ nw r3.1 < 16 then some ((r3.2 129 (ix r3.1)), r3.2) else none else if 0 ≤ nw r3.1 ∧ nw r3.1 < 16 then some ((r3.2 130 (ix r3.1)), r3.2) else none)) : Option (Int × AG)) >>= fun (r12 : Int × AG) => some (r12.1, r12.2)))))
def M_isBoat (x1 : Int) (g : AG) : Int :=
  (M_isIn x1 0 ((g 117 12) - 1))
theorem M_isBoat_01 {x1 : Int} {g : AG} : (M_isBoat x1 g) = 0 ∨ (M_isBoat x1 g) = 1 := by
  unfold M_isBoat
  (repeat' split) <;> first | exact Or.inl rfl | exact Or.inr rfl | exact M_isIn_01
def M_isTime (x0 : Int) : Int :=
  (M_isIn x0 0 20159)
theorem M_isTime_01 {x0 : Int} : (M_isTime x0) = 0 ∨ (M_isTime x0) = 1 := by
  unfold M_isTime
  (repeat' split) <;> first | exact Or.inl rfl | exact Or.inr rfl | exact M_isIn_01
set_option synthInstance.maxHeartbeats 2000000 in
def M_isStopped_b (x1 : Int) (x2 : Int) (g : AG) (tag : Nat) (x3 : Int) : Option Int :=
  (if tag = 1 then (if nw (g 117 11) ≤ nw x3 then some 0 else if 0 ≤ nw x3 ∧ nw x3 < 8 then (if nw (g 121 (ix x3)) = nw x1 then (if nw (M_isIn x2 (g 122 (ix x3)) (g 123 (ix x3))) = 0 then M_isStopped_b x1 x2 g 2 x3 else some 1) else M_isStopped_b x1 x2 g 2 x3) else none) else (if tag = 2 then M_isStopped_b x1 x2 g 1 (x3 + 1) else none))
partial_fixpoint
def M_isStopped (x1 : Int) (x2 : Int) (g : AG) : Option Int :=
  M_isStopped_b x1 x2 g 1 0
def M_mayBegin (x1 : Int) (x2 : Int) (x3 : Int) (x4 : Int) (g : AG) : Option (Int × AG) :=
  (if nw (M_isIn x4 8 19) = 0 then some (0, g) else (M_isStopped x1 x3 g >>= fun (r2 : Int) => (if nw r2 = 0 then (if nw x2 = 0 then some (1, g) else (if nw x2 = 1 then (M_locksLine x3 g >>= fun (r18 : Int × AG) => (((if nw r18.1 = (-1) then some (1, r18.2) else if 0 ≤ nw r18.1 ∧ nw r18.1 < 16 then (if nw x4 < nw (r18.2 129 (ix r18.1)) then some (0, r18.2) else (some ((if nw (r18.2 130 (ix r18.1)) ≤ nw x4 then 0 else 1)) >>= fun (t23 : Int) => some (t23, r18.2))) else none) : Option (Int × AG)) >>= fun (r26 : Int × AG) => if r26.1 = 0 ∨ r26.1 = 1 then some (r26.1, r26.2) else none)) else if 0 ≤ nw (((2 * x1) + x2) - 2) ∧ nw (((2 * x1) + x2) - 2) < 30 then (((if nw (g 144 (ix (((2 * x1) + x2) - 2))) = 0 then some (0, g) else if 0 ≤ nw (2 * (((2 * x1) + x2) - 2)) ∧ nw (2 * (((2 * x1) + x2) - 2)) < 60 then (if nw x4 < nw (g 142 (ix (2 * (((2 * x1) + x2) - 2)))) then some (0, g) else if 0 ≤ nw ((2 * (((2 * x1) + x2) - 2)) + 1) ∧ nw ((2 * (((2 * x1) + x2) - 2)) + 1) < 60 then (some ((if nw (g 142 (ix ((2 * (((2 * x1) + x2) - 2)) + 1))) ≤ nw x4 then 0 else 1)) >>= fun (t12 : Int) => some (t12, g)) else none) else none) : Option (Int × AG)) >>= fun (r15 : Int × AG) => if r15.1 = 0 ∨ r15.1 = 1 then some (r15.1, r15.2) else none) else none)) else some (0, g))))
set_option synthInstance.maxHeartbeats 2000000 in
def M_endOf_b (x1 : Int) (x2 : Int) (x4 : Int) (tag : Nat) (x5 : Int) (g : AG) : Option (Int × AG) :=
  (if tag = 1 then (if 20159 < nw x5 then M_endOf_b x1 x2 x4 2 x5 g else (M_mayBegin x1 x2 ((nw x5).tdiv 1440) ((nw ((nw x5).tmod 1440)).tdiv 60) g >>= fun (r2 : Int × AG) => (if nw r2.1 = 0 then M_endOf_b x1 x2 x4 1 ((((nw x5).tdiv 60) + 1) * 60) r2.2 else M_endOf_b x1 x2 x4 2 x5 r2.2))) else (if tag = 2 then (some ((if 20159 < nw (x5 + x4) then (-1) else (if nw x5 ≤ 20159 then (x5 + x4) else (-1)))) >>= fun (t1 : Int) => some (t1, g)) else none))
partial_fixpoint
def M_endOf (x1 : Int) (x2 : Int) (x3 : Int) (x4 : Int) (g : AG) : Option (Int × AG) :=
  M_endOf_b x1 x2 x4 1 x3 g
def M_harmOf (x1 : Int) (x2 : Int) (g : AG) : Option (Int × AG) :=
  (M_forgets g >>= fun (r1 : Int × AG) => (some (up r1.2 148 (ix 1) ((nw x2).tmod 7)) >>= fun (g3 : AG) => (some (up g3 148 (ix 2) ((nw x2).tdiv 7)) >>= fun (g5 : AG) => (some (up g5 148 (ix 3) (g5 117 10)) >>= fun (g7 : AG) => if 0 ≤ nw x1 ∧ nw x1 < 10 then (some (up g7 148 (ix 4) (g7 124 (ix x1))) >>= fun (g10 : AG) => (some (up g10 148 (ix 6) (g10 125 (ix x1))) >>= fun (g12 : AG) => (some (up g12 148 (ix 9) (g12 127 (ix x1))) >>= fun (g14 : AG) => (M_serves 4 g14 >>= fun (r16 : Int × AG) => (((if nw r16.1 = (-1) then some (0, r16.2) else if 0 ≤ nw r16.1 ∧ nw r16.1 < 16 then (M_comesTo (r16.2 131 (ix r16.1)) (r16.2 132 (ix r16.1)) r16.2 >>= fun (r20 : Int × AG) => some (r20.1, r20.2)) else none) : Option (Int × AG)) >>= fun (r22 : Int × AG) => (some ((if 0 ≤ nw r22.1 then (if nw r22.1 ≤ 999 then r22.1 else 999) else 0)) >>= fun (t24 : Int) => some (t24, r22.2))))))) else none))))
set_option synthInstance.maxHeartbeats 2000000 in
def M_through_b (x1 : Int) (x2 : Int) (x3 : Int) (tag : Nat) (x5 : Int) (x6 : Int) (x7 : Int) (g : AG) : Option (Int × AG) :=
  (if tag = 1 then if 0 ≤ nw x2 ∧ nw x2 < 15 then (((if nw (g 118 (ix x2)) ≤ 0 then some (x5, g) else (some ((if nw x3 = 0 then 3 else 2)) >>= fun (t3 : Int) => (M_endOf x2 t3 x5 (20 * (g 118 (ix x2))) g >>= fun (r5 : Int × AG) => some (r5.1, r5.2)))) : Option (Int × AG)) >>= fun (r8 : Int × AG) => if 0 ≤ nw x1 ∧ nw x1 < 10 then M_through_b x1 x2 x3 4 r8.1 (15 + ((nw (60 - (r8.2 127 (ix x1)))).tdiv 6)) 0 r8.2 else none) else none else (if tag = 2 then if 0 ≤ nw x2 ∧ nw x2 < 15 then (if nw (g 118 (ix x2)) ≤ nw x6 then M_through_b x1 x2 x3 3 x5 x6 x7 g else (if nw x5 = (-1) then M_through_b x1 x2 x3 3 x5 x6 x7 g else (M_endOf x2 0 x5 20 g >>= fun (r4 : Int × AG) => M_through_b x1 x2 x3 2 r4.1 (x6 + 1) x7 r4.2))) else none else (if tag = 3 then if 0 ≤ nw x1 ∧ nw x1 < 10 then M_through_b x1 x2 x3 4 x5 (15 + ((nw (60 - (g 127 (ix x1)))).tdiv 6)) 0 g else none else (if tag = 4 then if 0 ≤ nw x2 ∧ nw x2 < 15 then (if nw (g 119 (ix x2)) ≤ nw x7 then some (x5, g) else (if nw x5 = (-1) then some (x5, g) else (M_endOf x2 1 x5 x6 g >>= fun (r4 : Int × AG) => (((if nw (r4.2 117 47) = 0 then some r4.2 else (if nw r4.1 = (-1) then some r4.2 else (M_harmOf x1 ((nw (r4.1 - x6)).tdiv 1440) r4.2 >>= fun (r8 : Int × AG) => (some (up r8.2 117 48 ((r4.2 117 48) + r8.1)) >>= fun (g10 : AG) => some g10)))) : Option (AG)) >>= fun (r12 : AG) => M_through_b x1 x2 x3 4 r4.1 x6 (x7 + 1) r12)))) else none else none))))
partial_fixpoint
def M_through (x1 : Int) (x2 : Int) (x3 : Int) (x4 : Int) (g : AG) : Option (Int × AG) :=
  if 0 ≤ nw (2 * x2) ∧ nw (2 * x2) < 30 then (if nw (g 144 (ix (2 * x2))) = 0 then if 0 ≤ nw ((2 * x2) + 1) ∧ nw ((2 * x2) + 1) < 30 then (if nw (g 144 (ix ((2 * x2) + 1))) = 0 then M_through_b x1 x2 0 2 x4 0 0 g else M_through_b x1 x2 x3 1 x4 0 0 g) else none else M_through_b x1 x2 x3 1 x4 0 0 g) else none
set_option synthInstance.maxHeartbeats 2000000 in
def M_led_b (x1 : Int) (x2 : Int) (x3 : Int) (tag : Nat) (x5 : Int) (x6 : Int) (g : AG) : Option (Int × AG) :=
  (if tag = 1 then (if nw x3 ≤ nw x6 then M_led_b x1 x2 x3 2 x5 x6 g else (if nw x5 = (-1) then M_led_b x1 x2 x3 2 x5 x6 g else (M_through x1 x6 1 x5 g >>= fun (r3 : Int × AG) => M_led_b x1 x2 x3 1 r3.1 (x6 + 1) r3.2))) else (if tag = 2 then M_led_b x1 x2 x3 3 x5 x2 g else (if tag = 3 then (if nw x6 ≤ nw x3 then some (x5, g) else (if nw x5 = (-1) then some (x5, g) else (M_through x1 (x6 - 1) 0 x5 g >>= fun (r3 : Int × AG) => M_led_b x1 x2 x3 3 r3.1 (x6 + (-1)) r3.2))) else none)))
partial_fixpoint
def M_led (x1 : Int) (x2 : Int) (x3 : Int) (x4 : Int) (g : AG) : Option (Int × AG) :=
  M_led_b x1 x2 x3 1 x4 x2 g
def M_comes (x1 : Int) (x2 : Int) (x3 : Int) (x4 : Int) (g : AG) : Option (Int × AG) :=
  (((if nw (M_isBoat x1 g) = 0 then some ((-1), g) else (if nw (M_isPoint x2) = 0 then some ((-1), g) else (if nw (M_isPoint x3) = 0 then some ((-1), g) else (if nw (M_isTime x4) = 0 then some ((-1), g) else (M_led x1 x2 x3 x4 g >>= fun (r5 : Int × AG) => some (r5.1, r5.2)))))) : Option (Int × AG)) >>= fun (r7 : Int × AG) => some (r7.1, r7.2))
def M_harm (x1 : Int) (x2 : Int) (x3 : Int) (x4 : Int) (g : AG) : Option (Int × AG) :=
  (if nw (M_isBoat x1 g) = 0 then some ((-1), g) else (if nw (M_isPoint x2) = 0 then some ((-1), g) else (if nw (M_isPoint x3) = 0 then some ((-1), g) else (if nw (M_isTime x4) = 0 then some ((-1), g) else (some (up g 117 47 1) >>= fun (g5 : AG) => (some (up g5 117 48 0) >>= fun (g7 : AG) => (M_led x1 x2 x3 x4 g7 >>= fun (r9 : Int × AG) => (some (up r9.2 117 47 0) >>= fun (g11 : AG) => (some ((if nw r9.1 = (-1) then (-1) else (g11 117 48))) >>= fun (t13 : Int) => some (t13, g11))))))))))
set_option synthInstance.maxHeartbeats 2000000 in
def M_enough_b (x1 : Int) (x2 : Int) (x3 : Int) (x4 : Int) (x5 : Int) (x6 : Int) (tag : Nat) (x7 : Int) (x8 : Int) (g : AG) : Option (Int × AG) :=
  (if tag = 1 then (if 60 < nw x8 then M_enough_b x1 x2 x3 x4 x5 x6 2 x7 x8 g else (if 20159 < nw (x4 + x8) then M_enough_b x1 x2 x3 x4 x5 x6 2 x7 x8 g else (if nw x7 = (-1) then if 0 ≤ nw x1 ∧ nw x1 < 10 then (some (up g 127 (ix x1) x8) >>= fun (g5 : AG) => (M_led x1 x2 x3 (x4 + x8) g5 >>= fun (r7 : Int × AG) => (some ((if nw r7.1 = (-1) then (-1) else (if nw x5 < nw r7.1 then (-1) else x8))) >>= fun (t9 : Int) => M_enough_b x1 x2 x3 x4 x5 x6 1 t9 (x8 + 1) r7.2))) else none else M_enough_b x1 x2 x3 x4 x5 x6 2 x7 x8 g))) else (if tag = 2 then if 0 ≤ nw x1 ∧ nw x1 < 10 then (some (up g 127 (ix x1) x6) >>= fun (g2 : AG) => some (x7, g2)) else none else none))
partial_fixpoint
def M_enough (x1 : Int) (x2 : Int) (x3 : Int) (x4 : Int) (x5 : Int) (g : AG) : Option (Int × AG) :=
  (if nw (M_isBoat x1 g) = 0 then some ((-1), g) else (if nw (M_isPoint x2) = 0 then some ((-1), g) else (if nw (M_isPoint x3) = 0 then some ((-1), g) else (if nw (M_isTime x4) = 0 then some ((-1), g) else (if nw (M_isTime x5) = 0 then some ((-1), g) else if 0 ≤ nw x1 ∧ nw x1 < 10 then M_enough_b x1 x2 x3 x4 x5 (g 127 (ix x1)) 1 (-1) 0 g else none)))))
set_option synthInstance.maxHeartbeats 2000000 in
def M_maybe_b (x1 : Int) (x2 : Int) (x3 : Int) (x4 : Int) (x5 : Int) (x6 : Int) (g : AG) : Option (Int × AG) :=
  (if 16 ≤ nw x6 then some (x5, g) else (M_led x1 x2 x6 x3 g >>= fun (r2 : Int × AG) => (some ((if nw r2.1 = (-1) then 0 else (if nw x4 < nw r2.1 then 0 else (shlI 1 x6)))) >>= fun (t4 : Int) => M_maybe_b x1 x2 x3 x4 (orI x5 t4) (x6 + 1) r2.2)))
partial_fixpoint
def M_maybe (x1 : Int) (x2 : Int) (x3 : Int) (x4 : Int) (g : AG) : Option (Int × AG) :=
  (if nw (M_isBoat x1 g) = 0 then some ((-1), g) else (if nw (M_isPoint x2) = 0 then some ((-1), g) else (if nw (M_isTime x3) = 0 then some ((-1), g) else (if nw (M_isIn x4 x3 20159) = 0 then some ((-1), g) else M_maybe_b x1 x2 x3 x4 0 0 g))))
def M_trip (x1 : Int) (x2 : Int) (x3 : Int) (x4 : Int) (x5 : Int) (g : AG) : Option (Int × AG) :=
  (if nw (M_isBoat x1 g) = 0 then some ((-1), g) else (if nw (M_isPoint x2) = 0 then some ((-1), g) else (if nw (M_isPoint x3) = 0 then some ((-1), g) else (if nw (M_isTime x4) = 0 then some ((-1), g) else (if nw (M_isTime x5) = 0 then some ((-1), g) else (if nw (g 117 49) = 20 then some ((-1), g) else if 0 ≤ nw (g 117 49) ∧ nw (g 117 49) < 20 then (some (up g 149 (ix (g 117 49)) x1) >>= fun (g8 : AG) => if 0 ≤ nw (g8 117 49) ∧ nw (g8 117 49) < 20 then (some (up g8 150 (ix (g8 117 49)) x2) >>= fun (g11 : AG) => if 0 ≤ nw (g11 117 49) ∧ nw (g11 117 49) < 20 then (some (up g11 151 (ix (g11 117 49)) x3) >>= fun (g14 : AG) => if 0 ≤ nw (g14 117 49) ∧ nw (g14 117 49) < 20 then (some (up g14 152 (ix (g14 117 49)) x4) >>= fun (g17 : AG) => if 0 ≤ nw (g17 117 49) ∧ nw (g17 117 49) < 20 then (some (up g17 153 (ix (g17 117 49)) x5) >>= fun (g20 : AG) => (some (up g20 117 49 ((g20 117 49) + 1)) >>= fun (g22 : AG) => some (((g22 117 49) - 1), g22))) else none) else none) else none) else none) else none))))))
def M_lateOf (x1 : Int) (g : AG) : Option (Int × AG) :=
  if 0 ≤ nw x1 ∧ nw x1 < 20 then (M_led (g 149 (ix x1)) (g 150 (ix x1)) (g 151 (ix x1)) (g 152 (ix x1)) g >>= fun (r2 : Int × AG) => (((if nw r2.1 = (-1) then some (20160, r2.2) else (if nw r2.1 ≤ nw (r2.2 153 (ix x1)) then some (0, r2.2) else some ((r2.1 - (r2.2 153 (ix x1))), r2.2))) : Option (Int × AG)) >>= fun (r6 : Int × AG) => some (r6.1, r6.2))) else none
set_option synthInstance.maxHeartbeats 2000000 in
def M_late_b (x2 : Int) (x3 : Int) (g : AG) : Option (Int × AG) :=
  (if nw (g 117 49) ≤ nw x3 then some (x2, g) else (M_lateOf x3 g >>= fun (r2 : Int × AG) => (some ((if nw r2.1 ≤ 0 then 0 else 1)) >>= fun (t4 : Int) => M_late_b (x2 + t4) (x3 + 1) r2.2)))
partial_fixpoint
def M_late (x1 : Int) (g : AG) : Option (Int × AG) :=
  (if nw x1 = (-1) then M_late_b 0 0 g else (((if nw (M_isIn x1 0 ((g 117 49) - 1)) = 0 then some ((-1), g) else (M_lateOf x1 g >>= fun (r3 : Int × AG) => some (r3.1, r3.2))) : Option (Int × AG)) >>= fun (r5 : Int × AG) => some (r5.1, r5.2)))
def M_price (x1 : Int) (x2 : Int) (x3 : Int) (g : AG) : Option (Int × AG) :=
  (if nw (M_isBoat x1 g) = 0 then some ((-1000000), g) else (if nw (M_isIn x2 0 9) = 0 then some ((-1000000), g) else (M_forgets g >>= fun (r3 : Int × AG) => (some (up r3.2 148 (ix 2) x2) >>= fun (g5 : AG) => if 0 ≤ nw x1 ∧ nw x1 < 10 then (some (up g5 148 (ix 4) (g5 124 (ix x1))) >>= fun (g8 : AG) => (some ((if nw x3 = 0 then 0 else 1)) >>= fun (t10 : Int) => (some (up g8 148 (ix 5) t10) >>= fun (g12 : AG) => (some (up g12 148 (ix 6) (g12 125 (ix x1))) >>= fun (g14 : AG) => (M_serves 2 g14 >>= fun (r16 : Int × AG) => (some ((if nw r16.1 = (-1) then 0 else 1)) >>= fun (t18 : Int) => (some (up r16.2 117 100 t18) >>= fun (g20 : AG) => (((if nw r16.1 = (-1) then some ((-1000000), g20) else if 0 ≤ nw r16.1 ∧ nw r16.1 < 16 then (M_comesTo (g20 131 (ix r16.1)) (g20 132 (ix r16.1)) g20 >>= fun (r24 : Int × AG) => some (r24.1, r24.2)) else none) : Option (Int × AG)) >>= fun (r26 : Int × AG) => some (r26.1, r26.2))))))))) else none))))
def M_refund (x1 : Int) (g : AG) : Option (Int × AG) :=
  (M_lateOf x1 g >>= fun (r1 : Int × AG) => (if nw r1.1 = 0 then some (0, r1.2) else if 0 ≤ nw x1 ∧ nw x1 < 20 then (some ((if nw (r1.2 150 (ix x1)) = nw (r1.2 151 (ix x1)) then 0 else 1)) >>= fun (t5 : Int) => (M_price (r1.2 149 (ix x1)) ((nw ((nw (r1.2 152 (ix x1))).tdiv 1440)).tdiv 7) t5 r1.2 >>= fun (r7 : Int × AG) => (((if nw (r7.2 117 100) = 0 then some ((-1000000), r7.2) else (some ((if nw ((nw (r1.1 + 1439)).tdiv 1440) ≤ 7 then ((nw (r1.1 + 1439)).tdiv 1440) else 7)) >>= fun (t10 : Int) => some (((nl ((nw r7.1) * (nw t10))).tdiv 7), r7.2))) : Option (Int × AG)) >>= fun (r13 : Int × AG) => some (r13.1, r13.2)))) else none))
set_option synthInstance.maxHeartbeats 2000000 in
def M_turningBack_b (x1 : Int) (x3 : Int) (tag : Nat) (x2 : Int) (x4 : Int) (g : AG) : Option (Int × AG) :=
  (if tag = 1 then if 0 ≤ nw x1 ∧ nw x1 < 20 then (if nw (((g 151 (ix x1)) - (g 150 (ix x1))) * x3) < nw x4 then M_turningBack_b x1 x3 2 x2 x4 g else (if nw (g 153 (ix x1)) < nw (g 152 (ix x1)) then M_turningBack_b x1 x3 2 x2 x4 g else (M_led (g 149 (ix x1)) (g 150 (ix x1)) ((g 150 (ix x1)) + (x4 * x3)) (g 152 (ix x1)) g >>= fun (r4 : Int × AG) => (if nw r4.1 = (-1) then (some ((if nw x2 = (-1) then (-1000000) else x2)) >>= fun (t13 : Int) => some (t13, r4.2)) else (M_led (r4.2 149 (ix x1)) ((g 150 (ix x1)) + (x4 * x3)) (r4.2 150 (ix x1)) r4.1 r4.2 >>= fun (r7 : Int × AG) => (((if nw r7.1 = (-1) then some (x2, r7.2) else (if nw (r7.2 153 (ix x1)) < nw r7.1 then some (x2, r7.2) else some (((g 150 (ix x1)) + (x4 * x3)), r7.2))) : Option (Int × AG)) >>= fun (r11 : Int × AG) => M_turningBack_b x1 x3 1 r11.1 (x4 + 1) r11.2)))))) else none else (if tag = 2 then (some ((if nw x2 = (-1) then (-1000000) else x2)) >>= fun (t1 : Int) => some (t1, g)) else none))
partial_fixpoint
def M_turningBack (x1 : Int) (g : AG) : Option (Int × AG) :=
  if 0 ≤ nw x1 ∧ nw x1 < 20 then (some ((if nw (g 151 (ix x1)) ≤ nw (g 150 (ix x1)) then (-1) else 1)) >>= fun (t2 : Int) => M_turningBack_b x1 t2 1 (-1) 0 g) else none
def M_back (x1 : Int) (x2 : Int) (g : AG) : Option (Int × AG) :=
  (((if nw (M_isIn x1 0 ((g 117 49) - 1)) = 0 then some ((-1000000), g) else (if nw (M_isIn x2 0 1) = 0 then some ((-1000000), g) else (if nw x2 = 0 then (M_turningBack x1 g >>= fun (r6 : Int × AG) => some (r6.1, r6.2)) else (M_refund x1 g >>= fun (r4 : Int × AG) => some (r4.1, r4.2))))) : Option (Int × AG)) >>= fun (r8 : Int × AG) => some (r8.1, r8.2))
set_option synthInstance.maxHeartbeats 2000000 in
def M_rung_b (x2 : Int) (x1 : Int) (x3 : Int) (g : AG) : Option (Int × AG) :=
  (if nw (g 117 49) ≤ nw x3 then some (x1, g) else (M_lateOf x3 g >>= fun (r2 : Int × AG) => (some ((if nw r2.1 ≤ 0 then 0 else 1)) >>= fun (t4 : Int) => (some (up r2.2 117 11 0) >>= fun (g6 : AG) => (((if nw t4 = 0 then some (x1, g6) else (M_lateOf x3 g6 >>= fun (r9 : Int × AG) => (if nw r9.1 = 0 then some ((orI x1 (shlI 1 x3)), r9.2) else some (x1, r9.2)))) : Option (Int × AG)) >>= fun (r12 : Int × AG) => (some (up r12.2 117 11 x2) >>= fun (g14 : AG) => M_rung_b x2 r12.1 (x3 + 1) g14))))))
partial_fixpoint
def M_rung (g : AG) : Option (Int × AG) :=
  M_rung_b (g 117 11) 0 0 g
def M_pump (x1 : Int) (x2 : Int) (g : AG) : Option (Int × AG) :=
  (if nw (M_isPoint x1) = 0 then some (0, g) else if 0 ≤ nw x1 ∧ nw x1 < 16 then if x2 = 0 ∨ x2 = 1 then (some (up g 154 (ix x1) x2) >>= fun (g4 : AG) => some (1, g4)) else none else none)
set_option synthInstance.maxHeartbeats 2000000 in
def M_pumped_b (x1 : Int) (x2 : Int) (x3 : Int) (x4 : Int) (x5 : Int) (x6 : Int) (x7 : Int) (x8 : Int) (g : AG) : Option (Int × AG) :=
  (if 16 ≤ nw x8 then (some ((if nw x6 = (-1) then x6 else (if nw x5 = 0 then x6 else (if nw x5 = 1 then x7 else (if nw x7 ≤ nw (x4 + 10080) then 0 else 1))))) >>= fun (t2 : Int) => some (t2, g)) else if 0 ≤ nw x8 ∧ nw x8 < 16 then (((if nw (g 154 (ix x8)) = 0 then some ((-1), g) else (M_led x1 x2 x8 x3 g >>= fun (r10 : Int × AG) => some (r10.1, r10.2))) : Option (Int × AG)) >>= fun (r12 : Int × AG) => (((if nw r12.1 = (-1) then some (x6, x7, r12.2) else (if nw x6 = (-1) then some (x8, r12.1, r12.2) else (if nw r12.1 < nw x7 then some (x8, r12.1, r12.2) else some (x6, x7, r12.2)))) : Option (Int × Int × AG)) >>= fun (r17 : Int × Int × AG) => M_pumped_b x1 x2 x3 x4 x5 r17.1 r17.2.1 (x8 + 1) r17.2.2)) else none)
partial_fixpoint
def M_pumped (x1 : Int) (x2 : Int) (x3 : Int) (x4 : Int) (x5 : Int) (g : AG) : Option (Int × AG) :=
  (if nw (M_isBoat x1 g) = 0 then some ((-1), g) else (if nw (M_isPoint x2) = 0 then some ((-1), g) else (if nw (M_isTime x3) = 0 then some ((-1), g) else (if nw (M_isIn x4 0 x3) = 0 then some ((-1), g) else (if nw (M_isIn x5 0 2) = 0 then some ((-1), g) else M_pumped_b x1 x2 x3 x4 x5 (-1) (-1) 0 g)))))
set_option synthInstance.maxHeartbeats 2000000 in
def M_log_b (x1 : Int) (x2 : Int) (x3 : Int) (g : AG) : Option (Int × AG) :=
  if 0 ≤ nw x1 ∧ nw x1 < 10 then if 0 ≤ nw ((10 * x1) + (g 155 (ix x1))) ∧ nw ((10 * x1) + (g 155 (ix x1))) < 100 then (some (up g 156 (ix ((10 * x1) + (g 155 (ix x1)))) x2) >>= fun (g3 : AG) => if 0 ≤ nw ((10 * x1) + (g3 155 (ix x1))) ∧ nw ((10 * x1) + (g3 155 (ix x1))) < 100 then (some (up g3 157 (ix ((10 * x1) + (g3 155 (ix x1)))) x3) >>= fun (g6 : AG) => (some (up g6 155 (ix x1) ((g6 155 (ix x1)) + 1)) >>= fun (g8 : AG) => some ((g8 155 (ix x1)), g8))) else none) else none else none
partial_fixpoint
def M_log (x1 : Int) (x2 : Int) (x3 : Int) (g : AG) : Option (Int × AG) :=
  (if nw (M_isBoat x1 g) = 0 then some ((-1), g) else (if nw (M_isPoint x2) = 0 then some ((-1), g) else (if nw (M_isTime x3) = 0 then some ((-1), g) else if 0 ≤ nw x1 ∧ nw x1 < 10 then (if nw (g 155 (ix x1)) = 10 then some ((-1), g) else (if nw (g 155 (ix x1)) ≤ 0 then M_log_b x1 x2 x3 g else if 0 ≤ nw (((10 * x1) + (g 155 (ix x1))) - 1) ∧ nw (((10 * x1) + (g 155 (ix x1))) - 1) < 100 then (if nw (g 157 (ix (((10 * x1) + (g 155 (ix x1))) - 1))) < nw x3 then M_log_b x1 x2 x3 g else some ((-1), g)) else none)) else none)))
def M_isSpan (x0 : Int) (x1 : Int) : Int :=
  (if nw (M_isTime x0) = 0 then 0 else (if nw (M_isIn x1 x0 20159) = 0 then 0 else 1))
theorem M_isSpan_01 {x0 : Int} {x1 : Int} : (M_isSpan x0 x1) = 0 ∨ (M_isSpan x0 x1) = 1 := by
  unfold M_isSpan
  (repeat' split) <;> first | exact Or.inl rfl | exact Or.inr rfl | exact M_isIn_01 | exact M_isTime_01
set_option synthInstance.maxHeartbeats 2000000 in
def M_between_b (x1 : Int) (x2 : Int) (x5 : Int) (x8 : Int) (x9 : Int) (g : AG) : Option (Int × AG) :=
  (if nw x9 = 0 then if 0 ≤ nw (((10 * x1) + x5) + 1) ∧ nw (((10 * x1) + x5) + 1) < 100 then (M_led x1 x2 (g 156 (ix (((10 * x1) + x5) + 1))) x8 g >>= fun (r3 : Int × AG) => (((if nw r3.1 = (-1) then some (0, r3.2) else (some ((if nw (r3.2 157 (ix (((10 * x1) + x5) + 1))) < nw r3.1 then 0 else 1)) >>= fun (t6 : Int) => some (t6, r3.2))) : Option (Int × AG)) >>= fun (r9 : Int × AG) => if r9.1 = 0 ∨ r9.1 = 1 then some (r9.1, r9.2) else none)) else none else some (1, g))
partial_fixpoint
def M_between (x1 : Int) (x2 : Int) (x3 : Int) (x4 : Int) (x5 : Int) (g : AG) : Option (Int × AG) :=
  (((if nw x5 = (-1) then some (0, g) else if 0 ≤ nw ((10 * x1) + x5) ∧ nw ((10 * x1) + x5) < 100 then some ((g 157 (ix ((10 * x1) + x5))), g) else none) : Option (Int × AG)) >>= fun (r3 : Int × AG) => (((if nw x5 = (-1) then if 0 ≤ nw x1 ∧ nw x1 < 10 then some ((r3.2 126 (ix x1)), r3.2) else none else if 0 ≤ nw ((10 * x1) + x5) ∧ nw ((10 * x1) + x5) < 100 then some ((r3.2 156 (ix ((10 * x1) + x5))), r3.2) else none) : Option (Int × AG)) >>= fun (r8 : Int × AG) => (M_led x1 r8.1 x2 r3.1 r8.2 >>= fun (r10 : Int × AG) => (if nw r10.1 = (-1) then some (0, r10.2) else (some ((if nw r10.1 ≤ nw x3 then x3 else r10.1)) >>= fun (t13 : Int) => if 0 ≤ nw x1 ∧ nw x1 < 10 then (some ((if nw (x5 + 1) = nw (r10.2 155 (ix x1)) then 1 else 0)) >>= fun (t16 : Int) => (if nw x4 < nw t13 then some (0, r10.2) else (if nw t16 = 0 then if 0 ≤ nw (((10 * x1) + x5) + 1) ∧ nw (((10 * x1) + x5) + 1) < 100 then (if nw t13 < nw (r10.2 157 (ix (((10 * x1) + x5) + 1))) then M_between_b x1 x2 x5 t13 t16 r10.2 else some (0, r10.2)) else none else M_between_b x1 x2 x5 t13 t16 r10.2))) else none)))))
set_option synthInstance.maxHeartbeats 2000000 in
def M_canHaveBeen_b (x1 : Int) (x2 : Int) (x3 : Int) (x4 : Int) (x5 : Int) (g : AG) : Option (Int × AG) :=
  if 0 ≤ nw x1 ∧ nw x1 < 10 then (if nw (g 155 (ix x1)) ≤ nw x5 then some (0, g) else (M_between x1 x2 x3 x4 x5 g >>= fun (r3 : Int × AG) => (if nw r3.1 = 0 then M_canHaveBeen_b x1 x2 x3 x4 (x5 + 1) r3.2 else some (1, r3.2)))) else none
partial_fixpoint
def M_canHaveBeen (x1 : Int) (x2 : Int) (x3 : Int) (x4 : Int) (g : AG) : Option (Int × AG) :=
  M_canHaveBeen_b x1 x2 x3 x4 (-1) g
def M_could (x1 : Int) (x2 : Int) (x3 : Int) (x4 : Int) (g : AG) : Option (Int × AG) :=
  (((if nw (M_isBoat x1 g) = 0 then some ((-1), g) else (if nw (M_isPoint x2) = 0 then some ((-1), g) else (if nw (M_isSpan x3 x4) = 0 then some ((-1), g) else (M_canHaveBeen x1 x2 x3 x4 g >>= fun (r4 : Int × AG) => (some ((if nw r4.1 = 0 then 0 else 1)) >>= fun (t6 : Int) => some (t6, r4.2)))))) : Option (Int × AG)) >>= fun (r9 : Int × AG) => some (r9.1, r9.2))
set_option synthInstance.maxHeartbeats 2000000 in
def M_whose_b (x1 : Int) (x2 : Int) (x3 : Int) (x4 : Int) (x5 : Int) (x6 : Int) (x7 : Int) (x8 : Int) (g : AG) : Option (Int × AG) :=
  (if nw (g 117 12) ≤ nw x8 then (some ((if nw x4 = 0 then x5 else (if nw x7 = 1 then x6 else (-1)))) >>= fun (t2 : Int) => some (t2, g)) else (M_canHaveBeen x8 x1 x2 x3 g >>= fun (r6 : Int × AG) => (((if nw r6.1 = 0 then some (x5, x6, x7, r6.2) else some ((orI x5 (shlI 1 x8)), x8, (x7 + 1), r6.2)) : Option (Int × Int × Int × AG)) >>= fun (r9 : Int × Int × Int × AG) => M_whose_b x1 x2 x3 x4 r9.1 r9.2.1 r9.2.2.1 (x8 + 1) r9.2.2.2)))
partial_fixpoint
def M_whose (x1 : Int) (x2 : Int) (x3 : Int) (x4 : Int) (g : AG) : Option (Int × AG) :=
  (if nw (M_isPoint x1) = 0 then some ((-1), g) else (if nw (M_isSpan x2 x3) = 0 then some ((-1), g) else (if nw (M_isIn x4 0 1) = 0 then some ((-1), g) else M_whose_b x1 x2 x3 x4 0 (-1) 0 0 g)))
set_option synthInstance.maxHeartbeats 2000000 in
def M_tonight_b (x1 : Int) (x2 : Int) (tag : Nat) (p : Int × Int × Int × Int × Int × Int × Int) (g : AG) : Option (Int × AG) :=
  (if tag = 1 then (if 16 ≤ nw p.2.2.1 then (some ((if nw x2 = 16 then p.1 else p.2.1)) >>= fun (t2 : Int) => some (t2, g)) else M_tonight_b x1 x2 2 (p.1, p.2.1, p.2.2.1, 0, 0, 0, p.2.2.2.2.2.2) g) else (if tag = 2 then (if nw (g 117 12) ≤ nw p.2.2.2.2.2.1 then (if nw p.2.2.1 = nw x2 then some (p.2.2.2.1, g) else (some ((if nw p.2.2.2.2.1 ≤ nw p.2.1 then p.1 else p.2.2.1)) >>= fun (t3 : Int) => (some ((if nw p.2.2.2.2.1 ≤ nw p.2.1 then p.2.1 else p.2.2.2.2.1)) >>= fun (t5 : Int) => M_tonight_b x1 x2 1 (t3, t5, (p.2.2.1 + 1), p.2.2.2.1, p.2.2.2.2.1, p.2.2.2.2.2.1, p.2.2.2.2.2.2) g))) else M_tonight_b x1 x2 3 (p.1, p.2.1, p.2.2.1, p.2.2.2.1, p.2.2.2.2.1, p.2.2.2.2.2.1, (-1)) g) else (if tag = 3 then if 0 ≤ nw p.2.2.2.2.2.1 ∧ nw p.2.2.2.2.2.1 < 10 then (if nw (g 155 (ix p.2.2.2.2.2.1)) ≤ nw (p.2.2.2.2.2.2 + 1) then M_tonight_b x1 x2 4 (p.1, p.2.1, p.2.2.1, p.2.2.2.1, p.2.2.2.2.1, p.2.2.2.2.2.1, p.2.2.2.2.2.2) g else if 0 ≤ nw (((10 * p.2.2.2.2.2.1) + p.2.2.2.2.2.2) + 1) ∧ nw (((10 * p.2.2.2.2.2.1) + p.2.2.2.2.2.2) + 1) < 100 then (if nw x1 < nw (g 157 (ix (((10 * p.2.2.2.2.2.1) + p.2.2.2.2.2.2) + 1))) then M_tonight_b x1 x2 4 (p.1, p.2.1, p.2.2.1, p.2.2.2.1, p.2.2.2.2.1, p.2.2.2.2.2.1, p.2.2.2.2.2.2) g else M_tonight_b x1 x2 3 (p.1, p.2.1, p.2.2.1, p.2.2.2.1, p.2.2.2.2.1, p.2.2.2.2.2.1, (p.2.2.2.2.2.2 + 1)) g) else none) else none else (if tag = 4 then (((if nw p.2.2.2.2.2.2 = (-1) then if 0 ≤ nw p.2.2.2.2.2.1 ∧ nw p.2.2.2.2.2.1 < 10 then (M_led p.2.2.2.2.2.1 (g 126 (ix p.2.2.2.2.2.1)) p.2.2.1 0 g >>= fun (r6 : Int × AG) => some (r6.1, r6.2)) else none else if 0 ≤ nw ((10 * p.2.2.2.2.2.1) + p.2.2.2.2.2.2) ∧ nw ((10 * p.2.2.2.2.2.1) + p.2.2.2.2.2.2) < 100 then (M_led p.2.2.2.2.2.1 (g 156 (ix ((10 * p.2.2.2.2.2.1) + p.2.2.2.2.2.2))) p.2.2.1 (g 157 (ix ((10 * p.2.2.2.2.2.1) + p.2.2.2.2.2.2))) g >>= fun (r3 : Int × AG) => some (r3.1, r3.2)) else none) : Option (Int × AG)) >>= fun (r8 : Int × AG) => (((if nw r8.1 = (-1) then some (p.2.2.2.1, p.2.2.2.2.1, r8.2) else (if nw r8.1 ≤ nw x1 then some ((orI p.2.2.2.1 (shlI 1 p.2.2.2.2.2.1)), (p.2.2.2.2.1 + 1), r8.2) else some (p.2.2.2.1, p.2.2.2.2.1, r8.2))) : Option (Int × Int × AG)) >>= fun (r12 : Int × Int × AG) => M_tonight_b x1 x2 2 (p.1, p.2.1, p.2.2.1, r12.1, r12.2.1, (p.2.2.2.2.2.1 + 1), p.2.2.2.2.2.2) r12.2.2)) else none))))
partial_fixpoint
def M_tonight (x1 : Int) (x2 : Int) (g : AG) : Option (Int × AG) :=
  (if nw (M_isTime x1) = 0 then some ((-1), g) else (if nw (M_isIn x2 0 17) = 0 then some ((-1), g) else M_tonight_b x1 x2 1 (0, 0, 0, 0, 0, 0, 0) g))
set_option synthInstance.maxHeartbeats 2000000 in
def M_queue_b (x1 : Int) (x2 : Int) (g : AG) : Option (Int × AG) :=
  if 0 ≤ nw (g 117 59) ∧ nw (g 117 59) < 7 then (some (up g 158 (ix (g 117 59)) x1) >>= fun (g2 : AG) => if 0 ≤ nw (g2 117 59) ∧ nw (g2 117 59) < 7 then (some (up g2 159 (ix (g2 117 59)) x2) >>= fun (g5 : AG) => (some (up g5 117 59 ((g5 117 59) + 1)) >>= fun (g7 : AG) => some ((g7 117 59), g7))) else none) else none
partial_fixpoint
def M_queue (x1 : Int) (x2 : Int) (g : AG) : Option (Int × AG) :=
  (if nw x2 = (-1) then (some (up g 117 59 0) >>= fun (g8 : AG) => some (0, g8)) else (if nw (M_isIn x1 0 9999) = 0 then some ((-1), g) else (if nw (M_isIn x2 0 1) = 0 then some ((-1), g) else (if nw (g 117 59) = 7 then some ((-1), g) else (if nw (g 117 59) ≤ 0 then M_queue_b x1 x2 g else if 0 ≤ nw ((g 117 59) - 1) ∧ nw ((g 117 59) - 1) < 7 then (if nw (g 158 (ix ((g 117 59) - 1))) ≤ nw x1 then M_queue_b x1 x2 g else some ((-1), g)) else none)))))
set_option synthInstance.maxHeartbeats 2000000 in
def M_waits_b (g : AG) (x1 : Int) (x2 : Int) (x3 : Int) : Option Int :=
  (if nw (g 117 59) ≤ nw x3 then some x2 else if 0 ≤ nw x3 ∧ nw x3 < 7 then if 0 ≤ nw (g 160 (ix x3)) ∧ nw (g 160 (ix x3)) < 7 then (((if nw (g 158 (ix (g 160 (ix x3)))) ≤ nw x1 then some (x1) else some ((g 158 (ix (g 160 (ix x3)))))) : Option (Int)) >>= fun (r5 : Int) => (((if nw x3 ≤ 0 then some (0) else if 0 ≤ nw (x3 - 1) ∧ nw (x3 - 1) < 7 then if 0 ≤ nw (g 160 (ix (x3 - 1))) ∧ nw (g 160 (ix (x3 - 1))) < 7 then (some ((if nw (g 159 (ix (g 160 (ix (x3 - 1))))) = nw (g 159 (ix (g 160 (ix x3)))) then 5 else 0)) >>= fun (t10 : Int) => some (t10)) else none else none) : Option (Int)) >>= fun (r13 : Int) => M_waits_b g ((r5 + 15) + r13) (x2 + (r5 - (g 158 (ix (g 160 (ix x3)))))) (x3 + 1))) else none else none)
partial_fixpoint
def M_waits (g : AG) : Option Int :=
  M_waits_b g 0 0 0
set_option synthInstance.maxHeartbeats 2000000 in
def M_orders_b (rec : Int → Int → AG → Option (Int × AG)) (x1 : Int) (x2 : Int) (tag : Nat) (x3 : Int) (x4 : Int) (g : AG) : Option (Int × AG) :=
  (if tag = 1 then (some (up g 117 64 x3) >>= fun (g1 : AG) => M_orders_b rec x1 x2 2 x3 0 g1) else (if tag = 2 then (if nw (g 117 59) ≤ nw x4 then some (0, g) else if 0 ≤ nw x4 ∧ nw x4 < 7 then (some (up g 161 (ix x4) (g 160 (ix x4))) >>= fun (g3 : AG) => M_orders_b rec x1 x2 2 x3 (x4 + 1) g3) else none) else (if tag = 3 then (if nw (g 117 59) ≤ nw x3 then some (0, g) else (((if nw (andI (shrI x2 x3) 1) = 1 then some g else if 0 ≤ nw x1 ∧ nw x1 < 7 then (some (up g 160 (ix x1) x3) >>= fun (g4 : AG) => (rec (x1 + 1) (orI x2 (shlI 1 x3)) g4 >>= fun (r6 : Int × AG) => some r6.2)) else none) : Option (AG)) >>= fun (r8 : AG) => M_orders_b rec x1 x2 3 (x3 + 1) x4 r8)) else none)))
partial_fixpoint
def M_orders_s (rec : Int → Int → AG → Option (Int × AG)) (x1 : Int) (x2 : Int) (g : AG) : Option (Int × AG) :=
  (if nw x1 = nw (g 117 59) then (M_waits g >>= fun (r2 : Int) => (if nw (g 117 64) = (-1) then M_orders_b rec 0 0 1 r2 0 g else (if nw r2 < nw (g 117 64) then M_orders_b rec 0 0 1 r2 0 g else some (0, g)))) else M_orders_b rec x1 x2 3 0 0 g)
def M_orders : Nat → Int → Int → AG → Option (Int × AG)
  | 0 => fun _ _ _ => none
  | n + 1 => fun x1 x2 g => M_orders_s (M_orders n) x1 x2 g
set_option synthInstance.maxHeartbeats 2000000 in
def M_asTheyCome_b (x1 : Int) (g : AG) : Option (Int × AG) :=
  (if nw (g 117 59) ≤ nw x1 then some (0, g) else if 0 ≤ nw x1 ∧ nw x1 < 7 then (some (up g 160 (ix x1) x1) >>= fun (g3 : AG) => M_asTheyCome_b (x1 + 1) g3) else none)
partial_fixpoint
def M_asTheyCome (g : AG) : Option (Int × AG) :=
  M_asTheyCome_b 0 g
set_option synthInstance.maxHeartbeats 2000000 in
def M_lockfuls_b (g : AG) (x1 : Int) (x2 : Int) : Option Int :=
  (if nw (g 117 59) ≤ nw x2 then some x1 else if 0 ≤ nw x2 ∧ nw x2 < 7 then if 0 ≤ nw (g 160 (ix x2)) ∧ nw (g 160 (ix x2)) < 7 then if 0 ≤ nw (x2 - 1) ∧ nw (x2 - 1) < 7 then if 0 ≤ nw (g 160 (ix (x2 - 1))) ∧ nw (g 160 (ix (x2 - 1))) < 7 then (some ((if nw (g 159 (ix (g 160 (ix x2)))) = nw (g 159 (ix (g 160 (ix (x2 - 1))))) then 0 else 1)) >>= fun (t6 : Int) => M_lockfuls_b g (x1 - t6) (x2 + 1)) else none else none else none else none)
partial_fixpoint
def M_lockfuls (g : AG) : Option Int :=
  M_lockfuls_b g (g 117 59) 1
set_option synthInstance.maxHeartbeats 2000000 in
def M_lock_b (x1 : Int) (tag : Nat) (x2 : Int) (g : AG) : Option (Int × AG) :=
  (if tag = 1 then (some (up g 117 64 (-1)) >>= fun (g1 : AG) => (M_orders 9 0 0 g1 >>= fun (r3 : Int × AG) => (if nw x1 < 10 then (M_asTheyCome r3.2 >>= fun (r6 : Int × AG) => (if nw x1 = 1 then M_lock_b x1 2 x2 r6.2 else (if nw x1 = 3 then M_lock_b x1 2 x2 r6.2 else M_lock_b x1 4 x2 r6.2))) else if 0 ≤ nw (x1 - 10) ∧ nw (x1 - 10) < 7 then some ((r3.2 161 (ix (x1 - 10))), r3.2) else none))) else (if tag = 2 then M_lock_b x1 3 0 g else (if tag = 3 then (if nw (g 117 59) ≤ nw x2 then M_lock_b x1 4 x2 g else if 0 ≤ nw x2 ∧ nw x2 < 7 then (some (up g 160 (ix x2) (g 161 (ix x2))) >>= fun (g3 : AG) => M_lock_b x1 3 (x2 + 1) g3) else none) else (if tag = 4 then (((if 2 ≤ nw x1 then (M_lockfuls g >>= fun (r2 : Int) => some (r2, g)) else (M_waits g >>= fun (r4 : Int) => some (r4, g))) : Option (Int × AG)) >>= fun (r6 : Int × AG) => some (r6.1, r6.2)) else none))))
partial_fixpoint
def M_lock (x1 : Int) (g : AG) : Option (Int × AG) :=
  (if nw (M_isIn x1 0 3) = 0 then (if nw (M_isIn x1 10 (9 + (g 117 59))) = 0 then some ((-1), g) else M_lock_b x1 1 0 g) else M_lock_b x1 1 0 g)
def M_booking (x1 : Int) (x2 : Int) (x3 : Int) (x4 : Int) (g : AG) : Option (Int × AG) :=
  (if nw (M_isPoint x1) = 0 then some ((-1), g) else (if nw (M_isPoint x2) = 0 then some ((-1), g) else (if nw (M_isIn x3 0 9) = 0 then some ((-1), g) else (if nw (M_isIn x4 2 12) = 0 then some ((-1), g) else (if nw (g 117 65) = 8 then some ((-1), g) else if 0 ≤ nw (g 117 65) ∧ nw (g 117 65) < 8 then (some (up g 162 (ix (g 117 65)) x1) >>= fun (g7 : AG) => if 0 ≤ nw (g7 117 65) ∧ nw (g7 117 65) < 8 then (some (up g7 163 (ix (g7 117 65)) x2) >>= fun (g10 : AG) => if 0 ≤ nw (g10 117 65) ∧ nw (g10 117 65) < 8 then (some (up g10 164 (ix (g10 117 65)) x3) >>= fun (g13 : AG) => if 0 ≤ nw (g13 117 65) ∧ nw (g13 117 65) < 8 then (some (up g13 165 (ix (g13 117 65)) x4) >>= fun (g16 : AG) => (some (up g16 117 65 ((g16 117 65) + 1)) >>= fun (g18 : AG) => some (((g18 117 65) - 1), g18))) else none) else none) else none) else none)))))
set_option synthInstance.maxHeartbeats 2000000 in
def M_asks_b (x1 : Int) (x2 : Int) (g : AG) : Option (Int × AG) :=
  (if nw x1 ≤ nw x2 then some (0, g) else if 0 ≤ nw x2 ∧ nw x2 < 10 then if 0 ≤ nw x2 ∧ nw x2 < 4 then (some (up g 171 (ix x2) (g 124 (ix x2))) >>= fun (g4 : AG) => (some (up g4 172 (ix x2) (g4 126 (ix x2))) >>= fun (g6 : AG) => M_asks_b x1 (x2 + 1) g6)) else none else none)
partial_fixpoint
def M_asks (x1 : Int) (g : AG) : Option (Int × AG) :=
  M_asks_b x1 0 g
set_option synthInstance.maxHeartbeats 2000000 in
def M_sorts_b (tag : Nat) (x1 : Int) (x2 : Int) (g : AG) : Option (Int × AG) :=
  (if tag = 1 then (if nw (g 117 65) ≤ nw x1 then some (0, g) else M_sorts_b 2 x1 x1 g) else (if tag = 2 then (if nw x2 ≤ 0 then M_sorts_b 3 x1 x2 g else if 0 ≤ nw (x2 - 1) ∧ nw (x2 - 1) < 8 then if 0 ≤ nw (g 166 (ix (x2 - 1))) ∧ nw (g 166 (ix (x2 - 1))) < 8 then if 0 ≤ nw x1 ∧ nw x1 < 8 then (if nw (g 164 (ix (g 166 (ix (x2 - 1))))) ≤ nw (g 164 (ix x1)) then M_sorts_b 3 x1 x2 g else if 0 ≤ nw x2 ∧ nw x2 < 8 then (some (up g 166 (ix x2) (g 166 (ix (x2 - 1)))) >>= fun (g7 : AG) => M_sorts_b 2 x1 (x2 + (-1)) g7) else none) else none else none else none) else (if tag = 3 then if 0 ≤ nw x2 ∧ nw x2 < 8 then (some (up g 166 (ix x2) x1) >>= fun (g2 : AG) => M_sorts_b 1 (x1 + 1) x2 g2) else none else none)))
partial_fixpoint
def M_sorts (g : AG) : Option (Int × AG) :=
  M_sorts_b 1 0 0 g
set_option synthInstance.maxHeartbeats 2000000 in
def M_gives_b (rec : Int → Int → Int → AG → Option (Int × AG)) (x1 : Int) (x2 : Int) (x3 : Int) (tag : Nat) (x4 : Int) (x5 : Int) (g : AG) : Option (Int × AG) :=
  (if tag = 1 then (if nw x2 ≤ nw x5 then (if nw x3 < nw (g 117 66) then some (0, g) else (if nw x3 = nw (g 117 66) then (if nw (g 117 67) < nw x4 then M_gives_b rec x1 x2 x3 2 x4 x5 g else some (0, g)) else M_gives_b rec x1 x2 x3 2 x4 x5 g)) else if 0 ≤ nw x5 ∧ nw x5 < 4 then (some ((if nw (g 169 (ix x5)) = nw (g 172 (ix x5)) then 1 else 0)) >>= fun (t6 : Int) => M_gives_b rec x1 x2 x3 1 (x4 + t6) (x5 + 1) g) else none) else (if tag = 2 then (some (up g 117 66 x3) >>= fun (g1 : AG) => (some (up g1 117 67 x4) >>= fun (g3 : AG) => M_gives_b rec x1 x2 x3 3 x4 0 g3)) else (if tag = 3 then (if nw (g 117 65) ≤ nw x5 then some (0, g) else if 0 ≤ nw x5 ∧ nw x5 < 8 then (some (up g 168 (ix x5) (g 167 (ix x5))) >>= fun (g3 : AG) => M_gives_b rec x1 x2 x3 3 x4 (x5 + 1) g3) else none) else (if tag = 4 then (if nw x2 ≤ nw x5 then if 0 ≤ nw x4 ∧ nw x4 < 8 then (some (up g 167 (ix x4) (-1)) >>= fun (g3 : AG) => (rec (x1 + 1) x2 x3 g3 >>= fun (r5 : Int × AG) => some (0, r5.2))) else none else if 0 ≤ nw x5 ∧ nw x5 < 4 then if 0 ≤ nw x4 ∧ nw x4 < 8 then (((if nw (g 171 (ix x5)) < nw (g 165 (ix x4)) then some g else (if nw (g 169 (ix x5)) = nw (g 162 (ix x4)) then (if nw (g 170 (ix x5)) = nw (g 164 (ix x4)) then some g else (some (up g 169 (ix x5) (g 163 (ix x4))) >>= fun (g12 : AG) => (some (up g12 170 (ix x5) (g12 164 (ix x4))) >>= fun (g14 : AG) => (some (up g14 167 (ix x4) x5) >>= fun (g16 : AG) => (rec (x1 + 1) x2 (x3 + 1) g16 >>= fun (r18 : Int × AG) => (some (up r18.2 169 (ix x5) (g 169 (ix x5))) >>= fun (g20 : AG) => (some (up g20 170 (ix x5) (g 170 (ix x5))) >>= fun (g22 : AG) => some g22))))))) else some g)) : Option (AG)) >>= fun (r24 : AG) => M_gives_b rec x1 x2 x3 4 x4 (x5 + 1) r24) else none else none) else none))))
partial_fixpoint
def M_gives_s (rec : Int → Int → Int → AG → Option (Int × AG)) (x1 : Int) (x2 : Int) (x3 : Int) (g : AG) : Option (Int × AG) :=
  (if nw x1 = nw (g 117 65) then M_gives_b rec 0 x2 x3 1 0 0 g else if 0 ≤ nw x1 ∧ nw x1 < 8 then M_gives_b rec x1 x2 x3 4 (g 166 (ix x1)) 0 g else none)
def M_gives : Nat → Int → Int → Int → AG → Option (Int × AG)
  | 0 => fun _ _ _ _ => none
  | n + 1 => fun x1 x2 x3 g => M_gives_s (M_gives n) x1 x2 x3 g
set_option synthInstance.maxHeartbeats 2000000 in
def M_givesBest_b (x1 : Int) (x2 : Int) (g : AG) : Option (Int × AG) :=
  (if nw x1 ≤ nw x2 then (some (up g 117 66 (-1)) >>= fun (g2 : AG) => (some (up g2 117 67 (-1)) >>= fun (g4 : AG) => (M_gives 10 0 x1 0 g4 >>= fun (r6 : Int × AG) => some (0, r6.2)))) else if 0 ≤ nw x2 ∧ nw x2 < 4 then (some (up g 169 (ix x2) (g 172 (ix x2))) >>= fun (g9 : AG) => (some (up g9 170 (ix x2) (-1)) >>= fun (g11 : AG) => M_givesBest_b x1 (x2 + 1) g11)) else none)
partial_fixpoint
def M_givesBest (x1 : Int) (g : AG) : Option (Int × AG) :=
  (M_sorts g >>= fun (r1 : Int × AG) => M_givesBest_b x1 0 r1.2)
set_option synthInstance.maxHeartbeats 2000000 in
def M_given_b (x1 : Int) (x2 : Int) (g : AG) : Option (Int × AG) :=
  (M_asks x1 g >>= fun (r1 : Int × AG) => (M_givesBest x1 r1.2 >>= fun (r3 : Int × AG) => (((if nw x2 = 0 then some ((r3.2 117 66), r3.2) else (if nw x2 = 1 then some ((r3.2 117 67), r3.2) else if 0 ≤ nw (x2 - 10) ∧ nw (x2 - 10) < 8 then some ((r3.2 168 (ix (x2 - 10))), r3.2) else none)) : Option (Int × AG)) >>= fun (r8 : Int × AG) => some (r8.1, r8.2))))
partial_fixpoint
def M_given (x1 : Int) (x2 : Int) (g : AG) : Option (Int × AG) :=
  (if nw (M_isIn x1 1 4) = 0 then some ((-1), g) else (if nw (g 117 12) < nw x1 then some ((-1), g) else (if nw (M_isIn x2 0 1) = 0 then (if nw (M_isIn x2 10 (9 + (g 117 65))) = 0 then some ((-1), g) else M_given_b x1 x2 g) else M_given_b x1 x2 g)))
def M_more (x1 : Int) (x2 : Int) (x3 : Int) (g : AG) : Option (Int × AG) :=
  (if nw (M_isIn x1 1 3) = 0 then some ((-1), g) else (if nw (g 117 12) < nw x1 then some ((-1), g) else (if nw (M_isIn x2 2 12) = 0 then some ((-1), g) else (if nw (M_isPoint x3) = 0 then some ((-1), g) else (M_asks x1 g >>= fun (r5 : Int × AG) => (M_givesBest x1 r5.2 >>= fun (r7 : Int × AG) => if 0 ≤ nw x1 ∧ nw x1 < 4 then (some (up r7.2 171 (ix x1) x2) >>= fun (g10 : AG) => (some (up g10 172 (ix x1) x3) >>= fun (g12 : AG) => (M_givesBest (x1 + 1) g12 >>= fun (r14 : Int × AG) => some (((r14.2 117 66) - (r7.2 117 66)), r14.2)))) else none))))))
set_option synthInstance.maxHeartbeats 2000000 in
def M_gas_b (x1 : Int) (x2 : Int) (x3 : Int) (tag : Nat) (x4 : Int) (x5 : Int) (g : AG) : Option (Int × AG) :=
  (if tag = 1 then (if nw (g 117 12) ≤ nw x5 then (if nw x3 = 0 then M_gas_b x1 x2 x3 2 x4 x5 g else (if nw x4 = 7 then some (0, g) else M_gas_b x1 x2 x3 2 x4 x5 g)) else (((if nw x5 = nw x1 then some (0, g) else if 0 ≤ nw x5 ∧ nw x5 < 10 then (some ((if nw (g 174 (ix x5)) ≤ 0 then 0 else 1)) >>= fun (t6 : Int) => some (t6, g)) else none) : Option (Int × AG)) >>= fun (r9 : Int × AG) => M_gas_b x1 x2 x3 1 (x4 + r9.1) (x5 + 1) r9.2)) else (if tag = 2 then if 0 ≤ nw x1 ∧ nw x1 < 10 then (some (up g 173 (ix x1) x2) >>= fun (g2 : AG) => (some (up g2 174 (ix x1) x3) >>= fun (g4 : AG) => some (1, g4))) else none else none))
partial_fixpoint
def M_gas (x1 : Int) (x2 : Int) (x3 : Int) (g : AG) : Option (Int × AG) :=
  (if nw (M_isBoat x1 g) = 0 then some (0, g) else (if nw (M_isIn x2 0 999) = 0 then some (0, g) else (if nw (M_isIn x3 0 60) = 0 then some (0, g) else M_gas_b x1 x2 x3 1 0 0 g)))
set_option synthInstance.maxHeartbeats 2000000 in
def M_docksOn_b (rec : Int → Int → Int → Int → Int → AG → Option (Int × AG)) (x1 : Int) (x2 : Int) (x3 : Int) (x4 : Int) (x5 : Int) (tag : Nat) (x6 : Int) (g : AG) : Option (Int × AG) :=
  (if tag = 1 then (some (up g 117 85 x4) >>= fun (g1 : AG) => (some (up g1 117 86 x5) >>= fun (g3 : AG) => M_docksOn_b rec x1 x2 x3 x4 x5 2 0 g3)) else (if tag = 2 then (if nw (g 117 84) ≤ nw x6 then some (0, g) else if 0 ≤ nw x6 ∧ nw x6 < 7 then (some (up g 177 (ix x6) (g 176 (ix x6))) >>= fun (g3 : AG) => M_docksOn_b rec x1 x2 x3 x4 x5 2 (x6 + 1) g3) else none) else (if tag = 3 then (if nw (g 117 84) ≤ nw x6 then some (0, g) else (((if nw (andI (shrI x2 x6) 1) = 1 then some g else if 0 ≤ nw x6 ∧ nw x6 < 7 then if 0 ≤ nw (g 175 (ix x6)) ∧ nw (g 175 (ix x6)) < 10 then if 0 ≤ nw x1 ∧ nw x1 < 7 then (some (up g 176 (ix x1) (g 175 (ix x6))) >>= fun (g6 : AG) => (some ((if nw (x3 + (g 174 (ix (g 175 (ix x6))))) ≤ nw (g6 173 (ix (g 175 (ix x6)))) then 0 else 1)) >>= fun (t8 : Int) => (rec (x1 + 1) (orI x2 (shlI 1 x6)) (x3 + (g 174 (ix (g 175 (ix x6))))) (x4 + t8) (x5 + (x3 + (g 174 (ix (g 175 (ix x6)))))) g6 >>= fun (r10 : Int × AG) => some r10.2))) else none else none else none) : Option (AG)) >>= fun (r13 : AG) => M_docksOn_b rec x1 x2 x3 x4 x5 3 (x6 + 1) r13)) else none)))
partial_fixpoint
def M_docksOn_s (rec : Int → Int → Int → Int → Int → AG → Option (Int × AG)) (x1 : Int) (x2 : Int) (x3 : Int) (x4 : Int) (x5 : Int) (g : AG) : Option (Int × AG) :=
  (if nw x1 = nw (g 117 84) then (if nw (g 117 85) = (-1) then M_docksOn_b rec 0 0 0 x4 x5 1 0 g else (if nw (g 117 85) < nw x4 then some (0, g) else (if nw x4 = nw (g 117 85) then (if nw x5 < nw (g 117 86) then M_docksOn_b rec 0 0 0 x4 x5 1 0 g else some (0, g)) else M_docksOn_b rec 0 0 0 x4 x5 1 0 g))) else M_docksOn_b rec x1 x2 x3 x4 x5 3 0 g)
def M_docksOn : Nat → Int → Int → Int → Int → Int → AG → Option (Int × AG)
  | 0 => fun _ _ _ _ _ _ => none
  | n + 1 => fun x1 x2 x3 x4 x5 g => M_docksOn_s (M_docksOn n) x1 x2 x3 x4 x5 g
set_option synthInstance.maxHeartbeats 2000000 in
def M_dock_b (x1 : Int) (x2 : Int) (g : AG) : Option (Int × AG) :=
  (if nw (g 117 12) ≤ nw x2 then (some (up g 117 85 (-1)) >>= fun (g2 : AG) => (M_docksOn 9 0 0 0 0 0 g2 >>= fun (r4 : Int × AG) => (if nw (M_isIn x1 10 (9 + (r4.2 117 84))) = 0 then (some ((if nw x1 = 0 then (r4.2 117 85) else (if nw x1 = 1 then (r4.2 117 86) else (if nw x1 = 2 then (r4.2 117 84) else (-1))))) >>= fun (t7 : Int) => some (t7, r4.2)) else if 0 ≤ nw (x1 - 10) ∧ nw (x1 - 10) < 7 then some ((r4.2 177 (ix (x1 - 10))), r4.2) else none))) else if 0 ≤ nw x2 ∧ nw x2 < 10 then (((if nw (g 174 (ix x2)) = 0 then some g else if 0 ≤ nw (g 117 84) ∧ nw (g 117 84) < 7 then (some (up g 175 (ix (g 117 84)) x2) >>= fun (g16 : AG) => (some (up g16 117 84 ((g16 117 84) + 1)) >>= fun (g18 : AG) => some g18)) else none) : Option (AG)) >>= fun (r20 : AG) => M_dock_b x1 (x2 + 1) r20) else none)
partial_fixpoint
def M_dock (x1 : Int) (g : AG) : Option (Int × AG) :=
  (some (up g 117 84 0) >>= fun (g1 : AG) => M_dock_b x1 0 g1)
def M_job (x1 : Int) (g : AG) : Option (Int × AG) :=
  (if nw x1 = 0 then (some (up g 117 87 0) >>= fun (g9 : AG) => some (0, g9)) else (if nw (M_isIn x1 1 300) = 0 then some ((-1), g) else (if nw (g 117 87) = 8 then some ((-1), g) else if 0 ≤ nw (g 117 87) ∧ nw (g 117 87) < 8 then (some (up g 178 (ix (g 117 87)) x1) >>= fun (g5 : AG) => (some (up g5 117 87 ((g5 117 87) + 1)) >>= fun (g7 : AG) => some ((g7 117 87), g7))) else none)))
set_option synthInstance.maxHeartbeats 2000000 in
def M_lastEnd_b (x1 : Int) (g : AG) (x2 : Int) (x3 : Int) : Option Int :=
  (if nw x1 ≤ nw x3 then some x2 else if 0 ≤ nw x3 ∧ nw x3 < 3 then (((if nw (g 179 (ix x3)) ≤ nw x2 then some (x2) else some ((g 179 (ix x3)))) : Option (Int)) >>= fun (r4 : Int) => M_lastEnd_b x1 g r4 (x3 + 1)) else none)
partial_fixpoint
def M_lastEnd (x1 : Int) (g : AG) : Option Int :=
  M_lastEnd_b x1 g 600 0
set_option synthInstance.maxHeartbeats 2000000 in
def M_worked_b (x1 : Int) (tag : Nat) (x2 : Int) (x3 : Int) (x4 : Int) (g : AG) : Option (Int × AG) :=
  (if tag = 1 then (if nw x1 ≤ nw x2 then M_worked_b x1 2 0 x3 x4 g else if 0 ≤ nw x2 ∧ nw x2 < 3 then (some (up g 179 (ix x2) 600) >>= fun (g3 : AG) => M_worked_b x1 1 (x2 + 1) x3 x4 g3) else none) else (if tag = 2 then (if nw (g 117 87) ≤ nw x2 then (M_lastEnd x1 g >>= fun (r2 : Int) => some (r2, g)) else M_worked_b x1 3 x2 0 1 g) else (if tag = 3 then (if nw x1 ≤ nw x4 then if 0 ≤ nw x3 ∧ nw x3 < 3 then if 0 ≤ nw x2 ∧ nw x2 < 8 then (some (up g 179 (ix x3) ((g 179 (ix x3)) + (g 178 (ix x2)))) >>= fun (g4 : AG) => (some ((if nw (g4 179 (ix x3)) ≤ 900 then 0 else 1)) >>= fun (t6 : Int) => (some (up g4 117 90 ((g4 117 90) + t6)) >>= fun (g8 : AG) => M_worked_b x1 2 (x2 + 1) x3 x4 g8))) else none else none else if 0 ≤ nw x4 ∧ nw x4 < 3 then if 0 ≤ nw x3 ∧ nw x3 < 3 then (some ((if nw (g 179 (ix x3)) ≤ nw (g 179 (ix x4)) then x3 else x4)) >>= fun (t13 : Int) => M_worked_b x1 3 x2 t13 (x4 + 1) g) else none else none) else none)))
partial_fixpoint
def M_worked (x1 : Int) (g : AG) : Option (Int × AG) :=
  (some (up g 117 90 0) >>= fun (g1 : AG) => M_worked_b x1 1 0 0 0 g1)
set_option synthInstance.maxHeartbeats 2000000 in
def M_handOf_b (x2 : Int) (x3 : Int) (g : AG) (x4 : Int) (x5 : Int) : Option Int :=
  (if nw x5 ≤ nw x2 then if ¬ nw x3 = 0 then some ((nw x4).tmod (nw x3)) else none else if ¬ nw x3 = 0 then M_handOf_b x2 x3 g ((nw x4).tdiv (nw x3)) (x5 + (-1)) else none)
partial_fixpoint
def M_handOf (x1 : Int) (x2 : Int) (x3 : Int) (g : AG) : Option Int :=
  M_handOf_b x2 x3 g x1 ((g 117 87) - 1)
set_option synthInstance.maxHeartbeats 2000000 in
def M_turned_b (x1 : Int) (x2 : Int) (tag : Nat) (p : Int × Int × Int × Int × Int × Int) (g : AG) : Option (Int × AG) :=
  (if tag = 1 then (M_worked x1 g >>= fun (r1 : Int × AG) => (if nw x2 = 0 then M_turned_b x1 x2 2 (r1.1, p.2.1, p.2.2.1, p.2.2.2.1, p.2.2.2.2.1, p.2.2.2.2.2) r1.2 else (if nw x2 = 2 then M_turned_b x1 x2 2 (r1.1, p.2.1, p.2.2.1, p.2.2.2.1, p.2.2.2.2.1, p.2.2.2.2.2) r1.2 else M_turned_b x1 x2 3 (p.1, 1, 0, p.2.2.2.1, p.2.2.2.2.1, p.2.2.2.2.2) r1.2))) else (if tag = 2 then (some ((if nw x2 = 0 then p.1 else (g 117 90))) >>= fun (t1 : Int) => some (t1, g)) else (if tag = 3 then (if nw (g 117 87) ≤ nw p.2.2.1 then M_turned_b x1 x2 4 (p.1, p.2.1, (-1), 0, 0, p.2.2.2.2.2) g else M_turned_b x1 x2 3 (p.1, (p.2.1 * x1), (p.2.2.1 + 1), p.2.2.2.1, p.2.2.2.2.1, p.2.2.2.2.2) g) else (if tag = 4 then (if nw p.2.1 ≤ nw p.2.2.2.2.1 then (((if nw x2 = 1 then some (p.2.2.1, g) else (M_handOf p.2.2.2.1 (x2 - 10) x1 g >>= fun (r3 : Int) => some (r3, g))) : Option (Int × AG)) >>= fun (r5 : Int × AG) => some (r5.1, r5.2)) else M_turned_b x1 x2 5 (p.1, p.2.1, p.2.2.1, p.2.2.2.1, p.2.2.2.2.1, 0) g) else (if tag = 5 then (if nw x1 ≤ nw p.2.2.2.2.2 then M_turned_b x1 x2 6 (p.1, p.2.1, p.2.2.1, p.2.2.2.1, p.2.2.2.2.1, 0) g else if 0 ≤ nw p.2.2.2.2.2 ∧ nw p.2.2.2.2.2 < 3 then (some (up g 179 (ix p.2.2.2.2.2) 600) >>= fun (g3 : AG) => M_turned_b x1 x2 5 (p.1, p.2.1, p.2.2.1, p.2.2.2.1, p.2.2.2.2.1, (p.2.2.2.2.2 + 1)) g3) else none) else (if tag = 6 then (if nw (g 117 87) ≤ nw p.2.2.2.2.2 then (M_lastEnd x1 g >>= fun (r2 : Int) => (((if nw p.2.2.1 = (-1) then some (r2, p.2.2.2.2.1, g) else (if nw r2 < nw p.2.2.1 then some (r2, p.2.2.2.2.1, g) else some (p.2.2.1, p.2.2.2.1, g))) : Option (Int × Int × AG)) >>= fun (r6 : Int × Int × AG) => M_turned_b x1 x2 4 (p.1, p.2.1, r6.1, r6.2.1, (p.2.2.2.2.1 + 1), p.2.2.2.2.2) r6.2.2)) else (M_handOf p.2.2.2.2.1 p.2.2.2.2.2 x1 g >>= fun (r8 : Int) => if 0 ≤ nw r8 ∧ nw r8 < 3 then if 0 ≤ nw p.2.2.2.2.2 ∧ nw p.2.2.2.2.2 < 8 then (some (up g 179 (ix r8) ((g 179 (ix r8)) + (g 178 (ix p.2.2.2.2.2)))) >>= fun (g12 : AG) => M_turned_b x1 x2 6 (p.1, p.2.1, p.2.2.1, p.2.2.2.1, p.2.2.2.2.1, (p.2.2.2.2.2 + 1)) g12) else none else none)) else none))))))
partial_fixpoint
def M_turned (x1 : Int) (x2 : Int) (g : AG) : Option (Int × AG) :=
  (if nw (M_isIn x1 1 3) = 0 then some ((-1), g) else (if nw (M_isIn x2 0 2) = 0 then (if nw (M_isIn x2 10 (9 + (g 117 87))) = 0 then some ((-1), g) else M_turned_b x1 x2 1 (0, 0, 0, 0, 0, 0) g) else M_turned_b x1 x2 1 (0, 0, 0, 0, 0, 0) g))
def M_weight (x1 : Int) (x2 : Int) (g : AG) : Option (Int × AG) :=
  (if nw (M_isPoint x1) = 0 then some (0, g) else (if nw (M_isIn x2 0 99) = 0 then some (0, g) else if 0 ≤ nw x1 ∧ nw x1 < 16 then (some (up g 180 (ix x1) x2) >>= fun (g4 : AG) => some (1, g4)) else none))
set_option synthInstance.maxHeartbeats 2000000 in
def M_drive_b (x1 : Int) (x2 : Int) (g : AG) (x3 : Int) (x4 : Int) : Option Int :=
  (some ((if nw x2 ≤ nw x1 then x1 else x2)) >>= fun (t1 : Int) => (if nw t1 ≤ nw x4 then some x3 else if 0 ≤ nw x4 ∧ nw x4 < 15 then M_drive_b x1 x2 g (x3 + (g 120 (ix x4))) (x4 + 1) else none))
partial_fixpoint
def M_drive (x1 : Int) (x2 : Int) (g : AG) : Option Int :=
  (some ((if nw x2 ≤ nw x1 then x2 else x1)) >>= fun (t1 : Int) => M_drive_b x1 x2 g 0 t1)
set_option synthInstance.maxHeartbeats 2000000 in
def M_worstOf_b (x1 : Int) (g : AG) (x2 : Int) (x3 : Int) : Option Int :=
  (if 16 ≤ nw x3 then some x2 else if 0 ≤ nw x3 ∧ nw x3 < 16 then (((if nw (g 180 (ix x3)) ≤ 0 then some (x2) else (M_drive x1 x3 g >>= fun (r4 : Int) => (if nw r4 ≤ nw x2 then some (x2) else (M_drive x1 x3 g >>= fun (r7 : Int) => some (r7))))) : Option (Int)) >>= fun (r9 : Int) => M_worstOf_b x1 g r9 (x3 + 1)) else none)
partial_fixpoint
def M_worstOf (x1 : Int) (g : AG) : Option Int :=
  M_worstOf_b x1 g 0 0
set_option synthInstance.maxHeartbeats 2000000 in
def M_sumOf_b (x1 : Int) (g : AG) (x2 : Int) (x3 : Int) : Option Int :=
  (if 16 ≤ nw x3 then some x2 else if 0 ≤ nw x3 ∧ nw x3 < 16 then (M_drive x1 x3 g >>= fun (r3 : Int) => M_sumOf_b x1 g (x2 + ((g 180 (ix x3)) * r3)) (x3 + 1)) else none)
partial_fixpoint
def M_sumOf (x1 : Int) (g : AG) : Option Int :=
  M_sumOf_b x1 g 0 0
set_option synthInstance.maxHeartbeats 2000000 in
def M_van_b (x1 : Int) (g : AG) (x2 : Int) (x3 : Int) : Option Int :=
  (if 16 ≤ nw x3 then (((if nw x1 = 0 then some (x2) else (if nw x1 = 1 then (M_sumOf x2 g >>= fun (r6 : Int) => some (r6)) else (M_worstOf x2 g >>= fun (r4 : Int) => some (r4)))) : Option (Int)) >>= fun (r8 : Int) => some r8) else (M_sumOf x3 g >>= fun (r10 : Int) => (M_sumOf x2 g >>= fun (r12 : Int) => (some ((if nw r12 ≤ nw r10 then x2 else x3)) >>= fun (t14 : Int) => M_van_b x1 g t14 (x3 + 1)))))
partial_fixpoint
def M_van (x1 : Int) (g : AG) : Option Int :=
  (if nw (M_isIn x1 100 115) = 0 then (if nw (M_isIn x1 200 215) = 0 then (if nw (M_isIn x1 0 2) = 0 then some (-1) else M_van_b x1 g 0 1) else (M_worstOf (x1 - 200) g >>= fun (r4 : Int) => some r4)) else (M_sumOf (x1 - 100) g >>= fun (r6 : Int) => some r6))
def M_nearer (x1 : Int) (x2 : Int) (x3 : Int) (g : AG) : Option Int :=
  (M_drive x1 x3 g >>= fun (r1 : Int) => (M_drive x2 x3 g >>= fun (r3 : Int) => (((if nw r3 ≤ nw r1 then (M_drive x2 x3 g >>= fun (r6 : Int) => some (r6)) else (M_drive x1 x3 g >>= fun (r8 : Int) => some (r8))) : Option (Int)) >>= fun (r10 : Int) => some r10)))
set_option synthInstance.maxHeartbeats 2000000 in
def M_vans_b (x1 : Int) (g : AG) (tag : Nat) (x2 : Int) (x3 : Int) (x4 : Int) (x5 : Int) (x6 : Int) (x7 : Int) : Option Int :=
  (if tag = 1 then (if 16 ≤ nw x4 then (some ((if nw x1 = 0 then x2 else x3)) >>= fun (t2 : Int) => some t2) else M_vans_b x1 g 2 x2 x3 x4 x4 x6 x7) else (if tag = 2 then (if 16 ≤ nw x5 then M_vans_b x1 g 1 x2 x3 (x4 + 1) x5 x6 x7 else M_vans_b x1 g 3 x2 x3 x4 x5 0 0) else (if tag = 3 then (if 16 ≤ nw x7 then (((if nw x2 = (-1) then some (((16 * x4) + x5), x6) else (if nw x6 < nw x3 then some (((16 * x4) + x5), x6) else some (x2, x3))) : Option (Int × Int)) >>= fun (r4 : Int × Int) => M_vans_b x1 g 2 r4.1 r4.2 x4 (x5 + 1) x6 x7) else if 0 ≤ nw x7 ∧ nw x7 < 16 then (M_nearer x4 x5 x7 g >>= fun (r7 : Int) => M_vans_b x1 g 3 x2 x3 x4 x5 (x6 + ((g 180 (ix x7)) * r7)) (x7 + 1)) else none) else none)))
partial_fixpoint
def M_vans (x1 : Int) (g : AG) : Option Int :=
  (if nw (M_isIn x1 0 1) = 0 then some (-1) else M_vans_b x1 g 1 (-1) 0 0 0 0 0)
set_option synthInstance.maxHeartbeats 2000000 in
def M_call_b (x1 : Int) (x2 : Int) (x3 : Int) (g : AG) : Option (Int × AG) :=
  if 0 ≤ nw (g 117 92) ∧ nw (g 117 92) < 12 then (some (up g 181 (ix (g 117 92)) x1) >>= fun (g2 : AG) => if 0 ≤ nw (g2 117 92) ∧ nw (g2 117 92) < 12 then (some (up g2 182 (ix (g2 117 92)) x2) >>= fun (g5 : AG) => if 0 ≤ nw (g5 117 92) ∧ nw (g5 117 92) < 12 then (some (up g5 183 (ix (g5 117 92)) x3) >>= fun (g8 : AG) => (some (up g8 117 92 ((g8 117 92) + 1)) >>= fun (g10 : AG) => some ((g10 117 92), g10))) else none) else none) else none
partial_fixpoint
def M_call (x1 : Int) (x2 : Int) (x3 : Int) (g : AG) : Option (Int × AG) :=
  (if nw x3 = 0 then (some (up g 117 92 0) >>= fun (g9 : AG) => some (0, g9)) else (if nw (M_isIn x1 0 9999) = 0 then some ((-1), g) else (if nw (M_isPoint x2) = 0 then some ((-1), g) else (if nw (M_isIn x3 1 300) = 0 then some ((-1), g) else (if nw (g 117 92) = 12 then some ((-1), g) else (if nw (g 117 92) ≤ 0 then M_call_b x1 x2 x3 g else if 0 ≤ nw ((g 117 92) - 1) ∧ nw ((g 117 92) - 1) < 12 then (if nw (g 181 (ix ((g 117 92) - 1))) ≤ nw x1 then M_call_b x1 x2 x3 g else some ((-1), g)) else none))))))
def M_arrives (x1 : Int) (x2 : Int) (g : AG) : Option Int :=
  if 0 ≤ nw x1 ∧ nw x1 < 2 then if 0 ≤ nw x2 ∧ nw x2 < 12 then (((if nw (g 185 (ix x1)) ≤ nw (g 181 (ix x2)) then some ((g 181 (ix x2))) else some ((g 185 (ix x1)))) : Option (Int)) >>= fun (r4 : Int) => (M_drive (g 184 (ix x1)) (g 182 (ix x2)) g >>= fun (r6 : Int) => some (r4 + r6))) else none else none
set_option synthInstance.maxHeartbeats 2000000 in
def M_taken_b (x1 : Int) (x2 : Int) (x3 : Int) (tag : Nat) (x4 : Int) (x5 : Int) (x6 : Int) (x7 : Int) (g : AG) : Option (Int × AG) :=
  (if tag = 1 then (some (up g 184 (ix 0) x1) >>= fun (g1 : AG) => (some (up g1 184 (ix 1) x2) >>= fun (g3 : AG) => (some (up g3 185 (ix 0) 0) >>= fun (g5 : AG) => (some (up g5 185 (ix 1) 0) >>= fun (g7 : AG) => M_taken_b x1 x2 x3 2 0 0 0 0 g7)))) else (if tag = 2 then (if nw (g 117 92) ≤ nw x7 then (some ((if nw x3 = 0 then x4 else (if nw x3 = 1 then x5 else x6))) >>= fun (t2 : Int) => some (t2, g)) else (M_arrives 1 x7 g >>= fun (r6 : Int) => (M_arrives 0 x7 g >>= fun (r8 : Int) => (some ((if nw r8 ≤ nw r6 then 0 else 1)) >>= fun (t10 : Int) => (if nw x3 = nw (10 + x7) then some (t10, g) else (M_arrives t10 x7 g >>= fun (r13 : Int) => if 0 ≤ nw x7 ∧ nw x7 < 12 then (((if nw (r13 - (g 181 (ix x7))) ≤ nw x5 then some (x5, g) else some ((r13 - (g 181 (ix x7))), g)) : Option (Int × AG)) >>= fun (r17 : Int × AG) => if 0 ≤ nw t10 ∧ nw t10 < 2 then (some (up r17.2 185 (ix t10) (r13 + (r17.2 183 (ix x7)))) >>= fun (g20 : AG) => (some (up g20 184 (ix t10) (g20 182 (ix x7))) >>= fun (g22 : AG) => (((if nw (g22 185 (ix t10)) ≤ nw x6 then some (x6, g22) else some ((g22 185 (ix t10)), g22)) : Option (Int × AG)) >>= fun (r25 : Int × AG) => M_taken_b x1 x2 x3 2 (x4 + (r13 - (g 181 (ix x7)))) r17.1 r25.1 (x7 + 1) r25.2))) else none) else none)))))) else none))
partial_fixpoint
def M_taken (x1 : Int) (x2 : Int) (x3 : Int) (g : AG) : Option (Int × AG) :=
  (if nw (M_isPoint x1) = 0 then some ((-1), g) else (if nw (M_isPoint x2) = 0 then some ((-1), g) else (if nw (M_isIn x3 0 2) = 0 then (if nw (M_isIn x3 10 (9 + (g 117 92))) = 0 then some ((-1), g) else M_taken_b x1 x2 x3 1 0 0 0 0 g) else M_taken_b x1 x2 x3 1 0 0 0 0 g)))
def M_canAsk (x0 : Int) (x1 : Int) (x2 : Int) (x3 : Int) : Int :=
  (if nw (M_isIn x0 0 99) = 0 then 0 else (if nw (M_isIn x1 0 100) = 0 then 0 else (if nw (M_isIn x2 0 99) = 0 then 0 else (if nw (M_isIn x3 0 999) = 0 then 0 else 1))))
theorem M_canAsk_01 {x0 : Int} {x1 : Int} {x2 : Int} {x3 : Int} : (M_canAsk x0 x1 x2 x3) = 0 ∨ (M_canAsk x0 x1 x2 x3) = 1 := by
  unfold M_canAsk
  (repeat' split) <;> first | exact Or.inl rfl | exact Or.inr rfl | exact M_isIn_01
set_option synthInstance.maxHeartbeats 2000000 in
def M_starts_b (x1 : Int) (g : AG) : Option (Int × AG) :=
  (if 1000 ≤ nw x1 then some (0, g) else (some ((if nw x1 = nw (g 117 10) then 1000000 else 0)) >>= fun (t2 : Int) => if 0 ≤ nw x1 ∧ nw x1 < 1000 then (some (up g 186 (ix x1) t2) >>= fun (g5 : AG) => M_starts_b (x1 + 1) g5) else none))
partial_fixpoint
def M_starts (g : AG) : Option (Int × AG) :=
  M_starts_b 0 g
def M_falls (x1 : Int) (x2 : Int) (x3 : Int) (g : AG) : Option (Int × AG) :=
  (some ((if nw x1 ≤ 999 then x1 else 999)) >>= fun (t1 : Int) => (((if nw t1 < nw x2 then some g else if 0 ≤ nw t1 ∧ nw t1 < 1000 then (some (up g 187 (ix t1) ((g 187 (ix t1)) + x3)) >>= fun (g5 : AG) => some g5) else none) : Option (AG)) >>= fun (r7 : AG) => some (0, r7)))
set_option synthInstance.maxHeartbeats 2000000 in
def M_aDay_b (x1 : Int) (x2 : Int) (x3 : Int) (x4 : Int) (tag : Nat) (x5 : Int) (g : AG) : Option (Int × AG) :=
  (if tag = 1 then (if 1000 ≤ nw x5 then M_aDay_b x1 x2 x3 x4 2 0 g else if 0 ≤ nw x5 ∧ nw x5 < 1000 then (some (up g 187 (ix x5) 0) >>= fun (g3 : AG) => M_aDay_b x1 x2 x3 x4 1 (x5 + 1) g3) else none) else (if tag = 2 then (if 1000 ≤ nw x5 then M_aDay_b x1 x2 x3 x4 3 0 g else if 0 ≤ nw x5 ∧ nw x5 < 1000 then (((if nw (g 186 (ix x5)) = 0 then some g else (some ((if nw x1 ≤ nw x5 then (x5 - x1) else 0)) >>= fun (t4 : Int) => (M_falls (t4 + x3) x4 ((nl ((nw (g 186 (ix x5))) * (nw x2))).tdiv 100) g >>= fun (r6 : Int × AG) => (M_falls t4 x4 ((r6.2 186 (ix x5)) - ((nl ((nw (g 186 (ix x5))) * (nw x2))).tdiv 100)) r6.2 >>= fun (r8 : Int × AG) => some r8.2)))) : Option (AG)) >>= fun (r11 : AG) => M_aDay_b x1 x2 x3 x4 2 (x5 + 1) r11) else none) else (if tag = 3 then (if 1000 ≤ nw x5 then some (0, g) else if 0 ≤ nw x5 ∧ nw x5 < 1000 then (some (up g 186 (ix x5) (g 187 (ix x5))) >>= fun (g3 : AG) => M_aDay_b x1 x2 x3 x4 3 (x5 + 1) g3) else none) else none)))
partial_fixpoint
def M_aDay (x1 : Int) (x2 : Int) (x3 : Int) (x4 : Int) (g : AG) : Option (Int × AG) :=
  M_aDay_b x1 x2 x3 x4 1 0 g
set_option synthInstance.maxHeartbeats 2000000 in
def M_kept_b (g : AG) (x1 : Int) (x2 : Int) : Option Int :=
  (if 1000 ≤ nw x2 then some x1 else if 0 ≤ nw x2 ∧ nw x2 < 1000 then M_kept_b g (x1 + (g 186 (ix x2))) (x2 + 1) else none)
partial_fixpoint
def M_kept (g : AG) : Option Int :=
  M_kept_b g 0 0
set_option synthInstance.maxHeartbeats 2000000 in
def M_left_b (x1 : Int) (x2 : Int) (x3 : Int) (x4 : Int) (x5 : Int) (x6 : Int) (g : AG) : Option (Int × AG) :=
  (if nw x5 ≤ nw x6 then (M_kept g >>= fun (r2 : Int) => some (r2, g)) else (M_aDay x1 x2 x3 x4 g >>= fun (r4 : Int × AG) => M_left_b x1 x2 x3 x4 x5 (x6 + 1) r4.2))
partial_fixpoint
def M_left (x1 : Int) (x2 : Int) (x3 : Int) (x4 : Int) (x5 : Int) (g : AG) : Option (Int × AG) :=
  (if nw (M_canAsk x1 x2 x3 x4) = 0 then some ((-1), g) else (if nw (M_isIn x5 0 60) = 0 then some ((-1), g) else (if nw x4 ≤ nw (g 117 10) then (M_starts g >>= fun (r4 : Int × AG) => M_left_b x1 x2 x3 x4 x5 0 r4.2) else some (0, g))))
set_option synthInstance.maxHeartbeats 2000000 in
def M_shuts_b (x1 : Int) (x2 : Int) (x3 : Int) (x4 : Int) (x5 : Int) (g : AG) : Option (Int × AG) :=
  (if 60 < nw x5 then some ((-1), g) else (M_aDay x1 x2 x3 x4 g >>= fun (r2 : Int × AG) => (M_kept r2.2 >>= fun (r4 : Int) => (if 500000 ≤ nw r4 then M_shuts_b x1 x2 x3 x4 (x5 + 1) r2.2 else some (x5, r2.2)))))
partial_fixpoint
def M_shuts (x1 : Int) (x2 : Int) (x3 : Int) (x4 : Int) (g : AG) : Option (Int × AG) :=
  (if nw (M_canAsk x1 x2 x3 x4) = 0 then some ((-1), g) else (if nw x4 ≤ nw (g 117 10) then (M_starts g >>= fun (r3 : Int × AG) => M_shuts_b x1 x2 x3 x4 1 r3.2) else some (0, g)))
def M_held (x1 : Int) (x2 : Int) (x3 : Int) (x4 : Int) (g : AG) : Option (Int × AG) :=
  (if nw (M_isBoat x1 g) = 0 then some ((-1000000), g) else (if nw (M_isIn x2 0 99) = 0 then some ((-1000000), g) else (if nw (M_isIn x3 0 9) = 0 then some ((-1000000), g) else (if nw (M_isIn x4 0 9) = 0 then some ((-1000000), g) else (M_forgets g >>= fun (r5 : Int × AG) => (some (up r5.2 148 (ix 2) x4) >>= fun (g7 : AG) => (some (up g7 148 (ix 7) x2) >>= fun (g9 : AG) => (some (up g9 148 (ix 8) x3) >>= fun (g11 : AG) => if 0 ≤ nw x1 ∧ nw x1 < 10 then (some (up g11 148 (ix 6) (g11 125 (ix x1))) >>= fun (g14 : AG) => (M_serves 3 g14 >>= fun (r16 : Int × AG) => (((if nw r16.1 = (-1) then some (0, r16.2) else if 0 ≤ nw r16.1 ∧ nw r16.1 < 16 then (M_comesTo (r16.2 131 (ix r16.1)) (r16.2 132 (ix r16.1)) r16.2 >>= fun (r20 : Int × AG) => some (r20.1, r20.2)) else none) : Option (Int × AG)) >>= fun (r22 : Int × AG) => some (r22.1, r22.2)))) else none))))))))
def M_look (x1 : Int) (g : AG) : Int :=
  (if nw x1 = 0 then (g 117 12) else (if nw x1 = 1 then (g 117 49) else (if nw x1 = 2 then (g 117 65) else (if nw x1 = 3 then (g 117 87) else (if nw x1 = 4 then (g 117 59) else (if nw x1 = 5 then (g 117 11) else (if nw x1 = 6 then (g 117 10) else (if nw x1 = 7 then (g 117 92) else (-1)))))))))
def X_within (x0 : Int) (x1 : Int) (x2 : Int) : Int :=
  (if nw x0 < nw x1 then 0 else (if nw x2 < nw x0 then 0 else 1))
theorem X_within_01 {x0 : Int} {x1 : Int} {x2 : Int} : (X_within x0 x1 x2) = 0 ∨ (X_within x0 x1 x2) = 1 := by
  unfold X_within
  (repeat' split) <;> first | exact Or.inl rfl | exact Or.inr rfl
def X_stretch (x1 : Int) (x2 : Int) (x3 : Int) (x4 : Int) (g : AG) : Option (Int × AG) :=
  (if nw (X_within x1 0 14) = 0 then some (0, g) else (if nw (X_within x4 1 99) = 0 then some (0, g) else (if nw (X_within x2 0 9) = 0 then some (0, g) else (if nw (X_within x3 0 9) = 0 then some (0, g) else if 0 ≤ nw x1 ∧ nw x1 < 15 then (some (up g 13 (ix x1) x2) >>= fun (g6 : AG) => (some (up g6 14 (ix x1) x3) >>= fun (g8 : AG) => (some (up g8 15 (ix x1) x4) >>= fun (g10 : AG) => some (1, g10)))) else none))))
def Rules_askDay (x1 : Int) (x2 : Int) (g : AG) : Option (Int × AG) :=
  (some (fillG g 27 9 0) >>= fun (g1 : AG) => (some (up g1 27 (ix 0) ((nw x1).tmod 7)) >>= fun (g3 : AG) => (some (up g3 27 (ix 1) ((nw x1).tdiv 7)) >>= fun (g5 : AG) => (some (up g5 27 (ix 2) x2) >>= fun (g7 : AG) => some (0, g7)))))
def Rules_both (x0 : Int) (x1 : Int) (x2 : Int) : Int :=
  (if nw x0 = 42 then (x1 * x2) else (if nw x0 = 43 then (x1 + x2) else (if nw x0 = 45 then (x1 - x2) else (if nw x0 = 60 then (if nw x2 ≤ nw x1 then 0 else 1) else (if nw x0 = 61 then (if nw x1 = nw x2 then 1 else 0) else (if nw x0 = 62 then (if nw x1 ≤ nw x2 then 0 else 1) else (if nw x0 = 109 then (andI x1 x2) else (orI x1 x2))))))))
def Rules_askedOf (x1 : Int) (g : AG) : Option Int :=
  (((if nw (X_within x1 0 8) = 0 then some (0) else if 0 ≤ nw x1 ∧ nw x1 < 9 then some ((g 27 (ix x1))) else none) : Option (Int)) >>= fun (r3 : Int) => some r3)
def Rules_alone (x0 : Int) (x1 : Int) (x2 : Int) (g : AG) : Option Int :=
  (if nw x0 = 110 then some (1 - x1) else (((if nw x2 = 0 then some (0) else if ¬ nw x2 = 0 then some (((nw x1).tdiv (nw x2))) else none) : Option (Int)) >>= fun (r4 : Int) => some r4))
set_option synthInstance.maxHeartbeats 2000000 in
def Rules_run_b (x2 : Int) (tag : Nat) (x3 : Int) (x4 : Int) (x5 : Int) (g : AG) : Option (Int × AG) :=
  (if tag = 1 then (if nw x2 ≤ nw x4 then (((if nw x3 ≤ 0 then some (0, g) else if 0 ≤ nw (x3 - 1) ∧ nw (x3 - 1) < 32 then some ((g 28 (ix (x3 - 1))), g) else none) : Option (Int × AG)) >>= fun (r4 : Int × AG) => some (r4.1, r4.2)) else if 0 ≤ nw x4 ∧ nw x4 < 500 then (if nw (g 17 (ix x4)) = 2 then Rules_run_b x2 2 x3 x4 (g 17 (ix x4)) g else (if nw (g 17 (ix x4)) = 3 then Rules_run_b x2 2 x3 x4 (g 17 (ix x4)) g else (if nw (g 17 (ix x4)) = 110 then Rules_run_b x2 3 x3 x4 (g 17 (ix x4)) g else (if nw (g 17 (ix x4)) = 47 then Rules_run_b x2 3 x3 x4 (g 17 (ix x4)) g else (if 2 ≤ nw x3 then if 0 ≤ nw ((x3 + (-1)) - 1) ∧ nw ((x3 + (-1)) - 1) < 32 then if 0 ≤ nw (x3 + (-1)) ∧ nw (x3 + (-1)) < 32 then (some (up g 28 (ix ((x3 + (-1)) - 1)) (Rules_both (g 17 (ix x4)) (g 28 (ix ((x3 + (-1)) - 1))) (g 28 (ix (x3 + (-1)))))) >>= fun (g14 : AG) => Rules_run_b x2 4 (x3 + (-1)) x4 x5 g14) else none else none else some (0, g)))))) else none) else (if tag = 2 then (if nw x3 < 32 then (((if nw x5 = 2 then if 0 ≤ nw x4 ∧ nw x4 < 500 then some ((g 18 (ix x4)), g) else none else if 0 ≤ nw x4 ∧ nw x4 < 500 then (Rules_askedOf (g 18 (ix x4)) g >>= fun (r4 : Int) => some (r4, g)) else none) : Option (Int × AG)) >>= fun (r7 : Int × AG) => if 0 ≤ nw x3 ∧ nw x3 < 32 then (some (up r7.2 28 (ix x3) r7.1) >>= fun (g10 : AG) => Rules_run_b x2 4 (x3 + 1) x4 x5 g10) else none) else some (0, g)) else (if tag = 3 then (if 1 ≤ nw x3 then if 0 ≤ nw (x3 - 1) ∧ nw (x3 - 1) < 32 then if 0 ≤ nw x4 ∧ nw x4 < 500 then (Rules_alone x5 (g 28 (ix (x3 - 1))) (g 18 (ix x4)) g >>= fun (r4 : Int) => (some (up g 28 (ix (x3 - 1)) r4) >>= fun (g6 : AG) => Rules_run_b x2 4 x3 x4 x5 g6)) else none else none else some (0, g)) else (if tag = 4 then Rules_run_b x2 1 x3 (x4 + 1) x5 g else none))))
partial_fixpoint
def Rules_run (x1 : Int) (x2 : Int) (g : AG) : Option (Int × AG) :=
  Rules_run_b x2 1 0 x1 0 g
set_option synthInstance.maxHeartbeats 2000000 in
def Rules_serving_b (x1 : Int) (tag : Nat) (x2 : Int) (g : AG) : Option (Int × AG) :=
  (if tag = 1 then (if nw (g 2 3) ≤ nw x2 then some ((-1), g) else if 0 ≤ nw x2 ∧ nw x2 < 16 then (if nw (g 19 (ix x2)) = nw x1 then (if nw (g 21 (ix x2)) = nw (g 22 (ix x2)) then some (x2, g) else (Rules_run (g 21 (ix x2)) (g 22 (ix x2)) g >>= fun (r5 : Int × AG) => (if nw r5.1 = 0 then Rules_serving_b x1 2 x2 r5.2 else some (x2, r5.2)))) else Rules_serving_b x1 2 x2 g) else none) else (if tag = 2 then Rules_serving_b x1 1 (x2 + 1) g else none))
partial_fixpoint
def Rules_serving (x1 : Int) (g : AG) : Option (Int × AG) :=
  Rules_serving_b x1 1 0 g
set_option synthInstance.maxHeartbeats 2000000 in
def Voyage_learnHours_b (x1 : Int) (g : AG) : Option (Int × AG) :=
  (if 14 ≤ nw x1 then some (0, g) else (Rules_askDay x1 (g 1 5) g >>= fun (r2 : Int × AG) => (Rules_serving 100 r2.2 >>= fun (r4 : Int × AG) => (((if nw r4.1 = (-1) then some (0, r4.2) else if 0 ≤ nw r4.1 ∧ nw r4.1 < 16 then some ((r4.2 23 (ix r4.1)), r4.2) else none) : Option (Int × AG)) >>= fun (r8 : Int × AG) => if 0 ≤ nw x1 ∧ nw x1 < 14 then (some (up r8.2 44 (ix x1) r8.1) >>= fun (g11 : AG) => (((if nw r4.1 = (-1) then some (24, g11) else if 0 ≤ nw r4.1 ∧ nw r4.1 < 16 then some ((g11 24 (ix r4.1)), g11) else none) : Option (Int × AG)) >>= fun (r15 : Int × AG) => (some (up r15.2 45 (ix x1) r15.1) >>= fun (g17 : AG) => Voyage_learnHours_b (x1 + 1) g17))) else none))))
partial_fixpoint
def Voyage_learnHours (g : AG) : Option (Int × AG) :=
  Voyage_learnHours_b 0 g
def X_water (x1 : Int) (g : AG) : Option (Int × AG) :=
  (if nw (X_within x1 0 999) = 0 then some (0, g) else (some (up g 1 5 x1) >>= fun (g2 : AG) => (Voyage_learnHours g2 >>= fun (r4 : Int × AG) => some (1, r4.2))))
set_option synthInstance.maxHeartbeats 2000000 in
def Canal_stop_b (x1 : Int) (x3 : Int) (x4 : Int) (g : AG) : Option (Int × AG) :=
  (if nw x3 < nw x4 then (some (up g 1 4 ((g 1 4) + 1)) >>= fun (g2 : AG) => some (0, g2)) else if 0 ≤ nw x1 ∧ nw x1 < 15 then (some (up g 16 (ix x1) (orI (g 16 (ix x1)) (shlI 1 x4))) >>= fun (g5 : AG) => Canal_stop_b x1 x3 (x4 + 1) g5) else none)
partial_fixpoint
def Canal_stop (x1 : Int) (x2 : Int) (x3 : Int) (g : AG) : Option (Int × AG) :=
  Canal_stop_b x1 x3 x2 g
def Canal_reopen (g : AG) : Option (Int × AG) :=
  (some (fillG g 16 15 0) >>= fun (g1 : AG) => (some (up g1 1 4 0) >>= fun (g3 : AG) => some (0, g3)))
def X_stoppage (x1 : Int) (x2 : Int) (x3 : Int) (g : AG) : Option (Int × AG) :=
  (if nw x1 = (-1) then (Canal_reopen g >>= fun (r9 : Int × AG) => some (0, r9.2)) else (if nw (X_within x1 0 14) = 0 then some ((-1), g) else (if nw x2 < 0 then some ((-1), g) else (if nw x3 < nw x2 then some ((-1), g) else (if nw x3 < 14 then (if nw (g 1 4) < 8 then (Canal_stop x1 x2 x3 g >>= fun (r7 : Int × AG) => some ((r7.2 1 4), r7.2)) else some ((-1), g)) else some ((-1), g))))))
def X_isBerths (x0 : Int) : Int :=
  (X_within x0 2 12)
theorem X_isBerths_01 {x0 : Int} : (X_isBerths x0) = 0 ∨ (X_isBerths x0) = 1 := by
  unfold X_isBerths
  (repeat' split) <;> first | exact Or.inl rfl | exact Or.inr rfl | exact X_within_01
def X_isPoint (x0 : Int) : Int :=
  (X_within x0 0 15)
theorem X_isPoint_01 {x0 : Int} : (X_isPoint x0) = 0 ∨ (X_isPoint x0) = 1 := by
  unfold X_isPoint
  (repeat' split) <;> first | exact Or.inl rfl | exact Or.inr rfl | exact X_within_01
def Boats_add (x1 : Int) (x2 : Int) (x3 : Int) (x4 : Int) (g : AG) : Option (Int × AG) :=
  (if nw (g 6 7) < 10 then if 0 ≤ nw (g 6 7) ∧ nw (g 6 7) < 10 then (some (up g 48 (ix (g 6 7)) x1) >>= fun (g3 : AG) => if 0 ≤ nw (g3 6 7) ∧ nw (g3 6 7) < 10 then (some (up g3 49 (ix (g3 6 7)) x2) >>= fun (g6 : AG) => if 0 ≤ nw (g6 6 7) ∧ nw (g6 6 7) < 10 then (some (up g6 50 (ix (g6 6 7)) x3) >>= fun (g9 : AG) => if 0 ≤ nw (g9 6 7) ∧ nw (g9 6 7) < 10 then (some (up g9 51 (ix (g9 6 7)) x4) >>= fun (g12 : AG) => (some (up g12 6 7 ((g12 6 7) + 1)) >>= fun (g14 : AG) => some (((g14 6 7) - 1), g14))) else none) else none) else none) else none else some ((-1), g))
def X_boat (x1 : Int) (x2 : Int) (x3 : Int) (x4 : Int) (g : AG) : Option (Int × AG) :=
  (if nw (X_isBerths x1) = 0 then some ((-1), g) else (if nw (X_within x2 0 99) = 0 then some ((-1), g) else (if nw (X_isPoint x3) = 0 then some ((-1), g) else (if nw (X_within x4 0 60) = 0 then some ((-1), g) else (Boats_add x1 x2 x3 x4 g >>= fun (r5 : Int × AG) => some (r5.1, r5.2))))))
set_option synthInstance.maxHeartbeats 2000000 in
def Parser_put_b (x1 : Int) (x2 : Int) (g : AG) : Option (Int × AG) :=
  (if nw x2 < 0 then some (0, g) else (((if 500 ≤ nw (g 4 2) then some g else if 0 ≤ nw (g 4 2) ∧ nw (g 4 2) < 500 then (some (up g 41 (ix (g 4 2)) (andI (ushrI x1 x2) 255)) >>= fun (g4 : AG) => (some (up g4 4 2 ((g4 4 2) + 1)) >>= fun (g6 : AG) => some g6)) else none) : Option (AG)) >>= fun (r8 : AG) => Parser_put_b x1 (x2 + (-8)) r8))
partial_fixpoint
def Parser_put (x1 : Int) (g : AG) : Option (Int × AG) :=
  Parser_put_b x1 24 g
def X_feed (x1 : Int) (x2 : Int) (x3 : Int) (x4 : Int) (x5 : Int) (g : AG) : Option (Int × AG) :=
  (if nw ((g 4 2) + 20) ≤ 500 then (Parser_put x1 g >>= fun (r2 : Int × AG) => (Parser_put x2 r2.2 >>= fun (r4 : Int × AG) => (Parser_put x3 r4.2 >>= fun (r6 : Int × AG) => (Parser_put x4 r6.2 >>= fun (r8 : Int × AG) => (Parser_put x5 r8.2 >>= fun (r10 : Int × AG) => some ((r10.2 4 2), r10.2)))))) else some ((-1), g))
def X_end (x1 : Int) (g : AG) : Option (Int × AG) :=
  (if nw x1 < 0 then some (0, g) else (if nw x1 ≤ nw (g 4 2) then (some (up g 4 2 x1) >>= fun (g3 : AG) => some (1, g3)) else some (0, g)))
def Rules_clear (g : AG) : Option (Int × AG) :=
  (some (up g 3 2 0) >>= fun (g1 : AG) => (some (up g1 3 3 0) >>= fun (g3 : AG) => (some (up g3 3 10 0) >>= fun (g5 : AG) => (some (fillG g5 37 30 0) >>= fun (g7 : AG) => (some (fillG g7 38 30 0) >>= fun (g9 : AG) => some (0, g9))))))
def Parser_isLetter (x0 : Int) : Int :=
  (if nw (X_within x0 97 122) = 0 then (if nw (X_within x0 65 90) = 0 then 0 else 1) else 1)
theorem Parser_isLetter_01 {x0 : Int} : (Parser_isLetter x0) = 0 ∨ (Parser_isLetter x0) = 1 := by
  unfold Parser_isLetter
  (repeat' split) <;> first | exact Or.inl rfl | exact Or.inr rfl | exact X_within_01
def Parser_isDigit (x0 : Int) : Int :=
  (X_within x0 48 57)
theorem Parser_isDigit_01 {x0 : Int} : (Parser_isDigit x0) = 0 ∨ (Parser_isDigit x0) = 1 := by
  unfold Parser_isDigit
  (repeat' split) <;> first | exact Or.inl rfl | exact Or.inr rfl | exact X_within_01
def Parser_add (x1 : Int) (x2 : Int) (g : AG) : Option (Int × AG) :=
  (((if 501 ≤ nw (g 4 5) then some g else if 0 ≤ nw (g 4 5) ∧ nw (g 4 5) < 501 then (some (up g 42 (ix (g 4 5)) x1) >>= fun (g3 : AG) => if 0 ≤ nw (g3 4 5) ∧ nw (g3 4 5) < 501 then (some (up g3 43 (ix (g3 4 5)) x2) >>= fun (g6 : AG) => (some (up g6 4 5 ((g6 4 5) + 1)) >>= fun (g8 : AG) => some g8)) else none) else none) : Option (AG)) >>= fun (r10 : AG) => some (0, r10))
set_option synthInstance.maxHeartbeats 2000000 in
def Parser_endOfDigits_b (g : AG) (x2 : Int) (x3 : Int) : Option Int :=
  (if nw (g 4 2) ≤ nw x3 then some x2 else if 0 ≤ nw x3 ∧ nw x3 < 500 then (if nw (Parser_isDigit (g 41 (ix x3))) = 0 then some x2 else Parser_endOfDigits_b g (x3 + 1) (x3 + 1)) else none)
partial_fixpoint
def Parser_endOfDigits (x1 : Int) (g : AG) : Option Int :=
  Parser_endOfDigits_b g x1 x1
set_option synthInstance.maxHeartbeats 2000000 in
def Parser_numberOf_b (x2 : Int) (g : AG) (x3 : Int) (x4 : Int) : Option Int :=
  (if nw x2 ≤ nw x4 then some (1000 + x3) else if 0 ≤ nw x4 ∧ nw x4 < 500 then Parser_numberOf_b x2 g (((x3 * 10) + (g 41 (ix x4))) - 48) (x4 + 1) else none)
partial_fixpoint
def Parser_numberOf (x1 : Int) (x2 : Int) (g : AG) : Option Int :=
  (if nw (x2 - x1) ≤ 4 then Parser_numberOf_b x2 g 0 x1 else some 1)
set_option synthInstance.maxHeartbeats 2000000 in
def Parser_endOfWord_b (g : AG) (x2 : Int) (x3 : Int) : Option Int :=
  (if nw (g 4 2) ≤ nw x3 then some x2 else if 0 ≤ nw x3 ∧ nw x3 < 500 then (if nw (Parser_isLetter (g 41 (ix x3))) = 0 then some x2 else Parser_endOfWord_b g (x3 + 1) (x3 + 1)) else none)
partial_fixpoint
def Parser_endOfWord (x1 : Int) (g : AG) : Option Int :=
  Parser_endOfWord_b g x1 x1
set_option synthInstance.maxHeartbeats 2000000 in
def Parser_isSame_b (x1 : Int) (x2 : Int) (x3 : Int) (g : AG) (x4 : Int) : Option Int :=
  (if nw x3 ≤ nw x4 then some 1 else if 0 ≤ nw (x1 + x4) ∧ nw (x1 + x4) < 500 then if 0 ≤ nw (x2 + x4) ∧ nw (x2 + x4) < strLen 0 then (if nw (g 41 (ix (x1 + x4))) = nw (strCh 0 (ix (x2 + x4))) then Parser_isSame_b x1 x2 x3 g (x4 + 1) else some 0) else none else none)
partial_fixpoint
def Parser_isSame (x1 : Int) (x2 : Int) (x3 : Int) (g : AG) : Option Int :=
  Parser_isSame_b x1 x2 x3 g 0
set_option synthInstance.maxHeartbeats 2000000 in
def Parser_wordOf_b (x1 : Int) (x2 : Int) (g : AG) (tag : Nat) (x3 : Int) (x4 : Int) (x5 : Int) : Option Int :=
  (if tag = 1 then (if nw (strLen 0) ≤ nw x5 then some 1 else if 0 ≤ nw x5 ∧ nw x5 < strLen 0 then (if nw (strCh 0 (ix x5)) = 32 then (if nw (x5 - x4) = nw (x2 - x1) then (Parser_isSame x1 x4 (x5 - x4) g >>= fun (r5 : Int) => (if nw r5 = 0 then Parser_wordOf_b x1 x2 g 2 x3 x4 x5 else some x3)) else Parser_wordOf_b x1 x2 g 2 x3 x4 x5) else Parser_wordOf_b x1 x2 g 3 x3 x4 x5) else none) else (if tag = 2 then Parser_wordOf_b x1 x2 g 3 (x3 + 1) (x5 + 1) x5 else (if tag = 3 then Parser_wordOf_b x1 x2 g 1 x3 x4 (x5 + 1) else none)))
partial_fixpoint
def Parser_wordOf (x1 : Int) (x2 : Int) (g : AG) : Option Int :=
  Parser_wordOf_b x1 x2 g 1 100 0 0
set_option synthInstance.maxHeartbeats 2000000 in
def Parser_scan_b (tag : Nat) (x1 : Int) (x2 : Int) (g : AG) : Option (Int × AG) :=
  (if tag = 1 then (if 500 ≤ nw x2 then Parser_scan_b 2 x1 x2 g else (if nw (g 4 2) ≤ nw x1 then Parser_scan_b 2 x1 x2 g else if 0 ≤ nw x1 ∧ nw x1 < 500 then (((if nw (Parser_isLetter (g 41 (ix x1))) = 0 then (if nw (Parser_isDigit (g 41 (ix x1))) = 0 then (if nw (g 41 (ix x1)) = 32 then some ((x1 + 1), g) else (if nw (g 41 (ix x1)) = 10 then some ((x1 + 1), g) else (some ((if nw (strIx 1 (chrI (g 41 (ix x1)))) < 0 then 1 else (g 41 (ix x1)))) >>= fun (t8 : Int) => (Parser_add t8 x1 g >>= fun (r10 : Int × AG) => some ((x1 + 1), r10.2))))) else (Parser_endOfDigits x1 g >>= fun (r13 : Int) => (Parser_numberOf x1 r13 g >>= fun (r15 : Int) => (Parser_add r15 x1 g >>= fun (r17 : Int × AG) => some (r13, r17.2))))) else (Parser_endOfWord x1 g >>= fun (r19 : Int) => (Parser_wordOf x1 r19 g >>= fun (r21 : Int) => (Parser_add r21 x1 g >>= fun (r23 : Int × AG) => some (r19, r23.2))))) : Option (Int × AG)) >>= fun (r25 : Int × AG) => Parser_scan_b 1 r25.1 (x2 + 1) r25.2) else none)) else (if tag = 2 then (Parser_add 0 (g 4 2) g >>= fun (r1 : Int × AG) => some (0, r1.2)) else none))
partial_fixpoint
def Parser_scan (g : AG) : Option (Int × AG) :=
  (some (up g 4 5 0) >>= fun (g1 : AG) => Parser_scan_b 1 0 0 g1)
def Parser_goOn (g : AG) : Option (Int × AG) :=
  (((if nw ((g 4 5) - 1) ≤ nw (g 4 6) then some g else (some (up g 4 6 ((g 4 6) + 1)) >>= fun (g2 : AG) => some g2)) : Option (AG)) >>= fun (r4 : AG) => some (0, r4))
def Parser_fail (x1 : Int) (g : AG) : Option (Int × AG) :=
  (((if nw (g 4 7) = 0 then (some (up g 4 7 x1) >>= fun (g2 : AG) => if 0 ≤ nw (g2 4 6) ∧ nw (g2 4 6) < 501 then (some (up g2 4 8 (g2 43 (ix (g2 4 6)))) >>= fun (g5 : AG) => some g5) else none) else some g) : Option (AG)) >>= fun (r7 : AG) => some (0, r7))
def Rules_put (x1 : Int) (x2 : Int) (g : AG) : Option (Int × AG) :=
  (((if 500 ≤ nw (g 3 2) then some g else if 0 ≤ nw (g 3 2) ∧ nw (g 3 2) < 500 then (some (up g 29 (ix (g 3 2)) x1) >>= fun (g3 : AG) => if 0 ≤ nw (g3 3 2) ∧ nw (g3 3 2) < 500 then (some (up g3 30 (ix (g3 3 2)) x2) >>= fun (g6 : AG) => (some (up g6 3 2 ((g6 3 2) + 1)) >>= fun (g8 : AG) => some g8)) else none) else none) : Option (AG)) >>= fun (r10 : AG) => some (0, r10))
set_option synthInstance.maxHeartbeats 2000000 in
def Parser_readUnit_b (g : AG) : Option (Int × AG) :=
  (Parser_goOn g >>= fun (r1 : Int × AG) => some (0, r1.2))
partial_fixpoint
def Parser_readUnit (g : AG) : Option (Int × AG) :=
  if 0 ≤ nw (g 4 6) ∧ nw (g 4 6) < 501 then (if nw (g 4 7) = 0 then (if nw (g 42 (ix (g 4 6))) < 1000 then (if nw (X_within (g 42 (ix (g 4 6))) 111 119) = 0 then (Parser_fail 1 g >>= fun (r5 : Int × AG) => some (0, r5.2)) else (Rules_put 3 ((g 42 (ix (g 4 6))) - 111) g >>= fun (r7 : Int × AG) => Parser_readUnit_b r7.2)) else (Rules_put 2 ((g 42 (ix (g 4 6))) - 1000) g >>= fun (r9 : Int × AG) => Parser_readUnit_b r9.2)) else some (0, g)) else none
def Parser_is (x1 : Int) (g : AG) : Option Int :=
  (((if nw (g 4 7) = 0 then if 0 ≤ nw (g 4 6) ∧ nw (g 4 6) < 501 then (some ((if nw (g 42 (ix (g 4 6))) = nw x1 then 1 else 0)) >>= fun (t3 : Int) => some (t3)) else none else some (0)) : Option (Int)) >>= fun (r6 : Int) => if r6 = 0 ∨ r6 = 1 then some r6 else none)
def Parser_readPart (g : AG) : Option (Int × AG) :=
  if 0 ≤ nw (g 4 6) ∧ nw (g 4 6) < 501 then (((if 0 ≤ nw ((g 42 (ix (g 4 6))) - 1000) then (if nw ((g 42 (ix (g 4 6))) - 1000) = 0 then (Parser_fail 2 g >>= fun (r8 : Int × AG) => some r8.2) else (Rules_put 47 ((g 42 (ix (g 4 6))) - 1000) g >>= fun (r4 : Int × AG) => (Parser_goOn r4.2 >>= fun (r6 : Int × AG) => some r6.2))) else (Parser_fail 1 g >>= fun (r10 : Int × AG) => some r10.2)) : Option (AG)) >>= fun (r12 : AG) => some (0, r12)) else none
set_option synthInstance.maxHeartbeats 2000000 in
def Parser_readProduct_b (tag : Nat) (x1 : Int) (g : AG) : Option (Int × AG) :=
  (if tag = 1 then (if 500 ≤ nw x1 then some (0, g) else (Parser_is 42 g >>= fun (r2 : Int) => (if nw r2 = 0 then (Parser_is 47 g >>= fun (r5 : Int) => (if nw r5 = 0 then some (0, g) else Parser_readProduct_b 2 x1 g)) else Parser_readProduct_b 2 x1 g))) else (if tag = 2 then (Parser_is 42 g >>= fun (r1 : Int) => (Parser_goOn g >>= fun (r3 : Int × AG) => (((if nw r1 = 0 then (Parser_readPart r3.2 >>= fun (r6 : Int × AG) => some r6.2) else (Parser_readUnit r3.2 >>= fun (r8 : Int × AG) => (Rules_put 42 0 r8.2 >>= fun (r10 : Int × AG) => some r10.2))) : Option (AG)) >>= fun (r12 : AG) => Parser_readProduct_b 1 (x1 + 1) r12))) else none))
partial_fixpoint
def Parser_readProduct (g : AG) : Option (Int × AG) :=
  (Parser_readUnit g >>= fun (r1 : Int × AG) => Parser_readProduct_b 1 0 r1.2)
set_option synthInstance.maxHeartbeats 2000000 in
def Parser_readSum_b (tag : Nat) (x1 : Int) (g : AG) : Option (Int × AG) :=
  (if tag = 1 then (if 500 ≤ nw x1 then some (0, g) else (Parser_is 43 g >>= fun (r2 : Int) => (if nw r2 = 0 then (Parser_is 45 g >>= fun (r5 : Int) => (if nw r5 = 0 then some (0, g) else Parser_readSum_b 2 x1 g)) else Parser_readSum_b 2 x1 g))) else (if tag = 2 then if 0 ≤ nw (g 4 6) ∧ nw (g 4 6) < 501 then (Parser_goOn g >>= fun (r2 : Int × AG) => (Parser_readProduct r2.2 >>= fun (r4 : Int × AG) => (Rules_put (g 42 (ix (g 4 6))) 0 r4.2 >>= fun (r6 : Int × AG) => Parser_readSum_b 1 (x1 + 1) r6.2))) else none else none))
partial_fixpoint
def Parser_readSum (g : AG) : Option (Int × AG) :=
  (Parser_readProduct g >>= fun (r1 : Int × AG) => Parser_readSum_b 1 0 r1.2)
def Parser_numberUpTo (x1 : Int) (g : AG) : Option (Int × AG) :=
  if 0 ≤ nw (g 4 6) ∧ nw (g 4 6) < 501 then (((if 0 ≤ nw ((g 42 (ix (g 4 6))) - 1000) then (if nw ((g 42 (ix (g 4 6))) - 1000) ≤ nw x1 then some g else (Parser_fail 2 g >>= fun (r4 : Int × AG) => some r4.2)) else (Parser_fail 1 g >>= fun (r6 : Int × AG) => some r6.2)) : Option (AG)) >>= fun (r8 : AG) => (if nw (r8 4 7) = 0 then (Parser_goOn r8 >>= fun (r11 : Int × AG) => some (((g 42 (ix (g 4 6))) - 1000), r11.2)) else some (0, r8))) else none
def Rules_hasTunnel_3 (x1 : Int) (g : AG) : Int :=
  (if nw (andI (shrI (g 3 10) x1) 1) = 0 then 0 else 1)
theorem Rules_hasTunnel_3_01 {x1 : Int} {g : AG} : (Rules_hasTunnel_3 x1 g) = 0 ∨ (Rules_hasTunnel_3 x1 g) = 1 := by
  unfold Rules_hasTunnel_3
  (repeat' split) <;> first | exact Or.inl rfl | exact Or.inr rfl
set_option synthInstance.maxHeartbeats 2000000 in
def Parser_readTunnel_b (x1 : Int) (g : AG) : Option (Int × AG) :=
  (Parser_is 105 g >>= fun (r1 : Int) => (some ((if nw r1 = 0 then (15 + x1) else x1)) >>= fun (t3 : Int) => (if nw (Rules_hasTunnel_3 t3 g) = 0 then (Parser_goOn g >>= fun (r6 : Int × AG) => (some (up r6.2 3 10 (orI (r6.2 3 10) (shlI 1 t3))) >>= fun (g8 : AG) => (Parser_numberUpTo 24 g8 >>= fun (r10 : Int × AG) => if 0 ≤ nw t3 ∧ nw t3 < 30 then (some (up r10.2 37 (ix t3) r10.1) >>= fun (g13 : AG) => (Parser_numberUpTo 24 g13 >>= fun (r15 : Int × AG) => (some (up r15.2 38 (ix t3) r15.1) >>= fun (g17 : AG) => some (0, g17)))) else none))) else (Parser_fail 3 g >>= fun (r19 : Int × AG) => some (0, r19.2)))))
partial_fixpoint
def Parser_readTunnel (g : AG) : Option (Int × AG) :=
  (Parser_numberUpTo 14 g >>= fun (r1 : Int × AG) => (Parser_is 105 r1.2 >>= fun (r3 : Int) => (if nw r3 = 0 then (Parser_is 106 r1.2 >>= fun (r6 : Int) => (if nw r6 = 0 then (Parser_fail 1 r1.2 >>= fun (r9 : Int × AG) => some (0, r9.2)) else Parser_readTunnel_b r1.1 r1.2)) else Parser_readTunnel_b r1.1 r1.2)))
def Parser_openOneMore (x1 : Int) (g : AG) : Option (Int × AG) :=
  (((if nw x1 < 8 then (Parser_goOn g >>= fun (r2 : Int × AG) => some r2.2) else (Parser_fail 3 g >>= fun (r4 : Int × AG) => some r4.2)) : Option (AG)) >>= fun (r6 : AG) => some (0, r6))
def Parser_demandComparing (g : AG) : Option (Int × AG) :=
  (Parser_is 60 g >>= fun (r1 : Int) => (((if nw r1 = 0 then (Parser_is 61 g >>= fun (r6 : Int) => (if nw r6 = 0 then (Parser_is 62 g >>= fun (r11 : Int) => (if nw r11 = 0 then (Parser_fail 1 g >>= fun (r14 : Int × AG) => some r14.2) else (Parser_goOn g >>= fun (r16 : Int × AG) => some r16.2))) else (Parser_goOn g >>= fun (r9 : Int × AG) => some r9.2))) else (Parser_goOn g >>= fun (r4 : Int × AG) => some r4.2)) : Option (AG)) >>= fun (r18 : AG) => some (0, r18)))
def Parser_demand (x1 : Int) (g : AG) : Option (Int × AG) :=
  (Parser_is x1 g >>= fun (r1 : Int) => (((if nw r1 = 0 then (Parser_fail 1 g >>= fun (r4 : Int × AG) => some r4.2) else (Parser_goOn g >>= fun (r6 : Int × AG) => some r6.2)) : Option (AG)) >>= fun (r8 : AG) => some (0, r8)))
set_option synthInstance.maxHeartbeats 2000000 in
def Parser_readOne_b (rec : Int → AG → Option (Int × AG)) (x1 : Int) (tag : Nat) (x2 : Int) (x3 : Int) (g : AG) : Option (Int × AG) :=
  (if tag = 1 then (if 500 ≤ nw x3 then Parser_readOne_b rec x1 2 x2 x3 g else (Parser_is 110 g >>= fun (r2 : Int) => (if nw r2 = 0 then Parser_readOne_b rec x1 2 x2 x3 g else (Parser_openOneMore x2 g >>= fun (r5 : Int × AG) => Parser_readOne_b rec x1 1 (x2 + 1) (x3 + 1) r5.2)))) else (if tag = 2 then (Parser_is 40 g >>= fun (r1 : Int) => (((if nw r1 = 0 then (Parser_readSum g >>= fun (r4 : Int × AG) => if 0 ≤ nw (r4.2 4 6) ∧ nw (r4.2 4 6) < 501 then (Parser_demandComparing r4.2 >>= fun (r7 : Int × AG) => (Parser_readSum r7.2 >>= fun (r9 : Int × AG) => (Rules_put (r4.2 42 (ix (r4.2 4 6))) 0 r9.2 >>= fun (r11 : Int × AG) => some r11.2))) else none) else (Parser_openOneMore x2 g >>= fun (r13 : Int × AG) => (rec (x2 + 1) r13.2 >>= fun (r15 : Int × AG) => (Parser_demand 41 r15.2 >>= fun (r17 : Int × AG) => some r17.2)))) : Option (AG)) >>= fun (r19 : AG) => Parser_readOne_b rec x1 3 x2 x1 r19)) else (if tag = 3 then (if nw x2 ≤ nw x3 then some (0, g) else (Rules_put 110 0 g >>= fun (r2 : Int × AG) => Parser_readOne_b rec x1 3 x2 (x3 + 1) r2.2)) else none)))
partial_fixpoint
def Parser_readOne (rec : Int → AG → Option (Int × AG)) (x1 : Int) (g : AG) : Option (Int × AG) :=
  Parser_readOne_b rec x1 1 x1 0 g
set_option synthInstance.maxHeartbeats 2000000 in
def Parser_readAll_b (rec : Int → AG → Option (Int × AG)) (x1 : Int) (x2 : Int) (g : AG) : Option (Int × AG) :=
  (if 500 ≤ nw x2 then some (0, g) else (Parser_is 109 g >>= fun (r2 : Int) => (if nw r2 = 0 then some (0, g) else (Parser_goOn g >>= fun (r5 : Int × AG) => (Parser_readOne rec x1 r5.2 >>= fun (r7 : Int × AG) => (Rules_put 109 0 r7.2 >>= fun (r9 : Int × AG) => Parser_readAll_b rec x1 (x2 + 1) r9.2))))))
partial_fixpoint
def Parser_readAll (rec : Int → AG → Option (Int × AG)) (x1 : Int) (g : AG) : Option (Int × AG) :=
  (Parser_readOne rec x1 g >>= fun (r1 : Int × AG) => Parser_readAll_b rec x1 0 r1.2)
set_option synthInstance.maxHeartbeats 2000000 in
def Parser_readEither_b (rec : Int → AG → Option (Int × AG)) (x1 : Int) (x2 : Int) (g : AG) : Option (Int × AG) :=
  (if 500 ≤ nw x2 then some (0, g) else (Parser_is 108 g >>= fun (r2 : Int) => (if nw r2 = 0 then some (0, g) else (Parser_goOn g >>= fun (r5 : Int × AG) => (Parser_readAll rec x1 r5.2 >>= fun (r7 : Int × AG) => (Rules_put 108 0 r7.2 >>= fun (r9 : Int × AG) => Parser_readEither_b rec x1 (x2 + 1) r9.2))))))
partial_fixpoint
def Parser_readEither_s (rec : Int → AG → Option (Int × AG)) (x1 : Int) (g : AG) : Option (Int × AG) :=
  (if nw x1 ≤ 8 then (Parser_readAll rec x1 g >>= fun (r2 : Int × AG) => Parser_readEither_b rec x1 0 r2.2) else some (0, g))
def Parser_readEither : Nat → Int → AG → Option (Int × AG)
  | 0 => fun _ _ => none
  | n + 1 => fun x1 g => Parser_readEither_s (Parser_readEither n) x1 g
def Parser_readLine (g : AG) : Option (Int × AG) :=
  if 0 ≤ nw (g 4 6) ∧ nw (g 4 6) < 501 then (if nw (X_within (g 42 (ix (g 4 6))) 100 104) = 0 then (Parser_fail 1 g >>= fun (r47 : Int × AG) => some (0, r47.2)) else (if nw (g 3 3) < 16 then (Parser_goOn g >>= fun (r4 : Int × AG) => if 0 ≤ nw (g 3 3) ∧ nw (g 3 3) < 16 then (some (up r4.2 31 (ix (g 3 3)) (g 42 (ix (g 4 6)))) >>= fun (g7 : AG) => (some (up g7 32 (ix (g 3 3)) (g7 3 2)) >>= fun (g9 : AG) => (((if nw (g 42 (ix (g 4 6))) = 101 then (Parser_readTunnel g9 >>= fun (r23 : Int × AG) => some r23.2) else (if nw (g 42 (ix (g 4 6))) = 100 then (Parser_numberUpTo 24 g9 >>= fun (r15 : Int × AG) => (some (up r15.2 35 (ix (g 3 3)) r15.1) >>= fun (g17 : AG) => (Parser_numberUpTo 24 g17 >>= fun (r19 : Int × AG) => (some (up r19.2 36 (ix (g 3 3)) r19.1) >>= fun (g21 : AG) => some g21)))) else (Parser_readSum g9 >>= fun (r13 : Int × AG) => some r13.2))) : Option (AG)) >>= fun (r25 : AG) => (some (up r25 33 (ix (g 3 3)) (r25 3 2)) >>= fun (g27 : AG) => (((if nw (g 42 (ix (g 4 6))) = 101 then some g27 else (Parser_is 107 g27 >>= fun (r30 : Int) => (if nw r30 = 0 then some g27 else (Parser_goOn g27 >>= fun (r33 : Int × AG) => (Parser_readEither 12 0 r33.2 >>= fun (r35 : Int × AG) => some r35.2))))) : Option (AG)) >>= fun (r37 : AG) => (some (up r37 34 (ix (g 3 3)) (r37 3 2)) >>= fun (g39 : AG) => (Parser_demand 59 g39 >>= fun (r41 : Int × AG) => (some (up r41.2 3 3 ((r41.2 3 3) + 1)) >>= fun (g43 : AG) => some (0, g43))))))))) else none) else (Parser_fail 3 g >>= fun (r45 : Int × AG) => some (0, r45.2)))) else none
set_option synthInstance.maxHeartbeats 2000000 in
def Parser_read_b (tag : Nat) (x1 : Int) (g : AG) : Option (Int × AG) :=
  (if tag = 1 then (if 16 < nw x1 then Parser_read_b 2 x1 g else (if nw (g 4 7) = 0 then if 0 ≤ nw (g 4 6) ∧ nw (g 4 6) < 501 then (if nw (g 42 (ix (g 4 6))) = 0 then Parser_read_b 2 x1 g else (Parser_readLine g >>= fun (r5 : Int × AG) => Parser_read_b 1 (x1 + 1) r5.2)) else none else Parser_read_b 2 x1 g)) else (if tag = 2 then (some (up g 4 2 0) >>= fun (g1 : AG) => (some ((if nw (g1 4 7) = 0 then (g1 3 3) else (-1))) >>= fun (t3 : Int) => some (t3, g1))) else none))
partial_fixpoint
def Parser_read (g : AG) : Option (Int × AG) :=
  (some (up g 4 7 0) >>= fun (g1 : AG) => (some (up g1 4 8 (-1)) >>= fun (g3 : AG) => (some (up g3 4 6 0) >>= fun (g5 : AG) => (Rules_clear g5 >>= fun (r7 : Int × AG) => (Parser_scan r7.2 >>= fun (r9 : Int × AG) => Parser_read_b 1 0 r9.2)))))
def Rules_takeOver (g : AG) : Option (Int × AG) :=
  (some (up g 2 2 (g 3 2)) >>= fun (g1 : AG) => (some (up g1 2 3 (g1 3 3)) >>= fun (g3 : AG) => (some (up g3 2 10 (g3 3 10)) >>= fun (g5 : AG) => (some (copyG g5 29 (ix 0) 17 (ix 0) (ix 500)) >>= fun (g8 : AG) => (some (copyG g8 30 (ix 0) 18 (ix 0) (ix 500)) >>= fun (g11 : AG) => (some (copyG g11 31 (ix 0) 19 (ix 0) (ix 16)) >>= fun (g14 : AG) => (some (copyG g14 32 (ix 0) 20 (ix 0) (ix 16)) >>= fun (g17 : AG) => (some (copyG g17 33 (ix 0) 21 (ix 0) (ix 16)) >>= fun (g20 : AG) => (some (copyG g20 34 (ix 0) 22 (ix 0) (ix 16)) >>= fun (g23 : AG) => (some (copyG g23 35 (ix 0) 23 (ix 0) (ix 16)) >>= fun (g26 : AG) => (some (copyG g26 36 (ix 0) 24 (ix 0) (ix 16)) >>= fun (g29 : AG) => (some (copyG g29 37 (ix 0) 25 (ix 0) (ix 30)) >>= fun (g32 : AG) => (some (copyG g32 38 (ix 0) 26 (ix 0) (ix 30)) >>= fun (g35 : AG) => some (0, g35))))))))))))))
def X_rules (g : AG) : Option (Int × AG) :=
  (Parser_read g >>= fun (r1 : Int × AG) => (if nw r1.1 = (-1) then some ((-1), r1.2) else (Rules_takeOver r1.2 >>= fun (r4 : Int × AG) => (Voyage_learnHours r4.2 >>= fun (r6 : Int × AG) => some (r1.1, r6.2)))))
def X_fault (x1 : Int) (g : AG) : Int :=
  (if nw x1 = 0 then (g 4 7) else (if nw x1 = 1 then (g 4 8) else (-1)))
def X_open (x1 : Int) (x2 : Int) (g : AG) : Option Int :=
  (if nw (X_within x1 0 13) = 0 then some (-1) else (if nw x2 = 0 then if 0 ≤ nw x1 ∧ nw x1 < 14 then some (g 44 (ix x1)) else none else (((if nw x2 = 1 then if 0 ≤ nw x1 ∧ nw x1 < 14 then some ((g 45 (ix x1))) else none else some ((-1))) : Option (Int)) >>= fun (r5 : Int) => some r5)))
def X_isBoat (x1 : Int) (g : AG) : Int :=
  (X_within x1 0 ((g 6 7) - 1))
theorem X_isBoat_01 {x1 : Int} {g : AG} : (X_isBoat x1 g) = 0 ∨ (X_isBoat x1 g) = 1 := by
  unfold X_isBoat
  (repeat' split) <;> first | exact Or.inl rfl | exact Or.inr rfl | exact X_within_01
def X_isTime (x0 : Int) : Int :=
  (X_within x0 0 20159)
theorem X_isTime_01 {x0 : Int} : (X_isTime x0) = 0 ∨ (X_isTime x0) = 1 := by
  unfold X_isTime
  (repeat' split) <;> first | exact Or.inl rfl | exact Or.inr rfl | exact X_within_01
def X_isWay (x1 : Int) (x2 : Int) (x3 : Int) (x4 : Int) (g : AG) : Int :=
  (if nw (X_isBoat x1 g) = 0 then 0 else (if nw (X_isPoint x2) = 0 then 0 else (if nw (X_isPoint x3) = 0 then 0 else (if nw (X_isTime x4) = 0 then 0 else 1))))
theorem X_isWay_01 {x1 : Int} {x2 : Int} {x3 : Int} {x4 : Int} {g : AG} : (X_isWay x1 x2 x3 x4 g) = 0 ∨ (X_isWay x1 x2 x3 x4 g) = 1 := by
  unfold X_isWay
  (repeat' split) <;> first | exact Or.inl rfl | exact Or.inr rfl | exact X_isPoint_01 | exact X_isBoat_01 | exact X_isTime_01
def Voyage_setOut (x1 : Int) (x2 : Int) (g : AG) : Option (Int × AG) :=
  (some (up g 5 6 (15 + ((nw (60 - x1)).tdiv 6))) >>= fun (g1 : AG) => if x2 = 0 ∨ x2 = 1 then (some (up g1 5 7 x2) >>= fun (g4 : AG) => (some (fillG g4 47 14 0) >>= fun (g6 : AG) => some (0, g6))) else none)
def Rules_hasTunnel_2 (x1 : Int) (g : AG) : Int :=
  (if nw (andI (shrI (g 2 10) x1) 1) = 0 then 0 else 1)
theorem Rules_hasTunnel_2_01 {x1 : Int} {g : AG} : (Rules_hasTunnel_2 x1 g) = 0 ∨ (Rules_hasTunnel_2 x1 g) = 1 := by
  unfold Rules_hasTunnel_2
  (repeat' split) <;> first | exact Or.inl rfl | exact Or.inr rfl
def Rules_isTunnel (x1 : Int) (g : AG) : Int :=
  (if nw (Rules_hasTunnel_2 x1 g) = 0 then (if nw (Rules_hasTunnel_2 (15 + x1) g) = 0 then 0 else 1) else 1)
theorem Rules_isTunnel_01 {x1 : Int} {g : AG} : (Rules_isTunnel x1 g) = 0 ∨ (Rules_isTunnel x1 g) = 1 := by
  unfold Rules_isTunnel
  (repeat' split) <;> first | exact Or.inl rfl | exact Or.inr rfl | exact Rules_hasTunnel_2_01
def Voyage_firstHour (x1 : Int) (x2 : Int) (x3 : Int) (g : AG) : Option Int :=
  (if nw x2 = 1 then if 0 ≤ nw x3 ∧ nw x3 < 14 then some (g 44 (ix x3)) else none else (if nw x2 = 2 then if 0 ≤ nw x1 ∧ nw x1 < 30 then some (g 25 (ix x1)) else none else (if nw x2 = 3 then if 0 ≤ nw (15 + x1) ∧ nw (15 + x1) < 30 then some (g 25 (ix (15 + x1))) else none else some 0)))
def Voyage_hourBehind (x1 : Int) (x2 : Int) (x3 : Int) (g : AG) : Option Int :=
  (if nw x2 = 1 then if 0 ≤ nw x3 ∧ nw x3 < 14 then some (g 45 (ix x3)) else none else (if nw x2 = 2 then if 0 ≤ nw x1 ∧ nw x1 < 30 then some (g 26 (ix x1)) else none else (if nw x2 = 3 then if 0 ≤ nw (15 + x1) ∧ nw (15 + x1) < 30 then some (g 26 (ix (15 + x1))) else none else some 24)))
def Voyage_isStopped (x1 : Int) (x2 : Int) (g : AG) : Option Int :=
  (((if nw (g 5 7) = 0 then some (0) else if 0 ≤ nw x1 ∧ nw x1 < 15 then (some ((if nw (andI (shrI (g 16 (ix x1)) x2) 1) = 0 then 0 else 1)) >>= fun (t3 : Int) => some (t3)) else none) : Option (Int)) >>= fun (r6 : Int) => if r6 = 0 ∨ r6 = 1 then some r6 else none)
set_option synthInstance.maxHeartbeats 2000000 in
def Voyage_begins_b (x1 : Int) (x2 : Int) (x3 : Int) (g : AG) (tag : Nat) (x4 : Int) : Option Int :=
  (if tag = 1 then (if 14 ≤ nw x4 then some (-1) else (Voyage_firstHour x1 x2 x4 g >>= fun (r2 : Int) => (Voyage_hourBehind x1 x2 x4 g >>= fun (r4 : Int) => (if nw ((x4 * 1440) + ((mnI 20 r4) * 60)) ≤ nw (mxI x3 ((x4 * 1440) + ((mxI 8 r2) * 60))) then Voyage_begins_b x1 x2 x3 g 2 x4 else (Voyage_isStopped x1 x4 g >>= fun (r7 : Int) => (if nw r7 = 0 then some (mxI x3 ((x4 * 1440) + ((mxI 8 r2) * 60))) else Voyage_begins_b x1 x2 x3 g 2 x4)))))) else (if tag = 2 then Voyage_begins_b x1 x2 x3 g 1 (x4 + 1) else none))
partial_fixpoint
def Voyage_begins (x1 : Int) (x2 : Int) (x3 : Int) (g : AG) : Option Int :=
  (if 0 ≤ nw x3 then Voyage_begins_b x1 x2 x3 g 1 ((nw x3).tdiv 1440) else some (-1))
def Voyage_step (x1 : Int) (x2 : Int) (x3 : Int) (x4 : Int) (g : AG) : Option (Int × AG) :=
  (Voyage_begins x1 x2 x3 g >>= fun (r1 : Int) => (if nw r1 = (-1) then some ((-1), g) else (if nw (r1 + x4) < 20160 then (((if nw x2 = 1 then if 0 ≤ nw ((nw r1).tdiv 1440) ∧ nw ((nw r1).tdiv 1440) < 14 then (some (up g 47 (ix ((nw r1).tdiv 1440)) ((g 47 (ix ((nw r1).tdiv 1440))) + 1)) >>= fun (g7 : AG) => some g7) else none else some g) : Option (AG)) >>= fun (r9 : AG) => some ((r1 + x4), r9)) else some ((-1), g))))
set_option synthInstance.maxHeartbeats 2000000 in
def Voyage_pass_b (x1 : Int) (x4 : Int) (tag : Nat) (x5 : Int) (x6 : Int) (g : AG) : Option (Int × AG) :=
  (if tag = 1 then (if nw x4 ≤ nw x6 then Voyage_pass_b x1 x4 2 x5 x6 g else (Voyage_step x1 0 x5 20 g >>= fun (r2 : Int × AG) => Voyage_pass_b x1 x4 1 r2.1 (x6 + 1) r2.2)) else (if tag = 2 then Voyage_pass_b x1 x4 3 x5 0 g else (if tag = 3 then if 0 ≤ nw x1 ∧ nw x1 < 15 then (if nw (g 14 (ix x1)) ≤ nw x6 then some (x5, g) else (Voyage_step x1 1 x5 (g 5 6) g >>= fun (r3 : Int × AG) => Voyage_pass_b x1 x4 3 r3.1 (x6 + 1) r3.2)) else none else none)))
partial_fixpoint
def Voyage_pass (x1 : Int) (x2 : Int) (x3 : Int) (g : AG) : Option (Int × AG) :=
  if 0 ≤ nw x1 ∧ nw x1 < 15 then (if nw (Rules_isTunnel x1 g) = 0 then Voyage_pass_b x1 (g 13 (ix x1)) 1 x3 0 g else (((if nw (g 13 (ix x1)) ≤ 0 then some (x3, g) else (some ((if nw x2 = 0 then 3 else 2)) >>= fun (t4 : Int) => (Voyage_step x1 t4 x3 (20 * (g 13 (ix x1))) g >>= fun (r6 : Int × AG) => some (r6.1, r6.2)))) : Option (Int × AG)) >>= fun (r9 : Int × AG) => Voyage_pass_b x1 0 3 r9.1 0 r9.2)) else none
set_option synthInstance.maxHeartbeats 2000000 in
def Voyage_comesTo_b (x2 : Int) (x3 : Int) (tag : Nat) (x6 : Int) (x7 : Int) (g : AG) : Option (Int × AG) :=
  (if tag = 1 then (if nw x3 ≤ nw x7 then Voyage_comesTo_b x2 x3 2 x6 x2 g else (Voyage_pass x7 1 x6 g >>= fun (r2 : Int × AG) => Voyage_comesTo_b x2 x3 1 r2.1 (x7 + 1) r2.2)) else (if tag = 2 then (if nw x7 ≤ nw x3 then some (x6, g) else (Voyage_pass (x7 - 1) 0 x6 g >>= fun (r2 : Int × AG) => Voyage_comesTo_b x2 x3 2 r2.1 (x7 + (-1)) r2.2)) else none))
partial_fixpoint
def Voyage_comesTo (x1 : Int) (x2 : Int) (x3 : Int) (x4 : Int) (x5 : Int) (g : AG) : Option (Int × AG) :=
  (Voyage_setOut x1 x5 g >>= fun (r1 : Int × AG) => Voyage_comesTo_b x2 x3 1 x4 x2 r1.2)
def X_comes (x1 : Int) (x2 : Int) (x3 : Int) (x4 : Int) (g : AG) : Option (Int × AG) :=
  (if nw (X_isWay x1 x2 x3 x4 g) = 0 then some ((-1), g) else if 0 ≤ nw x1 ∧ nw x1 < 10 then (Voyage_comesTo (g 51 (ix x1)) x2 x3 x4 1 g >>= fun (r3 : Int × AG) => some (r3.1, r3.2)) else none)
set_option synthInstance.maxHeartbeats 2000000 in
def Voyage_reach_b (x2 : Int) (tag : Nat) (x4 : Int) (g : AG) : Option (Int × AG) :=
  (if tag = 1 then (if 15 ≤ nw x4 then Voyage_reach_b x2 2 x2 g else if 0 ≤ nw x4 ∧ nw x4 < 16 then (Voyage_pass x4 1 (g 46 (ix x4)) g >>= fun (r3 : Int × AG) => if 0 ≤ nw (x4 + 1) ∧ nw (x4 + 1) < 16 then (some (up r3.2 46 (ix (x4 + 1)) r3.1) >>= fun (g6 : AG) => Voyage_reach_b x2 1 (x4 + 1) g6) else none) else none) else (if tag = 2 then (if nw x4 ≤ 0 then some (0, g) else if 0 ≤ nw x4 ∧ nw x4 < 16 then (Voyage_pass (x4 - 1) 0 (g 46 (ix x4)) g >>= fun (r3 : Int × AG) => if 0 ≤ nw (x4 - 1) ∧ nw (x4 - 1) < 16 then (some (up r3.2 46 (ix (x4 - 1)) r3.1) >>= fun (g6 : AG) => Voyage_reach_b x2 2 (x4 + (-1)) g6) else none) else none) else none))
partial_fixpoint
def Voyage_reach (x1 : Int) (x2 : Int) (x3 : Int) (g : AG) : Option (Int × AG) :=
  (Voyage_setOut x1 1 g >>= fun (r1 : Int × AG) => if 0 ≤ nw x2 ∧ nw x2 < 16 then (some (up r1.2 46 (ix x2) x3) >>= fun (g4 : AG) => Voyage_reach_b x2 1 x2 g4) else none)
set_option synthInstance.maxHeartbeats 2000000 in
def Voyage_reached_b (x1 : Int) (g : AG) (x2 : Int) (x3 : Int) : Option Int :=
  (if 16 ≤ nw x3 then some x2 else if 0 ≤ nw x3 ∧ nw x3 < 16 then (((if nw (g 46 (ix x3)) = (-1) then some (x2) else (if nw x1 < nw (g 46 (ix x3)) then some (x2) else some ((orI x2 (shlI 1 x3))))) : Option (Int)) >>= fun (r5 : Int) => Voyage_reached_b x1 g r5 (x3 + 1)) else none)
partial_fixpoint
def Voyage_reached (x1 : Int) (g : AG) : Option Int :=
  Voyage_reached_b x1 g 0 0
def X_maybe (x1 : Int) (x2 : Int) (x3 : Int) (x4 : Int) (g : AG) : Option (Int × AG) :=
  (if nw (X_isWay x1 x2 x2 x3 g) = 0 then some ((-1), g) else (if nw (X_isTime x4) = 0 then some ((-1), g) else (if nw x3 ≤ nw x4 then if 0 ≤ nw x1 ∧ nw x1 < 10 then (Voyage_reach (g 51 (ix x1)) x2 x3 g >>= fun (r5 : Int × AG) => (Voyage_reached x4 r5.2 >>= fun (r7 : Int) => some (r7, r5.2))) else none else some ((-1), g))))
def Rules_valueOf (x1 : Int) (g : AG) : Option (Int × AG) :=
  (((if nw (X_within x1 0 ((g 2 3) - 1)) = 0 then some (0, g) else if 0 ≤ nw x1 ∧ nw x1 < 16 then (Rules_run (g 20 (ix x1)) (g 21 (ix x1)) g >>= fun (r3 : Int × AG) => some (r3.1, r3.2)) else none) : Option (Int × AG)) >>= fun (r5 : Int × AG) => some (r5.1, r5.2))
def Boats_harmOfLock (x1 : Int) (x2 : Int) (g : AG) : Option (Int × AG) :=
  (Rules_askDay x2 (g 1 5) g >>= fun (r1 : Int × AG) => if 0 ≤ nw x1 ∧ nw x1 < 10 then (some (up r1.2 27 (ix 3) (r1.2 48 (ix x1))) >>= fun (g4 : AG) => (some (up g4 27 (ix 5) (g4 49 (ix x1))) >>= fun (g6 : AG) => (some (up g6 27 (ix 8) (g6 51 (ix x1))) >>= fun (g8 : AG) => (Rules_serving 104 g8 >>= fun (r10 : Int × AG) => (((if nw r10.1 = (-1) then some (0, r10.2) else (Rules_valueOf r10.1 r10.2 >>= fun (r13 : Int × AG) => some ((mxI 0 (mnI 999 r13.1)), r13.2))) : Option (Int × AG)) >>= fun (r15 : Int × AG) => some (r15.1, r15.2)))))) else none)
set_option synthInstance.maxHeartbeats 2000000 in
def Boats_harmOfLatestWay_b (x1 : Int) (x2 : Int) (x3 : Int) (g : AG) : Option (Int × AG) :=
  (if 14 ≤ nw x3 then some (x2, g) else if 0 ≤ nw x3 ∧ nw x3 < 14 then (((if nw (g 47 (ix x3)) ≤ 0 then some (x2, g) else (Boats_harmOfLock x1 x3 g >>= fun (r4 : Int × AG) => some ((x2 + ((g 47 (ix x3)) * r4.1)), r4.2))) : Option (Int × AG)) >>= fun (r6 : Int × AG) => Boats_harmOfLatestWay_b x1 r6.1 (x3 + 1) r6.2) else none)
partial_fixpoint
def Boats_harmOfLatestWay (x1 : Int) (g : AG) : Option (Int × AG) :=
  Boats_harmOfLatestWay_b x1 0 0 g
def X_harm (x1 : Int) (x2 : Int) (x3 : Int) (x4 : Int) (g : AG) : Option (Int × AG) :=
  (if nw (X_isWay x1 x2 x3 x4 g) = 0 then some ((-1), g) else if 0 ≤ nw x1 ∧ nw x1 < 10 then (Voyage_comesTo (g 51 (ix x1)) x2 x3 x4 1 g >>= fun (r3 : Int × AG) => (((if nw r3.1 = (-1) then some ((-1), r3.2) else (Boats_harmOfLatestWay x1 r3.2 >>= fun (r6 : Int × AG) => some (r6.1, r6.2))) : Option (Int × AG)) >>= fun (r8 : Int × AG) => some (r8.1, r8.2))) else none)
def Trips_lateBy (x1 : Int) (x2 : Int) (g : AG) : Option (Int × AG) :=
  if 0 ≤ nw x1 ∧ nw x1 < 20 then if 0 ≤ nw (g 76 (ix x1)) ∧ nw (g 76 (ix x1)) < 10 then (Voyage_comesTo (g 51 (ix (g 76 (ix x1)))) (g 77 (ix x1)) (g 78 (ix x1)) (g 79 (ix x1)) x2 g >>= fun (r3 : Int × AG) => (((if nw r3.1 = (-1) then some (20160, r3.2) else some ((mxI 0 (r3.1 - (r3.2 80 (ix x1)))), r3.2)) : Option (Int × AG)) >>= fun (r6 : Int × AG) => some (r6.1, r6.2))) else none else none
def Rules_askWeek (x1 : Int) (g : AG) : Option (Int × AG) :=
  (some (fillG g 27 9 0) >>= fun (g1 : AG) => (some (up g1 27 (ix 1) x1) >>= fun (g3 : AG) => some (0, g3)))
def Boats_priceLine (x1 : Int) (x2 : Int) (x3 : Int) (g : AG) : Option (Int × AG) :=
  (Rules_askWeek x2 g >>= fun (r1 : Int × AG) => if 0 ≤ nw x1 ∧ nw x1 < 10 then (some (up r1.2 27 (ix 3) (r1.2 48 (ix x1))) >>= fun (g4 : AG) => (some ((if nw x3 = 0 then 0 else 1)) >>= fun (t6 : Int) => (some (up g4 27 (ix 4) t6) >>= fun (g8 : AG) => (some (up g8 27 (ix 5) (g8 49 (ix x1))) >>= fun (g10 : AG) => (Rules_serving 102 g10 >>= fun (r12 : Int × AG) => some (r12.1, r12.2)))))) else none)
def Trips_refund (x1 : Int) (g : AG) : Option (Int × AG) :=
  (Trips_lateBy x1 1 g >>= fun (r1 : Int × AG) => (if nw r1.1 = 0 then some (0, r1.2) else if 0 ≤ nw x1 ∧ nw x1 < 20 then (some ((if nw (r1.2 77 (ix x1)) = nw (r1.2 78 (ix x1)) then 0 else 1)) >>= fun (t5 : Int) => (Boats_priceLine (r1.2 76 (ix x1)) ((nw ((nw (r1.2 79 (ix x1))).tdiv 1440)).tdiv 7) t5 r1.2 >>= fun (r7 : Int × AG) => (if nw r7.1 = (-1) then some ((-1000000), r7.2) else (Rules_valueOf r7.1 r7.2 >>= fun (r10 : Int × AG) => some (((nl ((nw r10.1) * (nw (mnI 7 ((nw ((r1.1 + 1440) - 1)).tdiv 1440))))).tdiv 7), r10.2))))) else none))
def Trips_isBackInTime (x1 : Int) (x2 : Int) (g : AG) : Option (Int × AG) :=
  if 0 ≤ nw x1 ∧ nw x1 < 20 then if 0 ≤ nw (g 76 (ix x1)) ∧ nw (g 76 (ix x1)) < 10 then (Voyage_comesTo (g 51 (ix (g 76 (ix x1)))) (g 77 (ix x1)) x2 (g 79 (ix x1)) 1 g >>= fun (r3 : Int × AG) => (if nw r3.1 = (-1) then some (0, r3.2) else (Voyage_comesTo (g 51 (ix (g 76 (ix x1)))) x2 (r3.2 77 (ix x1)) r3.1 1 r3.2 >>= fun (r6 : Int × AG) => (((if nw r6.1 = (-1) then some (0, r6.2) else (some ((if nw (r6.2 80 (ix x1)) < nw r6.1 then 0 else 1)) >>= fun (t9 : Int) => some (t9, r6.2))) : Option (Int × AG)) >>= fun (r12 : Int × AG) => if r12.1 = 0 ∨ r12.1 = 1 then some (r12.1, r12.2) else none)))) else none else none
set_option synthInstance.maxHeartbeats 2000000 in
def Trips_turningBack_b (x1 : Int) (x3 : Int) (x4 : Int) (x2 : Int) (x5 : Int) (g : AG) : Option (Int × AG) :=
  (if nw x4 < nw x5 then some (x2, g) else if 0 ≤ nw x1 ∧ nw x1 < 20 then (Trips_isBackInTime x1 ((g 77 (ix x1)) + (x5 * x3)) g >>= fun (r3 : Int × AG) => (((if nw r3.1 = 0 then some (x2, r3.2) else some (((g 77 (ix x1)) + (x5 * x3)), r3.2)) : Option (Int × AG)) >>= fun (r6 : Int × AG) => Trips_turningBack_b x1 x3 x4 r6.1 (x5 + 1) r6.2)) else none)
partial_fixpoint
def Trips_turningBack (x1 : Int) (g : AG) : Option (Int × AG) :=
  if 0 ≤ nw x1 ∧ nw x1 < 20 then (some ((if nw (g 77 (ix x1)) ≤ nw (g 78 (ix x1)) then 1 else (-1))) >>= fun (t2 : Int) => Trips_turningBack_b x1 t2 (abI ((g 78 (ix x1)) - (g 77 (ix x1)))) (-1000000) 0 g) else none
def X_back (x1 : Int) (x2 : Int) (g : AG) : Option (Int × AG) :=
  (if nw (X_within x1 0 ((g 7 8) - 1)) = 0 then some ((-1000000), g) else (if nw x2 = 0 then (Trips_turningBack x1 g >>= fun (r8 : Int × AG) => some (r8.1, r8.2)) else (((if nw x2 = 1 then (Trips_refund x1 g >>= fun (r4 : Int × AG) => some (r4.1, r4.2)) else some ((-1000000), g)) : Option (Int × AG)) >>= fun (r6 : Int × AG) => some (r6.1, r6.2))))
set_option synthInstance.maxHeartbeats 2000000 in
def X_rung_b (x1 : Int) (x2 : Int) (g : AG) : Option (Int × AG) :=
  (if nw (g 7 8) ≤ nw x2 then some (x1, g) else (Trips_lateBy x2 1 g >>= fun (r2 : Int × AG) => (((if nw r2.1 ≤ 0 then some (x1, r2.2) else (Trips_lateBy x2 0 r2.2 >>= fun (r5 : Int × AG) => (if nw r5.1 = 0 then some ((orI x1 (shlI 1 x2)), r5.2) else some (x1, r5.2)))) : Option (Int × AG)) >>= fun (r8 : Int × AG) => X_rung_b r8.1 (x2 + 1) r8.2)))
partial_fixpoint
def X_rung (g : AG) : Option (Int × AG) :=
  X_rung_b 0 0 g
def Canal_setPump (x1 : Int) (x2 : Int) (g : AG) : Option (Int × AG) :=
  (((if nw x2 = 0 then (some (up g 1 6 (andI (g 1 6) (xorI (shlI 1 x1) (-1)))) >>= fun (g2 : AG) => some g2) else (some (up g 1 6 (orI (g 1 6) (shlI 1 x1))) >>= fun (g4 : AG) => some g4)) : Option (AG)) >>= fun (r6 : AG) => some (0, r6))
def X_pump (x1 : Int) (x2 : Int) (g : AG) : Option (Int × AG) :=
  (if nw (X_isPoint x1) = 0 then some (0, g) else (Canal_setPump x1 x2 g >>= fun (r2 : Int × AG) => some (1, r2.2)))
set_option synthInstance.maxHeartbeats 2000000 in
def Voyage_nextPump_b (g : AG) (x1 : Int) (x2 : Int) : Option Int :=
  (if 16 ≤ nw x2 then some x1 else (((if nw (andI (shrI (g 1 6) x2) 1) = 0 then some (0) else if 0 ≤ nw x2 ∧ nw x2 < 16 then (some ((if nw (g 46 (ix x2)) = (-1) then 0 else 1)) >>= fun (t4 : Int) => some (t4)) else none) : Option (Int)) >>= fun (r7 : Int) => (((if nw r7 = 0 then some (x1) else (if nw x1 = (-1) then some (x2) else if 0 ≤ nw x2 ∧ nw x2 < 16 then if 0 ≤ nw x1 ∧ nw x1 < 16 then (if nw (g 46 (ix x1)) ≤ nw (g 46 (ix x2)) then some (x1) else some (x2)) else none else none)) : Option (Int)) >>= fun (r14 : Int) => Voyage_nextPump_b g r14 (x2 + 1))))
partial_fixpoint
def Voyage_nextPump (g : AG) : Option Int :=
  Voyage_nextPump_b g (-1) 0
def X_pumped (x1 : Int) (x2 : Int) (x3 : Int) (x4 : Int) (x5 : Int) (g : AG) : Option (Int × AG) :=
  (if nw (X_isWay x1 x2 x2 x3 g) = 0 then some ((-1), g) else (if nw (X_isTime x4) = 0 then some ((-1), g) else (if nw x4 ≤ nw x3 then if 0 ≤ nw x1 ∧ nw x1 < 10 then (Voyage_reach (g 51 (ix x1)) x2 x3 g >>= fun (r5 : Int × AG) => (Voyage_nextPump r5.2 >>= fun (r7 : Int) => (if nw r7 = (-1) then some ((-1), r5.2) else (if nw (X_within x5 0 2) = 0 then some ((-1), r5.2) else (if nw x5 = 0 then some (r7, r5.2) else if 0 ≤ nw r7 ∧ nw r7 < 16 then (if nw x5 = 1 then some ((r5.2 46 (ix r7)), r5.2) else (some ((if nw (r5.2 46 (ix r7)) ≤ nw (x4 + 10080) then 0 else 1)) >>= fun (t14 : Int) => some (t14, r5.2))) else none))))) else none else some ((-1), g))))
set_option synthInstance.maxHeartbeats 2000000 in
def X_enough_b (x2 : Int) (x3 : Int) (x4 : Int) (x5 : Int) (tag : Nat) (x6 : Int) (g : AG) : Option (Int × AG) :=
  (if tag = 1 then (if 60 < nw x6 then some ((-1), g) else (if nw (X_isTime (x4 + x6)) = 0 then some ((-1), g) else (Voyage_comesTo x6 x2 x3 (x4 + x6) 1 g >>= fun (r3 : Int × AG) => (if nw r3.1 = (-1) then X_enough_b x2 x3 x4 x5 2 x6 r3.2 else (if nw x5 < nw r3.1 then X_enough_b x2 x3 x4 x5 2 x6 r3.2 else some (x6, r3.2)))))) else (if tag = 2 then X_enough_b x2 x3 x4 x5 1 (x6 + 1) g else none))
partial_fixpoint
def X_enough (x1 : Int) (x2 : Int) (x3 : Int) (x4 : Int) (x5 : Int) (g : AG) : Option (Int × AG) :=
  (if nw (X_isWay x1 x2 x3 x4 g) = 0 then some ((-1), g) else (if nw (X_isTime x5) = 0 then some ((-1), g) else X_enough_b x2 x3 x4 x5 1 0 g))
def Trips_add (x1 : Int) (x2 : Int) (x3 : Int) (x4 : Int) (x5 : Int) (g : AG) : Option (Int × AG) :=
  (if nw (g 7 8) < 20 then if 0 ≤ nw (g 7 8) ∧ nw (g 7 8) < 20 then (some (up g 76 (ix (g 7 8)) x1) >>= fun (g3 : AG) => if 0 ≤ nw (g3 7 8) ∧ nw (g3 7 8) < 20 then (some (up g3 77 (ix (g3 7 8)) x2) >>= fun (g6 : AG) => if 0 ≤ nw (g6 7 8) ∧ nw (g6 7 8) < 20 then (some (up g6 78 (ix (g6 7 8)) x3) >>= fun (g9 : AG) => if 0 ≤ nw (g9 7 8) ∧ nw (g9 7 8) < 20 then (some (up g9 79 (ix (g9 7 8)) x4) >>= fun (g12 : AG) => if 0 ≤ nw (g12 7 8) ∧ nw (g12 7 8) < 20 then (some (up g12 80 (ix (g12 7 8)) x5) >>= fun (g15 : AG) => (some (up g15 7 8 ((g15 7 8) + 1)) >>= fun (g17 : AG) => some (((g17 7 8) - 1), g17))) else none) else none) else none) else none) else none else some ((-1), g))
def X_trip (x1 : Int) (x2 : Int) (x3 : Int) (x4 : Int) (x5 : Int) (g : AG) : Option (Int × AG) :=
  (if nw (X_isWay x1 x2 x3 x4 g) = 0 then some ((-1), g) else (if nw (X_isTime x5) = 0 then some ((-1), g) else (Trips_add x1 x2 x3 x4 x5 g >>= fun (r3 : Int × AG) => some (r3.1, r3.2))))
set_option synthInstance.maxHeartbeats 2000000 in
def Trips_howManyLate_b (x1 : Int) (x2 : Int) (g : AG) : Option (Int × AG) :=
  (if nw (g 7 8) ≤ nw x2 then some (x1, g) else (Trips_lateBy x2 1 g >>= fun (r2 : Int × AG) => (((if nw r2.1 ≤ 0 then some (x1, r2.2) else some ((x1 + 1), r2.2)) : Option (Int × AG)) >>= fun (r5 : Int × AG) => Trips_howManyLate_b r5.1 (x2 + 1) r5.2)))
partial_fixpoint
def Trips_howManyLate (g : AG) : Option (Int × AG) :=
  Trips_howManyLate_b 0 0 g
def X_late (x1 : Int) (g : AG) : Option (Int × AG) :=
  (if nw x1 = (-1) then (Trips_howManyLate g >>= fun (r7 : Int × AG) => some (r7.1, r7.2)) else (((if nw (X_within x1 0 ((g 7 8) - 1)) = 0 then some ((-1), g) else (Trips_lateBy x1 1 g >>= fun (r3 : Int × AG) => some (r3.1, r3.2))) : Option (Int × AG)) >>= fun (r5 : Int × AG) => some (r5.1, r5.2)))
set_option synthInstance.maxHeartbeats 2000000 in
def Boats_addLog_b (x1 : Int) (x2 : Int) (x3 : Int) (x4 : Int) (g : AG) : Option (Int × AG) :=
  if 0 ≤ nw x1 ∧ nw x1 < 10 then if 0 ≤ nw x4 ∧ nw x4 < 10 then (some (up g (53 + ix x1) (ix x4) x2) >>= fun (g3 : AG) => (some (up g3 (64 + ix x1) (ix x4) x3) >>= fun (g5 : AG) => (some (up g5 74 (ix x1) (x4 + 1)) >>= fun (g7 : AG) => some ((x4 + 1), g7)))) else none else none
partial_fixpoint
def Boats_addLog (x1 : Int) (x2 : Int) (x3 : Int) (g : AG) : Option (Int × AG) :=
  if 0 ≤ nw x1 ∧ nw x1 < 10 then (if 10 ≤ nw (g 74 (ix x1)) then some ((-1), g) else (if nw (g 74 (ix x1)) ≤ 0 then Boats_addLog_b x1 x2 x3 (g 74 (ix x1)) g else if 0 ≤ nw ((g 74 (ix x1)) - 1) ∧ nw ((g 74 (ix x1)) - 1) < 10 then (if nw (g (64 + ix x1) (ix ((g 74 (ix x1)) - 1))) < nw x3 then Boats_addLog_b x1 x2 x3 (g 74 (ix x1)) g else some ((-1), g)) else none)) else none
def X_log (x1 : Int) (x2 : Int) (x3 : Int) (g : AG) : Option (Int × AG) :=
  (if nw (X_isWay x1 x2 x2 x3 g) = 0 then some ((-1), g) else (Boats_addLog x1 x2 x3 g >>= fun (r2 : Int × AG) => some (r2.1, r2.2)))
def Boats_placeOf (x1 : Int) (x2 : Int) (g : AG) : Option Int :=
  (((if 0 ≤ nw x2 then if 0 ≤ nw x1 ∧ nw x1 < 10 then if 0 ≤ nw x2 ∧ nw x2 < 10 then some ((g (53 + ix x1) (ix x2))) else none else none else if 0 ≤ nw x1 ∧ nw x1 < 10 then some ((g 50 (ix x1))) else none) : Option (Int)) >>= fun (r5 : Int) => some r5)
def Boats_timeOf (x1 : Int) (x2 : Int) (g : AG) : Option Int :=
  (((if 0 ≤ nw x2 then if 0 ≤ nw x1 ∧ nw x1 < 10 then if 0 ≤ nw x2 ∧ nw x2 < 10 then some ((g (64 + ix x1) (ix x2))) else none else none else some (0)) : Option (Int)) >>= fun (r4 : Int) => some r4)
def Boats_canBetween (x1 : Int) (x2 : Int) (x3 : Int) (x4 : Int) (x5 : Int) (g : AG) : Option (Int × AG) :=
  if 0 ≤ nw x1 ∧ nw x1 < 10 then (some ((if nw (x2 + 1) < nw (g 74 (ix x1)) then 0 else 1)) >>= fun (t2 : Int) => (((if nw t2 = 0 then if 0 ≤ nw (x2 + 1) ∧ nw (x2 + 1) < 10 then some ((g (64 + ix x1) (ix (x2 + 1))), g) else none else some (20160, g)) : Option (Int × AG)) >>= fun (r6 : Int × AG) => (Boats_placeOf x1 x2 r6.2 >>= fun (r8 : Int) => (Boats_timeOf x1 x2 r6.2 >>= fun (r10 : Int) => (Voyage_comesTo (r6.2 51 (ix x1)) r8 x3 r10 1 r6.2 >>= fun (r12 : Int × AG) => (if nw r12.1 = (-1) then some (0, r12.2) else (if nw x5 < nw (mxI r12.1 x4) then some (0, r12.2) else (if nw (mxI r12.1 x4) < nw r6.1 then (if nw t2 = 0 then if 0 ≤ nw (x2 + 1) ∧ nw (x2 + 1) < 10 then (Voyage_comesTo (r12.2 51 (ix x1)) x3 (r12.2 (53 + ix x1) (ix (x2 + 1))) (mxI r12.1 x4) 1 r12.2 >>= fun (r19 : Int × AG) => (some ((if nw r19.1 = (-1) then 0 else (if nw r6.1 < nw r19.1 then 0 else 1))) >>= fun (t21 : Int) => some (t21, r19.2))) else none else some (1, r12.2)) else some (0, r12.2))))))))) else none
set_option synthInstance.maxHeartbeats 2000000 in
def Boats_canHaveBeen_b (x1 : Int) (x2 : Int) (x3 : Int) (x4 : Int) (x5 : Int) (g : AG) : Option (Int × AG) :=
  if 0 ≤ nw x1 ∧ nw x1 < 10 then (if nw (g 74 (ix x1)) ≤ nw x5 then some (0, g) else (Boats_canBetween x1 x5 x2 x3 x4 g >>= fun (r3 : Int × AG) => (if nw r3.1 = 0 then Boats_canHaveBeen_b x1 x2 x3 x4 (x5 + 1) r3.2 else some (1, r3.2)))) else none
partial_fixpoint
def Boats_canHaveBeen (x1 : Int) (x2 : Int) (x3 : Int) (x4 : Int) (g : AG) : Option (Int × AG) :=
  Boats_canHaveBeen_b x1 x2 x3 x4 (-1) g
def X_could (x1 : Int) (x2 : Int) (x3 : Int) (x4 : Int) (g : AG) : Option (Int × AG) :=
  (if nw (X_isWay x1 x2 x2 x3 g) = 0 then some ((-1), g) else (if nw (X_isTime x4) = 0 then some ((-1), g) else (if nw x3 ≤ nw x4 then (Boats_canHaveBeen x1 x2 x3 x4 g >>= fun (r4 : Int × AG) => (some ((if nw r4.1 = 0 then 0 else 1)) >>= fun (t6 : Int) => some (t6, r4.2))) else some ((-1), g))))
set_option synthInstance.maxHeartbeats 2000000 in
def X_whose_b (x1 : Int) (x2 : Int) (x3 : Int) (x4 : Int) (x5 : Int) (x6 : Int) (x7 : Int) (g : AG) : Option (Int × AG) :=
  (if nw (g 6 7) ≤ nw x7 then (if nw x4 = 0 then some (x5, g) else (Integer_bitCount x5 g >>= fun (r3 : Int) => (some ((if nw r3 = 1 then x6 else (-1))) >>= fun (t5 : Int) => some (t5, g)))) else (Boats_canHaveBeen x7 x1 x2 x3 g >>= fun (r8 : Int × AG) => (((if nw r8.1 = 0 then some (x5, x6, r8.2) else some ((orI x5 (shlI 1 x7)), x7, r8.2)) : Option (Int × Int × AG)) >>= fun (r11 : Int × Int × AG) => X_whose_b x1 x2 x3 x4 r11.1 r11.2.1 (x7 + 1) r11.2.2)))
partial_fixpoint
def X_whose (x1 : Int) (x2 : Int) (x3 : Int) (x4 : Int) (g : AG) : Option (Int × AG) :=
  (if nw (X_isPoint x1) = 0 then some ((-1), g) else (if nw (X_isTime x2) = 0 then some ((-1), g) else (if nw (X_isTime x3) = 0 then some ((-1), g) else (if nw x2 ≤ nw x3 then (if nw (X_within x4 0 1) = 0 then some ((-1), g) else X_whose_b x1 x2 x3 x4 0 (-1) 0 g) else some ((-1), g)))))
set_option synthInstance.maxHeartbeats 2000000 in
def Boats_lastLog_b (x1 : Int) (x2 : Int) (g : AG) (x3 : Int) (x4 : Int) : Option Int :=
  if 0 ≤ nw x1 ∧ nw x1 < 10 then (if nw (g 74 (ix x1)) ≤ nw x4 then some x3 else if 0 ≤ nw x4 ∧ nw x4 < 10 then (if nw x2 < nw (g (64 + ix x1) (ix x4)) then some x3 else Boats_lastLog_b x1 x2 g x4 (x4 + 1)) else none) else none
partial_fixpoint
def Boats_lastLog (x1 : Int) (x2 : Int) (g : AG) : Option Int :=
  Boats_lastLog_b x1 x2 g (-1) 0
set_option synthInstance.maxHeartbeats 2000000 in
def Boats_settleTonight_b (x1 : Int) (tag : Nat) (x2 : Int) (x4 : Int) (x5 : Int) (g : AG) : Option (Int × AG) :=
  (if tag = 1 then (if nw (g 6 7) ≤ nw x2 then some (0, g) else (Boats_lastLog x2 x1 g >>= fun (r2 : Int) => if 0 ≤ nw x2 ∧ nw x2 < 10 then (Boats_placeOf x2 r2 g >>= fun (r5 : Int) => (Boats_timeOf x2 r2 g >>= fun (r7 : Int) => (Voyage_reach (g 51 (ix x2)) r5 r7 g >>= fun (r9 : Int × AG) => (Voyage_reached x1 r9.2 >>= fun (r11 : Int) => Boats_settleTonight_b x1 2 x2 r11 0 r9.2)))) else none)) else (if tag = 2 then (if 16 ≤ nw x5 then Boats_settleTonight_b x1 1 (x2 + 1) x4 x5 g else if 0 ≤ nw x5 ∧ nw x5 < 16 then (some (up g 75 (ix x5) (orI (g 75 (ix x5)) (shlI (andI (shrI x4 x5) 1) x2))) >>= fun (g3 : AG) => Boats_settleTonight_b x1 2 x2 x4 (x5 + 1) g3) else none) else none))
partial_fixpoint
def Boats_settleTonight (x1 : Int) (g : AG) : Option (Int × AG) :=
  (some (fillG g 75 16 0) >>= fun (g1 : AG) => Boats_settleTonight_b x1 1 0 0 0 g1)
set_option synthInstance.maxHeartbeats 2000000 in
def Boats_crowd_b (g : AG) (x1 : Int) (x2 : Int) : Option Int :=
  (if 16 ≤ nw x2 then some x1 else if 0 ≤ nw x2 ∧ nw x2 < 16 then (Integer_bitCount (g 75 (ix x2)) g >>= fun (r3 : Int) => if 0 ≤ nw x1 ∧ nw x1 < 16 then (Integer_bitCount (g 75 (ix x1)) g >>= fun (r6 : Int) => (((if nw r3 ≤ nw r6 then some (x1) else some (x2)) : Option (Int)) >>= fun (r9 : Int) => Boats_crowd_b g r9 (x2 + 1))) else none) else none)
partial_fixpoint
def Boats_crowd (g : AG) : Option Int :=
  Boats_crowd_b g 0 1
def X_tonight (x1 : Int) (x2 : Int) (g : AG) : Option (Int × AG) :=
  (if nw (X_isTime x1) = 0 then some ((-1), g) else (if nw (X_within x2 0 17) = 0 then some ((-1), g) else (Boats_settleTonight x1 g >>= fun (r3 : Int × AG) => (if 16 ≤ nw x2 then (Boats_crowd r3.2 >>= fun (r6 : Int) => (((if nw x2 = 16 then some (r6, r3.2) else if 0 ≤ nw r6 ∧ nw r6 < 16 then (Integer_bitCount (r3.2 75 (ix r6)) r3.2 >>= fun (r10 : Int) => some (r10, r3.2)) else none) : Option (Int × AG)) >>= fun (r12 : Int × AG) => some (r12.1, r12.2))) else if 0 ≤ nw x2 ∧ nw x2 < 16 then some ((r3.2 75 (ix x2)), r3.2) else none))))
def LockQueue_minutesOf_8_84 (x2 : Int) (g : AG) : Option Int :=
  (((if nw x2 ≤ 0 then some (15) else if 0 ≤ nw x2 ∧ nw x2 < 7 then if 0 ≤ nw (g 84 (ix x2)) ∧ nw (g 84 (ix x2)) < 7 then if 0 ≤ nw (x2 - 1) ∧ nw (x2 - 1) < 7 then if 0 ≤ nw (g 84 (ix (x2 - 1))) ∧ nw (g 84 (ix (x2 - 1))) < 7 then (some ((if nw (g 82 (ix (g 84 (ix x2)))) = nw (g 82 (ix (g 84 (ix (x2 - 1))))) then 20 else 15)) >>= fun (t6 : Int) => some (t6)) else none else none else none else none) : Option (Int)) >>= fun (r9 : Int) => some r9)
set_option synthInstance.maxHeartbeats 2000000 in
def LockQueue_waitOf_b (g : AG) (x2 : Int) (x3 : Int) (x4 : Int) : Option Int :=
  (if nw (g 8 2) ≤ nw x4 then some x2 else if 0 ≤ nw x4 ∧ nw x4 < 7 then if 0 ≤ nw (g 84 (ix x4)) ∧ nw (g 84 (ix x4)) < 7 then (some (x2 + ((mxI (g 81 (ix (g 84 (ix x4)))) x3) - (g 81 (ix (g 84 (ix x4)))))) >>= fun (t4 : Int) => (LockQueue_minutesOf_8_84 x4 g >>= fun (r6 : Int) => LockQueue_waitOf_b g t4 ((mxI (g 81 (ix (g 84 (ix x4)))) x3) + r6) (x4 + 1))) else none else none)
partial_fixpoint
def LockQueue_waitOf (g : AG) : Option Int :=
  LockQueue_waitOf_b g 0 0 0
def LockQueue_minutesOf_8_83 (x2 : Int) (g : AG) : Option Int :=
  (((if nw x2 ≤ 0 then some (15) else if 0 ≤ nw x2 ∧ nw x2 < 7 then if 0 ≤ nw (g 83 (ix x2)) ∧ nw (g 83 (ix x2)) < 7 then if 0 ≤ nw (x2 - 1) ∧ nw (x2 - 1) < 7 then if 0 ≤ nw (g 83 (ix (x2 - 1))) ∧ nw (g 83 (ix (x2 - 1))) < 7 then (some ((if nw (g 82 (ix (g 83 (ix x2)))) = nw (g 82 (ix (g 83 (ix (x2 - 1))))) then 20 else 15)) >>= fun (t6 : Int) => some (t6)) else none else none else none else none) : Option (Int)) >>= fun (r9 : Int) => some r9)
set_option synthInstance.maxHeartbeats 2000000 in
def LockQueue_putNext_b (rec : Int → Int → Int → Int → AG → Option (Int × AG)) (x1 : Int) (x2 : Int) (x3 : Int) (x4 : Int) (x5 : Int) (g : AG) : Option (Int × AG) :=
  (if nw (g 8 2) ≤ nw x5 then some (0, g) else if 0 ≤ nw x5 ∧ nw x5 < 7 then (((if nw (andI (shrI x2 x5) 1) = 0 then (if nw (g 8 4) ≤ nw ((x4 + (mxI (g 81 (ix x5)) x3)) - (g 81 (ix x5))) then some g else if 0 ≤ nw x1 ∧ nw x1 < 7 then (some (up g 83 (ix x1) x5) >>= fun (g6 : AG) => (LockQueue_minutesOf_8_83 x1 g6 >>= fun (r8 : Int) => (rec (x1 + 1) (orI x2 (shlI 1 x5)) ((mxI (g 81 (ix x5)) x3) + r8) ((x4 + (mxI (g 81 (ix x5)) x3)) - (g 81 (ix x5))) g6 >>= fun (r10 : Int × AG) => some r10.2))) else none) else some g) : Option (AG)) >>= fun (r12 : AG) => LockQueue_putNext_b rec x1 x2 x3 x4 (x5 + 1) r12) else none)
partial_fixpoint
def LockQueue_putNext_s (rec : Int → Int → Int → Int → AG → Option (Int × AG)) (x1 : Int) (x2 : Int) (x3 : Int) (x4 : Int) (g : AG) : Option (Int × AG) :=
  (if nw x1 < nw (g 8 2) then LockQueue_putNext_b rec x1 x2 x3 x4 0 g else (some (up g 8 4 x4) >>= fun (g2 : AG) => if 0 ≤ 0 ∧ 0 ≤ 0 ∧ 0 ≤ nw (g2 8 2) ∧ 0 + nw (g2 8 2) ≤ 7 ∧ 0 + nw (g2 8 2) ≤ 7 then (some (copyG g2 83 (ix 0) 84 (ix 0) (ix (g2 8 2))) >>= fun (g5 : AG) => some (0, g5)) else none))
def LockQueue_putNext : Nat → Int → Int → Int → Int → AG → Option (Int × AG)
  | 0 => fun _ _ _ _ _ => none
  | n + 1 => fun x1 x2 x3 x4 g => LockQueue_putNext_s (LockQueue_putNext n) x1 x2 x3 x4 g
set_option synthInstance.maxHeartbeats 2000000 in
def LockQueue_findBest_b (x1 : Int) (g : AG) : Option (Int × AG) :=
  (if nw (g 8 2) ≤ nw x1 then (LockQueue_waitOf g >>= fun (r2 : Int) => (some (up g 8 3 r2) >>= fun (g4 : AG) => (some (up g4 8 4 (g4 8 3)) >>= fun (g6 : AG) => (LockQueue_putNext 9 0 0 0 0 g6 >>= fun (r8 : Int × AG) => some (0, r8.2))))) else if 0 ≤ nw x1 ∧ nw x1 < 7 then (some (up g 84 (ix x1) x1) >>= fun (g11 : AG) => LockQueue_findBest_b (x1 + 1) g11) else none)
partial_fixpoint
def LockQueue_findBest (g : AG) : Option (Int × AG) :=
  LockQueue_findBest_b 0 g
set_option synthInstance.maxHeartbeats 2000000 in
def LockQueue_add_b (x1 : Int) (x2 : Int) (g : AG) : Option (Int × AG) :=
  if 0 ≤ nw (g 8 2) ∧ nw (g 8 2) < 7 then (some (up g 81 (ix (g 8 2)) x1) >>= fun (g2 : AG) => if 0 ≤ nw (g2 8 2) ∧ nw (g2 8 2) < 7 then (some (up g2 82 (ix (g2 8 2)) x2) >>= fun (g5 : AG) => (some (up g5 8 2 ((g5 8 2) + 1)) >>= fun (g7 : AG) => (LockQueue_findBest g7 >>= fun (r9 : Int × AG) => some ((r9.2 8 2), r9.2)))) else none) else none
partial_fixpoint
def LockQueue_add (x1 : Int) (x2 : Int) (g : AG) : Option (Int × AG) :=
  (if 7 ≤ nw (g 8 2) then some ((-1), g) else (if nw (g 8 2) ≤ 0 then LockQueue_add_b x1 x2 g else if 0 ≤ nw ((g 8 2) - 1) ∧ nw ((g 8 2) - 1) < 7 then (if nw (g 81 (ix ((g 8 2) - 1))) ≤ nw x1 then LockQueue_add_b x1 x2 g else some ((-1), g)) else none))
def LockQueue_clear (g : AG) : Option (Int × AG) :=
  (some (up g 8 2 0) >>= fun (g1 : AG) => (some (up g1 8 3 0) >>= fun (g3 : AG) => (some (up g3 8 4 0) >>= fun (g5 : AG) => some (0, g5))))
def X_queue (x1 : Int) (x2 : Int) (g : AG) : Option (Int × AG) :=
  (if nw x2 = (-1) then (LockQueue_clear g >>= fun (r6 : Int × AG) => some (0, r6.2)) else (if nw (X_within x2 0 1) = 0 then some ((-1), g) else (if nw (X_within x1 0 9999) = 0 then some ((-1), g) else (LockQueue_add x1 x2 g >>= fun (r4 : Int × AG) => some (r4.1, r4.2)))))
set_option synthInstance.maxHeartbeats 2000000 in
def LockQueue_lockfulsAsCome_b (g : AG) (x1 : Int) (x2 : Int) : Option Int :=
  (if nw (g 8 2) ≤ nw x2 then some x1 else if 0 ≤ nw x2 ∧ nw x2 < 7 then if 0 ≤ nw (x2 - 1) ∧ nw (x2 - 1) < 7 then (some ((if nw (g 82 (ix x2)) = nw (g 82 (ix (x2 - 1))) then 0 else 1)) >>= fun (t4 : Int) => LockQueue_lockfulsAsCome_b g (x1 - t4) (x2 + 1)) else none else none)
partial_fixpoint
def LockQueue_lockfulsAsCome (g : AG) : Option Int :=
  LockQueue_lockfulsAsCome_b g (g 8 2) 1
set_option synthInstance.maxHeartbeats 2000000 in
def LockQueue_lockfulsAtBest_b (g : AG) (x1 : Int) (x2 : Int) : Option Int :=
  (if nw (g 8 2) ≤ nw x2 then some x1 else if 0 ≤ nw x2 ∧ nw x2 < 7 then if 0 ≤ nw (g 84 (ix x2)) ∧ nw (g 84 (ix x2)) < 7 then if 0 ≤ nw (x2 - 1) ∧ nw (x2 - 1) < 7 then if 0 ≤ nw (g 84 (ix (x2 - 1))) ∧ nw (g 84 (ix (x2 - 1))) < 7 then (some ((if nw (g 82 (ix (g 84 (ix x2)))) = nw (g 82 (ix (g 84 (ix (x2 - 1))))) then 0 else 1)) >>= fun (t6 : Int) => LockQueue_lockfulsAtBest_b g (x1 - t6) (x2 + 1)) else none else none else none else none)
partial_fixpoint
def LockQueue_lockfulsAtBest (g : AG) : Option Int :=
  LockQueue_lockfulsAtBest_b g (g 8 2) 1
def LockQueue_atBest (x1 : Int) (g : AG) : Option Int :=
  (((if nw (X_within (x1 - 10) 0 ((g 8 2) - 1)) = 0 then some ((-1)) else if 0 ≤ nw (x1 - 10) ∧ nw (x1 - 10) < 7 then some ((g 84 (ix (x1 - 10)))) else none) : Option (Int)) >>= fun (r3 : Int) => some r3)
def X_lock (x1 : Int) (g : AG) : Option Int :=
  (if nw x1 = 0 then some (g 8 3) else (if nw x1 = 1 then some (g 8 4) else (if nw x1 = 2 then (LockQueue_lockfulsAsCome g >>= fun (r4 : Int) => some r4) else (if nw x1 = 3 then (LockQueue_lockfulsAtBest g >>= fun (r7 : Int) => some r7) else (LockQueue_atBest x1 g >>= fun (r9 : Int) => some r9)))))
def X_isWeek (x0 : Int) : Int :=
  (X_within x0 0 9)
theorem X_isWeek_01 {x0 : Int} : (X_isWeek x0) = 0 ∨ (X_isWeek x0) = 1 := by
  unfold X_isWeek
  (repeat' split) <;> first | exact Or.inl rfl | exact Or.inr rfl | exact X_within_01
set_option synthInstance.maxHeartbeats 2000000 in
def Bookings_putInOrder_b (tag : Nat) (x1 : Int) (x2 : Int) (x3 : Int) (g : AG) : Option (Int × AG) :=
  (if tag = 1 then (if 10 ≤ nw x2 then some (0, g) else Bookings_putInOrder_b 2 x1 x2 0 g) else (if tag = 2 then (if nw (g 9 4) ≤ nw x3 then Bookings_putInOrder_b 1 x1 (x2 + 1) x3 g else if 0 ≤ nw x3 ∧ nw x3 < 8 then (((if nw (g 87 (ix x3)) = nw x2 then if 0 ≤ nw x1 ∧ nw x1 < 8 then (some (up g 89 (ix x1) x3) >>= fun (g5 : AG) => some ((x1 + 1), g5)) else none else some (x1, g)) : Option (Int × AG)) >>= fun (r7 : Int × AG) => Bookings_putInOrder_b 2 r7.1 x2 (x3 + 1) r7.2) else none) else none))
partial_fixpoint
def Bookings_putInOrder (g : AG) : Option (Int × AG) :=
  Bookings_putInOrder_b 1 0 0 0 g
def Bookings_add (x1 : Int) (x2 : Int) (x3 : Int) (x4 : Int) (g : AG) : Option (Int × AG) :=
  (if nw (g 9 4) < 8 then if 0 ≤ nw (g 9 4) ∧ nw (g 9 4) < 8 then (some (up g 85 (ix (g 9 4)) x1) >>= fun (g3 : AG) => if 0 ≤ nw (g3 9 4) ∧ nw (g3 9 4) < 8 then (some (up g3 86 (ix (g3 9 4)) x2) >>= fun (g6 : AG) => if 0 ≤ nw (g6 9 4) ∧ nw (g6 9 4) < 8 then (some (up g6 87 (ix (g6 9 4)) x3) >>= fun (g9 : AG) => if 0 ≤ nw (g9 9 4) ∧ nw (g9 9 4) < 8 then (some (up g9 88 (ix (g9 9 4)) x4) >>= fun (g12 : AG) => (some (up g12 9 4 ((g12 9 4) + 1)) >>= fun (g14 : AG) => (some (up g14 9 11 0) >>= fun (g16 : AG) => (Bookings_putInOrder g16 >>= fun (r18 : Int × AG) => some (((r18.2 9 4) - 1), r18.2))))) else none) else none) else none) else none else some ((-1), g))
def X_booking (x1 : Int) (x2 : Int) (x3 : Int) (x4 : Int) (g : AG) : Option (Int × AG) :=
  (if nw (X_isPoint x1) = 0 then some ((-1), g) else (if nw (X_isPoint x2) = 0 then some ((-1), g) else (if nw (X_isWeek x3) = 0 then some ((-1), g) else (if nw (X_isBerths x4) = 0 then some ((-1), g) else (Bookings_add x1 x2 x3 x4 g >>= fun (r5 : Int × AG) => some (r5.1, r5.2))))))
def Bookings_hire (x1 : Int) (x2 : Int) (x3 : Int) (g : AG) : Option (Int × AG) :=
  if 0 ≤ nw x1 ∧ nw x1 < 4 then (((if nw (g 90 (ix x1)) = nw x2 then (if nw (g 91 (ix x1)) = nw x3 then some g else (some (up g 9 11 0) >>= fun (g6 : AG) => some g6)) else (some (up g 9 11 0) >>= fun (g3 : AG) => some g3)) : Option (AG)) >>= fun (r8 : AG) => (some (up r8 90 (ix x1) x2) >>= fun (g10 : AG) => (some (up g10 91 (ix x1) x3) >>= fun (g12 : AG) => some (0, g12)))) else none
set_option synthInstance.maxHeartbeats 2000000 in
def X_hireFirst_b (x1 : Int) (x2 : Int) (g : AG) : Option (Int × AG) :=
  (if nw x1 ≤ nw x2 then some (0, g) else if 0 ≤ nw x2 ∧ nw x2 < 10 then (Bookings_hire x2 (g 48 (ix x2)) (g 50 (ix x2)) g >>= fun (r3 : Int × AG) => X_hireFirst_b x1 (x2 + 1) r3.2) else none)
partial_fixpoint
def X_hireFirst (x1 : Int) (g : AG) : Option (Int × AG) :=
  X_hireFirst_b x1 0 g
set_option synthInstance.maxHeartbeats 2000000 in
def Bookings_canCome_b (x2 : Int) (g : AG) (tag : Nat) (x3 : Int) : Option Int :=
  (if tag = 1 then (if nw (g 9 4) ≤ nw x3 then some 0 else if 0 ≤ nw x3 ∧ nw x3 < 8 then if 0 ≤ nw x2 ∧ nw x2 < 8 then (if nw (g 87 (ix x2)) ≤ nw (g 87 (ix x3)) then Bookings_canCome_b x2 g 2 x3 else (if nw (g 86 (ix x3)) = nw (g 85 (ix x2)) then some 1 else Bookings_canCome_b x2 g 2 x3)) else none else none) else (if tag = 2 then Bookings_canCome_b x2 g 1 (x3 + 1) else none))
partial_fixpoint
def Bookings_canCome (x1 : Int) (x2 : Int) (g : AG) : Option Int :=
  if 0 ≤ nw x1 ∧ nw x1 < 4 then if 0 ≤ nw x2 ∧ nw x2 < 8 then (if nw (g 91 (ix x1)) = nw (g 85 (ix x2)) then some 1 else Bookings_canCome_b x2 g 1 0) else none else none
set_option synthInstance.maxHeartbeats 2000000 in
def Bookings_canEverBeGiven_b (x1 : Int) (g : AG) (tag : Nat) (x2 : Int) : Option Int :=
  (if tag = 1 then (if nw (g 9 10) ≤ nw x2 then some 0 else if 0 ≤ nw x2 ∧ nw x2 < 4 then if 0 ≤ nw x1 ∧ nw x1 < 8 then (if nw (g 90 (ix x2)) < nw (g 88 (ix x1)) then Bookings_canEverBeGiven_b x1 g 2 x2 else (Bookings_canCome x2 x1 g >>= fun (r5 : Int) => (if nw r5 = 0 then Bookings_canEverBeGiven_b x1 g 2 x2 else some 1))) else none else none) else (if tag = 2 then Bookings_canEverBeGiven_b x1 g 1 (x2 + 1) else none))
partial_fixpoint
def Bookings_canEverBeGiven (x1 : Int) (g : AG) : Option Int :=
  Bookings_canEverBeGiven_b x1 g 1 0
set_option synthInstance.maxHeartbeats 2000000 in
def Bookings_compare_b (x1 : Int) (g : AG) (x2 : Int) (x3 : Int) : Option (Int × AG) :=
  (if nw (g 9 10) ≤ nw x3 then (((if nw (g 9 15) < nw x1 then (some (up g 9 15 x1) >>= fun (g3 : AG) => (some (up g3 9 16 x2) >>= fun (g5 : AG) => if 0 ≤ 0 ∧ 0 ≤ 0 ∧ 0 ≤ nw (g5 9 4) ∧ 0 + nw (g5 9 4) ≤ 8 ∧ 0 + nw (g5 9 4) ≤ 8 then (some (copyG g5 95 (ix 0) 96 (ix 0) (ix (g5 9 4))) >>= fun (g8 : AG) => some g8) else none)) else (if nw x1 = nw (g 9 15) then (if nw x2 ≤ nw (g 9 16) then some g else (some (up g 9 15 x1) >>= fun (g12 : AG) => (some (up g12 9 16 x2) >>= fun (g14 : AG) => if 0 ≤ 0 ∧ 0 ≤ 0 ∧ 0 ≤ nw (g14 9 4) ∧ 0 + nw (g14 9 4) ≤ 8 ∧ 0 + nw (g14 9 4) ≤ 8 then (some (copyG g14 95 (ix 0) 96 (ix 0) (ix (g14 9 4))) >>= fun (g17 : AG) => some g17) else none))) else some g)) : Option (AG)) >>= fun (r19 : AG) => some (0, r19)) else if 0 ≤ nw x3 ∧ nw x3 < 4 then (some ((if nw (g 92 (ix x3)) = nw (g 91 (ix x3)) then 1 else 0)) >>= fun (t22 : Int) => Bookings_compare_b x1 g (x2 + t22) (x3 + 1)) else none)
partial_fixpoint
def Bookings_compare (x1 : Int) (g : AG) : Option (Int × AG) :=
  Bookings_compare_b x1 g 0 0
def Bookings_canHave (x1 : Int) (x2 : Int) (g : AG) : Option Int :=
  if 0 ≤ nw x1 ∧ nw x1 < 4 then if 0 ≤ nw x2 ∧ nw x2 < 8 then (((if nw (g 90 (ix x1)) < nw (g 88 (ix x2)) then some (0) else (if nw (g 92 (ix x1)) = nw (g 85 (ix x2)) then (some ((if nw (g 87 (ix x2)) ≤ nw (g 93 (ix x1)) then 0 else 1)) >>= fun (t5 : Int) => some (t5)) else some (0))) : Option (Int)) >>= fun (r8 : Int) => if r8 = 0 ∨ r8 = 1 then some r8 else none) else none else none
set_option synthInstance.maxHeartbeats 2000000 in
def Bookings_giveNext_b (rec : Int → Int → AG → Option (Int × AG)) (x1 : Int) (x2 : Int) (tag : Nat) (x4 : Int) (x5 : Int) (g : AG) : Option (Int × AG) :=
  (if tag = 1 then (if nw x1 < nw (g 9 4) then if 0 ≤ nw x1 ∧ nw x1 < 8 then Bookings_giveNext_b rec x1 x2 2 (g 89 (ix x1)) 0 g else none else (Bookings_compare x2 g >>= fun (r3 : Int × AG) => some (0, r3.2))) else (if tag = 2 then (if nw (g 9 10) ≤ nw x5 then if 0 ≤ nw x4 ∧ nw x4 < 8 then (some (up g 95 (ix x4) (-1)) >>= fun (g3 : AG) => (rec (x1 + 1) x2 g3 >>= fun (r5 : Int × AG) => some (0, r5.2))) else none else (Bookings_canHave x5 x4 g >>= fun (r7 : Int) => (((if nw r7 = 0 then some g else if 0 ≤ nw x5 ∧ nw x5 < 4 then if 0 ≤ nw x4 ∧ nw x4 < 8 then (some (up g 95 (ix x4) x5) >>= fun (g12 : AG) => (some (up g12 92 (ix x5) (g12 86 (ix x4))) >>= fun (g14 : AG) => (some (up g14 93 (ix x5) (g14 87 (ix x4))) >>= fun (g16 : AG) => (rec (x1 + 1) (x2 + 1) g16 >>= fun (r18 : Int × AG) => (some (up r18.2 92 (ix x5) (g 92 (ix x5))) >>= fun (g20 : AG) => (some (up g20 93 (ix x5) (g 93 (ix x5))) >>= fun (g22 : AG) => some g22)))))) else none else none) : Option (AG)) >>= fun (r24 : AG) => Bookings_giveNext_b rec x1 x2 2 x4 (x5 + 1) r24))) else none))
partial_fixpoint
def Bookings_giveNext_s (rec : Int → Int → AG → Option (Int × AG)) (x1 : Int) (x2 : Int) (g : AG) : Option (Int × AG) :=
  if 0 ≤ nw x1 ∧ nw x1 < 9 then (if nw (x2 + (g 94 (ix x1))) < nw (g 9 15) then some (0, g) else (if nw (x2 + (g 94 (ix x1))) = nw (g 9 15) then (if nw (g 9 16) < nw (g 9 10) then Bookings_giveNext_b rec x1 x2 1 0 0 g else some (0, g)) else Bookings_giveNext_b rec x1 x2 1 0 0 g)) else none
def Bookings_giveNext : Nat → Int → Int → AG → Option (Int × AG)
  | 0 => fun _ _ _ => none
  | n + 1 => fun x1 x2 g => Bookings_giveNext_s (Bookings_giveNext n) x1 x2 g
set_option synthInstance.maxHeartbeats 2000000 in
def Bookings_giveBest_b (tag : Nat) (x2 : Int) (g : AG) : Option (Int × AG) :=
  (if tag = 1 then (if nw (g 9 10) ≤ nw x2 then if 0 ≤ nw (g 9 4) ∧ nw (g 9 4) < 9 then (some (up g 94 (ix (g 9 4)) 0) >>= fun (g3 : AG) => Bookings_giveBest_b 2 ((g3 9 4) - 1) g3) else none else if 0 ≤ nw x2 ∧ nw x2 < 4 then (some (up g 92 (ix x2) (g 91 (ix x2))) >>= fun (g6 : AG) => (some (up g6 93 (ix x2) (-1)) >>= fun (g8 : AG) => Bookings_giveBest_b 1 (x2 + 1) g8)) else none) else (if tag = 2 then (if nw x2 < 0 then (Bookings_giveNext 10 0 0 g >>= fun (r2 : Int × AG) => some (0, r2.2)) else if 0 ≤ nw (x2 + 1) ∧ nw (x2 + 1) < 9 then if 0 ≤ nw x2 ∧ nw x2 < 8 then (Bookings_canEverBeGiven (g 89 (ix x2)) g >>= fun (r6 : Int) => (some ((if nw r6 = 0 then 0 else 1)) >>= fun (t8 : Int) => if 0 ≤ nw x2 ∧ nw x2 < 9 then (some (up g 94 (ix x2) ((g 94 (ix (x2 + 1))) + t8)) >>= fun (g11 : AG) => Bookings_giveBest_b 2 (x2 + (-1)) g11) else none)) else none else none) else none))
partial_fixpoint
def Bookings_giveBest (x1 : Int) (g : AG) : Option (Int × AG) :=
  (if nw x1 = nw (g 9 11) then some (0, g) else (some (up g 9 10 (mnI x1 4)) >>= fun (g2 : AG) => (some (up g2 9 11 x1) >>= fun (g4 : AG) => (some (up g4 9 15 (-1)) >>= fun (g6 : AG) => (some (up g6 9 16 (-1)) >>= fun (g8 : AG) => Bookings_giveBest_b 1 0 g8)))))
def X_given (x1 : Int) (x2 : Int) (g : AG) : Option (Int × AG) :=
  (if nw (X_within x1 1 4) = 0 then some ((-1), g) else (if nw x1 ≤ nw (g 6 7) then (X_hireFirst x1 g >>= fun (r3 : Int × AG) => (Bookings_giveBest x1 r3.2 >>= fun (r5 : Int × AG) => (if nw x2 = 0 then some ((r5.2 9 15), r5.2) else (if nw x2 = 1 then some ((r5.2 9 16), r5.2) else (if nw x2 < 10 then some ((-1), r5.2) else (if nw (x2 - 10) < nw (r5.2 9 4) then if 0 ≤ nw (x2 - 10) ∧ nw (x2 - 10) < 8 then some ((r5.2 96 (ix (x2 - 10))), r5.2) else none else some ((-1), r5.2))))))) else some ((-1), g)))
def X_more (x1 : Int) (x2 : Int) (x3 : Int) (g : AG) : Option (Int × AG) :=
  (if nw (X_within x1 1 3) = 0 then some ((-1), g) else (if nw x1 ≤ nw (g 6 7) then (if nw (X_isBerths x2) = 0 then some ((-1), g) else (if nw (X_isPoint x3) = 0 then some ((-1), g) else (X_hireFirst x1 g >>= fun (r5 : Int × AG) => (Bookings_hire x1 x2 x3 r5.2 >>= fun (r7 : Int × AG) => (Bookings_giveBest x1 r7.2 >>= fun (r9 : Int × AG) => (Bookings_giveBest (x1 + 1) r9.2 >>= fun (r11 : Int × AG) => some (((r11.2 9 15) - (r9.2 9 15)), r11.2))))))) else some ((-1), g)))
set_option synthInstance.maxHeartbeats 2000000 in
def Yard_othersInDock_b (x1 : Int) (g : AG) (x2 : Int) (x3 : Int) : Option Int :=
  (if 10 ≤ nw x3 then some x2 else (((if nw x3 = nw x1 then some (0) else if 0 ≤ nw x3 ∧ nw x3 < 10 then (some ((if nw (g 98 (ix x3)) ≤ 0 then 0 else 1)) >>= fun (t4 : Int) => some (t4)) else none) : Option (Int)) >>= fun (r7 : Int) => Yard_othersInDock_b x1 g (x2 + r7) (x3 + 1)))
partial_fixpoint
def Yard_othersInDock (x1 : Int) (g : AG) : Option Int :=
  Yard_othersInDock_b x1 g 0 0
def Yard_tellDock (x1 : Int) (x2 : Int) (x3 : Int) (g : AG) : Option (Int × AG) :=
  (Yard_othersInDock x1 g >>= fun (r1 : Int) => (if nw r1 < 7 then if 0 ≤ nw x1 ∧ nw x1 < 10 then (some (up g 97 (ix x1) x2) >>= fun (g5 : AG) => (some (up g5 98 (ix x1) x3) >>= fun (g7 : AG) => some (1, g7))) else none else some (0, g)))
def X_gas (x1 : Int) (x2 : Int) (x3 : Int) (g : AG) : Option (Int × AG) :=
  (if nw (X_isBoat x1 g) = 0 then some (0, g) else (if nw (X_within x2 0 999) = 0 then some (0, g) else (if nw (X_within x3 0 60) = 0 then some (0, g) else (Yard_tellDock x1 x2 x3 g >>= fun (r4 : Int × AG) => if r4.1 = 0 ∨ r4.1 = 1 then some (r4.1, r4.2) else none))))
def Yard_isBetter (x1 : Int) (x2 : Int) (x3 : Int) (g : AG) : Option Int :=
  if 0 ≤ nw x1 ∧ nw x1 < 128 then (((if nw (g 102 (ix x1)) = (-1) then some (1) else (if nw x2 < nw (g 100 (ix x1)) then some (1) else (if nw x2 = nw (g 100 (ix x1)) then (some ((if nw (g 101 (ix x1)) ≤ nw x3 then 0 else 1)) >>= fun (t5 : Int) => some (t5)) else some (0)))) : Option (Int)) >>= fun (r8 : Int) => if r8 = 0 ∨ r8 = 1 then some r8 else none) else none
set_option synthInstance.maxHeartbeats 2000000 in
def Yard_chooseNext_b (x1 : Int) (tag : Nat) (x2 : Int) (x3 : Int) (g : AG) : Option (Int × AG) :=
  (if tag = 1 then (if nw (g 10 2) ≤ nw x3 then if 0 ≤ nw x1 ∧ nw x1 < 128 then (some (up g 102 (ix x1) (-1)) >>= fun (g3 : AG) => Yard_chooseNext_b x1 2 x2 0 g3) else none else (((if nw (andI (shrI x1 x3) 1) = 0 then some (0, g) else if 0 ≤ nw x3 ∧ nw x3 < 7 then if 0 ≤ nw (g 99 (ix x3)) ∧ nw (g 99 (ix x3)) < 10 then some ((g 98 (ix (g 99 (ix x3)))), g) else none else none) : Option (Int × AG)) >>= fun (r8 : Int × AG) => Yard_chooseNext_b x1 1 (x2 + r8.1) (x3 + 1) r8.2)) else (if tag = 2 then (if nw (g 10 2) ≤ nw x3 then some (0, g) else (((if nw (andI (shrI x1 x3) 1) = 0 then if 0 ≤ nw x3 ∧ nw x3 < 7 then if 0 ≤ nw (g 99 (ix x3)) ∧ nw (g 99 (ix x3)) < 10 then if 0 ≤ nw (orI x1 (shlI 1 x3)) ∧ nw (orI x1 (shlI 1 x3)) < 128 then (some ((if nw (x2 + (g 98 (ix (g 99 (ix x3))))) ≤ nw (g 97 (ix (g 99 (ix x3)))) then 0 else 1)) >>= fun (t6 : Int) => (some ((g 101 (ix (orI x1 (shlI 1 x3)))) + (x2 + (g 98 (ix (g 99 (ix x3)))))) >>= fun (t8 : Int) => (Yard_isBetter x1 ((g 100 (ix (orI x1 (shlI 1 x3)))) + t6) t8 g >>= fun (r10 : Int) => (if nw r10 = 0 then some g else if 0 ≤ nw x1 ∧ nw x1 < 128 then (some (up g 100 (ix x1) ((g 100 (ix (orI x1 (shlI 1 x3)))) + t6)) >>= fun (g14 : AG) => (some (up g14 101 (ix x1) t8) >>= fun (g16 : AG) => (some (up g16 102 (ix x1) x3) >>= fun (g18 : AG) => some g18))) else none)))) else none else none else none else some g) : Option (AG)) >>= fun (r21 : AG) => Yard_chooseNext_b x1 2 x2 (x3 + 1) r21)) else none))
partial_fixpoint
def Yard_chooseNext (x1 : Int) (g : AG) : Option (Int × AG) :=
  Yard_chooseNext_b x1 1 0 0 g
set_option synthInstance.maxHeartbeats 2000000 in
def Yard_orderDock_b (tag : Nat) (x1 : Int) (x2 : Int) (g : AG) : Option (Int × AG) :=
  (if tag = 1 then (if 10 ≤ nw x1 then if 0 ≤ nw ((shlI 1 (g 10 2)) - 1) ∧ nw ((shlI 1 (g 10 2)) - 1) < 128 then (some (up g 100 (ix ((shlI 1 (g 10 2)) - 1)) 0) >>= fun (g3 : AG) => (some (up g3 101 (ix ((shlI 1 (g 10 2)) - 1)) 0) >>= fun (g5 : AG) => Yard_orderDock_b 2 x1 (((shlI 1 (g 10 2)) - 1) - 1) g5)) else none else if 0 ≤ nw x1 ∧ nw x1 < 10 then (((if nw (g 98 (ix x1)) ≤ 0 then some g else (if 7 ≤ nw (g 10 2) then some g else if 0 ≤ nw (g 10 2) ∧ nw (g 10 2) < 7 then (some (up g 99 (ix (g 10 2)) x1) >>= fun (g11 : AG) => (some (up g11 10 2 ((g11 10 2) + 1)) >>= fun (g13 : AG) => some g13)) else none)) : Option (AG)) >>= fun (r15 : AG) => Yard_orderDock_b 1 (x1 + 1) x2 r15) else none) else (if tag = 2 then (if nw x2 < 0 then some (0, g) else (Yard_chooseNext x2 g >>= fun (r2 : Int × AG) => Yard_orderDock_b 2 x1 (x2 + (-1)) r2.2)) else none))
partial_fixpoint
def Yard_orderDock (g : AG) : Option (Int × AG) :=
  (some (up g 10 2 0) >>= fun (g1 : AG) => Yard_orderDock_b 1 0 0 g1)
set_option synthInstance.maxHeartbeats 2000000 in
def Yard_dockedAt_b (x1 : Int) (g : AG) (x2 : Int) (x3 : Int) : Option Int :=
  (if nw (x1 - 10) ≤ nw x3 then if 0 ≤ nw x2 ∧ nw x2 < 128 then if 0 ≤ nw (g 102 (ix x2)) ∧ nw (g 102 (ix x2)) < 7 then some (g 99 (ix (g 102 (ix x2)))) else none else none else if 0 ≤ nw x2 ∧ nw x2 < 128 then Yard_dockedAt_b x1 g (orI x2 (shlI 1 (g 102 (ix x2)))) (x3 + 1) else none)
partial_fixpoint
def Yard_dockedAt (x1 : Int) (g : AG) : Option Int :=
  (if nw (X_within (x1 - 10) 0 ((g 10 2) - 1)) = 0 then some (-1) else Yard_dockedAt_b x1 g 0 0)
def X_dock (x1 : Int) (g : AG) : Option (Int × AG) :=
  (Yard_orderDock g >>= fun (r1 : Int × AG) => (if nw x1 = 0 then some ((r1.2 100 (ix 0)), r1.2) else (if nw x1 = 1 then some ((r1.2 101 (ix 0)), r1.2) else (if nw x1 = 2 then some ((r1.2 10 2), r1.2) else (Yard_dockedAt x1 r1.2 >>= fun (r6 : Int) => some (r6, r1.2))))))
def Yard_addJob (x1 : Int) (g : AG) : Option (Int × AG) :=
  (if nw (g 10 7) < 8 then if 0 ≤ nw (g 10 7) ∧ nw (g 10 7) < 8 then (some (up g 103 (ix (g 10 7)) x1) >>= fun (g3 : AG) => (some (up g3 10 7 ((g3 10 7) + 1)) >>= fun (g5 : AG) => some ((g5 10 7), g5))) else none else some ((-1), g))
def X_job (x1 : Int) (g : AG) : Option (Int × AG) :=
  (if nw x1 = 0 then (some (up g 10 7 0) >>= fun (g5 : AG) => some (0, g5)) else (if nw (X_within x1 1 300) = 0 then some ((-1), g) else (Yard_addJob x1 g >>= fun (r3 : Int × AG) => some (r3.1, r3.2))))
set_option synthInstance.maxHeartbeats 2000000 in
def Yard_workInOrder_b (x1 : Int) (tag : Nat) (x2 : Int) (x3 : Int) (x4 : Int) (g : AG) : Option (Int × AG) :=
  (if tag = 1 then (if nw (g 10 7) ≤ nw x2 then some (0, g) else Yard_workInOrder_b x1 2 x2 0 1 g) else (if tag = 2 then (if nw x1 ≤ nw x4 then if 0 ≤ nw x3 ∧ nw x3 < 3 then if 0 ≤ nw x2 ∧ nw x2 < 8 then (some (up g 104 (ix x3) ((g 104 (ix x3)) + (g 103 (ix x2)))) >>= fun (g4 : AG) => (some (up g4 10 13 (mxI (g4 10 13) (g4 104 (ix x3)))) >>= fun (g6 : AG) => (some ((if nw (g6 104 (ix x3)) ≤ 900 then 0 else 1)) >>= fun (t8 : Int) => (some (up g6 10 14 ((g6 10 14) + t8)) >>= fun (g10 : AG) => Yard_workInOrder_b x1 1 (x2 + 1) x3 x4 g10)))) else none else none else if 0 ≤ nw x4 ∧ nw x4 < 3 then if 0 ≤ nw x3 ∧ nw x3 < 3 then (some ((if nw (g 104 (ix x3)) ≤ nw (g 104 (ix x4)) then x3 else x4)) >>= fun (t15 : Int) => Yard_workInOrder_b x1 2 x2 t15 (x4 + 1) g) else none else none) else none))
partial_fixpoint
def Yard_workInOrder (x1 : Int) (g : AG) : Option (Int × AG) :=
  (some (fillG g 104 3 600) >>= fun (g1 : AG) => (some (up g1 10 13 600) >>= fun (g3 : AG) => (some (up g3 10 14 0) >>= fun (g5 : AG) => Yard_workInOrder_b x1 1 0 0 0 g5)))
set_option synthInstance.maxHeartbeats 2000000 in
def Yard_shareNext_b (rec : Int → Int → Int → AG → Option (Int × AG)) (x1 : Int) (x2 : Int) (x3 : Int) (x4 : Int) (g : AG) : Option (Int × AG) :=
  (if nw x2 ≤ nw x4 then some (0, g) else if 0 ≤ nw x1 ∧ nw x1 < 8 then (some (up g 105 (ix x1) x4) >>= fun (g3 : AG) => if 0 ≤ nw x4 ∧ nw x4 < 3 then (some (up g3 104 (ix x4) ((g3 104 (ix x4)) + (g3 103 (ix x1)))) >>= fun (g6 : AG) => (rec (x1 + 1) x2 (mxI x3 (g6 104 (ix x4))) g6 >>= fun (r8 : Int × AG) => (some (up r8.2 104 (ix x4) ((r8.2 104 (ix x4)) - (r8.2 103 (ix x1)))) >>= fun (g10 : AG) => Yard_shareNext_b rec x1 x2 x3 (x4 + 1) g10))) else none) else none)
partial_fixpoint
def Yard_shareNext_s (rec : Int → Int → Int → AG → Option (Int × AG)) (x1 : Int) (x2 : Int) (x3 : Int) (g : AG) : Option (Int × AG) :=
  (if nw x3 < nw (g 10 12) then (if nw x1 < nw (g 10 7) then Yard_shareNext_b rec x1 x2 x3 0 g else (some (up g 10 12 x3) >>= fun (g3 : AG) => if 0 ≤ 0 ∧ 0 ≤ 0 ∧ 0 ≤ nw (g3 10 7) ∧ 0 + nw (g3 10 7) ≤ 8 ∧ 0 + nw (g3 10 7) ≤ 8 then (some (copyG g3 105 (ix 0) 106 (ix 0) (ix (g3 10 7))) >>= fun (g6 : AG) => some (0, g6)) else none)) else some (0, g))
def Yard_shareNext : Nat → Int → Int → Int → AG → Option (Int × AG)
  | 0 => fun _ _ _ _ => none
  | n + 1 => fun x1 x2 x3 g => Yard_shareNext_s (Yard_shareNext n) x1 x2 x3 g
def Yard_shareBest (x1 : Int) (g : AG) : Option (Int × AG) :=
  (some (fillG g 104 3 600) >>= fun (g1 : AG) => (some (up g1 10 12 3001) >>= fun (g3 : AG) => (Yard_shareNext 10 0 x1 600 g3 >>= fun (r5 : Int × AG) => some (0, r5.2))))
set_option synthInstance.maxHeartbeats 2000000 in
def X_turned_b (tag : Nat) (x1 : Int) (x2 : Int) (g : AG) : Option (Int × AG) :=
  (if tag = 1 then (Yard_workInOrder x1 g >>= fun (r1 : Int × AG) => (some ((if nw x2 = 0 then (r1.2 10 13) else (r1.2 10 14))) >>= fun (t3 : Int) => some (t3, r1.2))) else (if tag = 2 then (Yard_shareBest x1 g >>= fun (r1 : Int × AG) => (((if nw x2 = 1 then some ((r1.2 10 12), r1.2) else if 0 ≤ nw (x2 - 10) ∧ nw (x2 - 10) < 8 then some ((r1.2 106 (ix (x2 - 10))), r1.2) else none) : Option (Int × AG)) >>= fun (r5 : Int × AG) => some (r5.1, r5.2))) else none))
partial_fixpoint
def X_turned (x1 : Int) (x2 : Int) (g : AG) : Option (Int × AG) :=
  (if nw (X_within x1 1 3) = 0 then some ((-1), g) else (if nw x2 = 0 then X_turned_b 1 x1 x2 g else (if nw x2 = 2 then X_turned_b 1 x1 x2 g else (if nw x2 = 1 then X_turned_b 2 x1 x2 g else (if nw x2 < 10 then some ((-1), g) else (if nw (x2 - 10) < nw (g 10 7) then X_turned_b 2 x1 x2 g else some ((-1), g)))))))
def X_weight (x1 : Int) (x2 : Int) (g : AG) : Option (Int × AG) :=
  (if nw (X_isPoint x1) = 0 then some (0, g) else (if nw (X_within x2 0 99) = 0 then some (0, g) else if 0 ≤ nw x1 ∧ nw x1 < 16 then (some (up g 107 (ix x1) x2) >>= fun (g4 : AG) => some (1, g4)) else none))
set_option synthInstance.maxHeartbeats 2000000 in
def Vans_measure_b (x1 : Int) (g : AG) : Option (Int × AG) :=
  (if 15 ≤ nw x1 then some (0, g) else if 0 ≤ nw x1 ∧ nw x1 < 16 then if 0 ≤ nw x1 ∧ nw x1 < 15 then if 0 ≤ nw (x1 + 1) ∧ nw (x1 + 1) < 16 then (some (up g 108 (ix (x1 + 1)) ((g 108 (ix x1)) + (g 15 (ix x1)))) >>= fun (g5 : AG) => Vans_measure_b (x1 + 1) g5) else none else none else none)
partial_fixpoint
def Vans_measure (g : AG) : Option (Int × AG) :=
  Vans_measure_b 0 g
def Vans_minutes (x1 : Int) (x2 : Int) (g : AG) : Option Int :=
  if 0 ≤ nw x1 ∧ nw x1 < 16 then if 0 ≤ nw x2 ∧ nw x2 < 16 then some (abI ((g 108 (ix x1)) - (g 108 (ix x2)))) else none else none
set_option synthInstance.maxHeartbeats 2000000 in
def Vans_worstFrom_b (x1 : Int) (g : AG) (x2 : Int) (x3 : Int) : Option Int :=
  (if 16 ≤ nw x3 then some x2 else if 0 ≤ nw x3 ∧ nw x3 < 16 then (((if nw (g 107 (ix x3)) ≤ 0 then some (x2) else (Vans_minutes x1 x3 g >>= fun (r4 : Int) => some ((mxI x2 r4)))) : Option (Int)) >>= fun (r6 : Int) => Vans_worstFrom_b x1 g r6 (x3 + 1)) else none)
partial_fixpoint
def Vans_worstFrom (x1 : Int) (g : AG) : Option Int :=
  Vans_worstFrom_b x1 g 0 0
set_option synthInstance.maxHeartbeats 2000000 in
def Vans_sumFrom_b (x1 : Int) (x2 : Int) (g : AG) (x3 : Int) (x4 : Int) : Option Int :=
  (if 16 ≤ nw x4 then some x3 else if 0 ≤ nw x4 ∧ nw x4 < 16 then (Vans_minutes x1 x4 g >>= fun (r3 : Int) => (Vans_minutes x2 x4 g >>= fun (r5 : Int) => Vans_sumFrom_b x1 x2 g (x3 + ((g 107 (ix x4)) * (mnI r3 r5))) (x4 + 1))) else none)
partial_fixpoint
def Vans_sumFrom (x1 : Int) (x2 : Int) (g : AG) : Option Int :=
  Vans_sumFrom_b x1 x2 g 0 0
set_option synthInstance.maxHeartbeats 2000000 in
def Vans_bestPoint_b (g : AG) (x1 : Int) (x2 : Int) : Option Int :=
  (if 16 ≤ nw x2 then some x1 else (Vans_sumFrom x2 x2 g >>= fun (r2 : Int) => (Vans_sumFrom x1 x1 g >>= fun (r4 : Int) => (some ((if nw r4 ≤ nw r2 then x1 else x2)) >>= fun (t6 : Int) => Vans_bestPoint_b g t6 (x2 + 1)))))
partial_fixpoint
def Vans_bestPoint (g : AG) : Option Int :=
  Vans_bestPoint_b g 0 1
def X_van (x1 : Int) (g : AG) : Option (Int × AG) :=
  (Vans_measure g >>= fun (r1 : Int × AG) => (if nw (X_within x1 0 2) = 0 then (if nw (X_isPoint (x1 - 100)) = 0 then (((if nw (X_isPoint (x1 - 200)) = 0 then some ((-1), r1.2) else (Vans_worstFrom (x1 - 200) r1.2 >>= fun (r6 : Int) => some (r6, r1.2))) : Option (Int × AG)) >>= fun (r8 : Int × AG) => some (r8.1, r8.2)) else (Vans_sumFrom (x1 - 100) (x1 - 100) r1.2 >>= fun (r10 : Int) => some (r10, r1.2))) else (Vans_bestPoint r1.2 >>= fun (r12 : Int) => (if nw x1 = 0 then some (r12, r1.2) else (((if nw x1 = 1 then (Vans_sumFrom r12 r12 r1.2 >>= fun (r18 : Int) => some (r18, r1.2)) else (Vans_worstFrom r12 r1.2 >>= fun (r16 : Int) => some (r16, r1.2))) : Option (Int × AG)) >>= fun (r20 : Int × AG) => some (r20.1, r20.2))))))
set_option synthInstance.maxHeartbeats 2000000 in
def Vans_findCouple_b (tag : Nat) (x1 : Int) (x2 : Int) (g : AG) : Option (Int × AG) :=
  (if tag = 1 then (if 16 ≤ nw x1 then some (0, g) else Vans_findCouple_b 2 x1 x1 g) else (if tag = 2 then (if 16 ≤ nw x2 then Vans_findCouple_b 1 (x1 + 1) x2 g else (Vans_sumFrom x1 x2 g >>= fun (r2 : Int) => (((if nw (g 11 4) ≤ nw r2 then some g else (some (up g 11 3 ((16 * x1) + x2)) >>= fun (g5 : AG) => (some (up g5 11 4 r2) >>= fun (g7 : AG) => some g7))) : Option (AG)) >>= fun (r9 : AG) => Vans_findCouple_b 2 x1 (x2 + 1) r9))) else none))
partial_fixpoint
def Vans_findCouple (g : AG) : Option (Int × AG) :=
  (some (up g 11 3 0) >>= fun (g1 : AG) => (Vans_sumFrom 0 0 g1 >>= fun (r3 : Int) => (some (up g1 11 4 r3) >>= fun (g5 : AG) => Vans_findCouple_b 1 0 0 g5)))
def X_vans (x1 : Int) (g : AG) : Option (Int × AG) :=
  (if nw (X_within x1 0 1) = 0 then some ((-1), g) else (Vans_measure g >>= fun (r2 : Int × AG) => (Vans_findCouple r2.2 >>= fun (r4 : Int × AG) => (some ((if nw x1 = 0 then (r4.2 11 3) else (r4.2 11 4))) >>= fun (t6 : Int) => some (t6, r4.2)))))
set_option synthInstance.maxHeartbeats 2000000 in
def Vans_addCall_b (x1 : Int) (x2 : Int) (x3 : Int) (g : AG) : Option (Int × AG) :=
  if 0 ≤ nw (g 11 5) ∧ nw (g 11 5) < 12 then (some (up g 109 (ix (g 11 5)) x1) >>= fun (g2 : AG) => if 0 ≤ nw (g2 11 5) ∧ nw (g2 11 5) < 12 then (some (up g2 110 (ix (g2 11 5)) x2) >>= fun (g5 : AG) => if 0 ≤ nw (g5 11 5) ∧ nw (g5 11 5) < 12 then (some (up g5 111 (ix (g5 11 5)) x3) >>= fun (g8 : AG) => (some (up g8 11 5 ((g8 11 5) + 1)) >>= fun (g10 : AG) => some ((g10 11 5), g10))) else none) else none) else none
partial_fixpoint
def Vans_addCall (x1 : Int) (x2 : Int) (x3 : Int) (g : AG) : Option (Int × AG) :=
  (if 12 ≤ nw (g 11 5) then some ((-1), g) else (if nw (g 11 5) ≤ 0 then Vans_addCall_b x1 x2 x3 g else if 0 ≤ nw ((g 11 5) - 1) ∧ nw ((g 11 5) - 1) < 12 then (if nw (g 109 (ix ((g 11 5) - 1))) ≤ nw x1 then Vans_addCall_b x1 x2 x3 g else some ((-1), g)) else none))
def X_call (x1 : Int) (x2 : Int) (x3 : Int) (g : AG) : Option (Int × AG) :=
  (if nw x3 = 0 then (some (up g 11 5 0) >>= fun (g7 : AG) => some (0, g7)) else (if nw (X_within x1 0 9999) = 0 then some ((-1), g) else (if nw (X_isPoint x2) = 0 then some ((-1), g) else (if nw (X_within x3 1 300) = 0 then some ((-1), g) else (Vans_addCall x1 x2 x3 g >>= fun (r5 : Int × AG) => some (r5.1, r5.2))))))
def Vans_comesAt (x1 : Int) (x2 : Int) (g : AG) : Option Int :=
  if 0 ≤ nw x2 ∧ nw x2 < 12 then if 0 ≤ nw x1 ∧ nw x1 < 2 then (Vans_minutes (g 113 (ix x1)) (g 110 (ix x2)) g >>= fun (r3 : Int) => some ((mxI (g 109 (ix x2)) (g 114 (ix x1))) + r3)) else none else none
set_option synthInstance.maxHeartbeats 2000000 in
def Vans_takeCalls_b (x3 : Int) (g : AG) : Option (Int × AG) :=
  (if nw (g 11 5) ≤ nw x3 then some (0, g) else (Vans_comesAt 1 x3 g >>= fun (r2 : Int) => (Vans_comesAt 0 x3 g >>= fun (r4 : Int) => (some ((if nw r4 ≤ nw r2 then 0 else 1)) >>= fun (t6 : Int) => (Vans_comesAt t6 x3 g >>= fun (r8 : Int) => if 0 ≤ nw x3 ∧ nw x3 < 12 then (some (up g 112 (ix x3) t6) >>= fun (g11 : AG) => if 0 ≤ nw t6 ∧ nw t6 < 2 then (some (up g11 113 (ix t6) (g11 110 (ix x3))) >>= fun (g14 : AG) => (some (up g14 114 (ix t6) (r8 + (g14 111 (ix x3)))) >>= fun (g16 : AG) => (some (up g16 11 12 ((g16 11 12) + (r8 - (g16 109 (ix x3))))) >>= fun (g18 : AG) => (some (up g18 11 13 (mxI (g18 11 13) (r8 - (g18 109 (ix x3))))) >>= fun (g20 : AG) => (some (up g20 11 14 (mxI (g20 11 14) (g20 114 (ix t6)))) >>= fun (g22 : AG) => Vans_takeCalls_b (x3 + 1) g22))))) else none) else none)))))
partial_fixpoint
def Vans_takeCalls (x1 : Int) (x2 : Int) (g : AG) : Option (Int × AG) :=
  (some (up g 113 (ix 0) x1) >>= fun (g1 : AG) => (some (up g1 113 (ix 1) x2) >>= fun (g3 : AG) => (some (fillG g3 114 2 0) >>= fun (g5 : AG) => (some (up g5 11 12 0) >>= fun (g7 : AG) => (some (up g7 11 13 0) >>= fun (g9 : AG) => (some (up g9 11 14 0) >>= fun (g11 : AG) => Vans_takeCalls_b 0 g11))))))
def Vans_takerOf (x1 : Int) (g : AG) : Option Int :=
  (((if nw (X_within (x1 - 10) 0 ((g 11 5) - 1)) = 0 then some ((-1)) else if 0 ≤ nw (x1 - 10) ∧ nw (x1 - 10) < 12 then some ((g 112 (ix (x1 - 10)))) else none) : Option (Int)) >>= fun (r3 : Int) => some r3)
def X_taken (x1 : Int) (x2 : Int) (x3 : Int) (g : AG) : Option (Int × AG) :=
  (if nw (X_isPoint x1) = 0 then some ((-1), g) else (if nw (X_isPoint x2) = 0 then some ((-1), g) else (Vans_measure g >>= fun (r3 : Int × AG) => (Vans_takeCalls x1 x2 r3.2 >>= fun (r5 : Int × AG) => (if nw x3 = 0 then some ((r5.2 11 12), r5.2) else (if nw x3 = 1 then some ((r5.2 11 13), r5.2) else (if nw x3 = 2 then some ((r5.2 11 14), r5.2) else (Vans_takerOf x3 r5.2 >>= fun (r10 : Int) => some (r10, r5.2)))))))))
def X_isWeather (x0 : Int) (x1 : Int) (x2 : Int) (x3 : Int) : Int :=
  (if nw (X_within x0 0 99) = 0 then 0 else (if nw (X_within x1 0 100) = 0 then 0 else (if nw (X_within x2 0 99) = 0 then 0 else (if nw (X_within x3 0 999) = 0 then 0 else 1))))
theorem X_isWeather_01 {x0 : Int} {x1 : Int} {x2 : Int} {x3 : Int} : (X_isWeather x0 x1 x2 x3) = 0 ∨ (X_isWeather x0 x1 x2 x3) = 1 := by
  unfold X_isWeather
  (repeat' split) <;> first | exact Or.inl rfl | exact Or.inr rfl | exact X_within_01
def Rain_start (x1 : Int) (x2 : Int) (g : AG) : Option (Int × AG) :=
  if g 12 0 = 115 ∨ g 12 0 = 116 then (some (fillG g (g 12 0).toNat 1000 0) >>= fun (g2 : AG) => (some ((if nw x2 ≤ nw x1 then 1000000 else 0)) >>= fun (t4 : Int) => (some (up g2 12 2 t4) >>= fun (g6 : AG) => if g6 12 0 = 115 ∨ g6 12 0 = 116 then if 0 ≤ nw x1 ∧ nw x1 < 1000 then (some (up g6 (g6 12 0).toNat (ix x1) (g6 12 2)) >>= fun (g10 : AG) => some (0, g10)) else none else none))) else none
set_option synthInstance.maxHeartbeats 2000000 in
def Rain_passDay_b (x1 : Int) (x2 : Int) (x3 : Int) (x4 : Int) (tag : Nat) (x5 : Int) (g : AG) : Option (Int × AG) :=
  (if tag = 1 then (if 1000 ≤ nw x5 then (some (up g 12 2 0) >>= fun (g2 : AG) => Rain_passDay_b x1 x2 x3 x4 2 0 g2) else if g 12 0 = 115 ∨ g 12 0 = 116 then if 0 ≤ nw x5 ∧ nw x5 < 1000 then (((if nw (g (g 12 0).toNat (ix x5)) ≤ 0 then some g else if g 12 0 = 115 ∨ g 12 0 = 116 then if g 12 1 = 115 ∨ g 12 1 = 116 then if 0 ≤ nw (mnI 999 ((mxI 0 (x5 - x1)) + x3)) ∧ nw (mnI 999 ((mxI 0 (x5 - x1)) + x3)) < 1000 then (some (up g (g 12 1).toNat (ix (mnI 999 ((mxI 0 (x5 - x1)) + x3))) ((g (g 12 1).toNat (ix (mnI 999 ((mxI 0 (x5 - x1)) + x3)))) + ((nw ((g (g 12 0).toNat (ix x5)) * x2)).tdiv 100))) >>= fun (g10 : AG) => if g10 12 1 = 115 ∨ g10 12 1 = 116 then if 0 ≤ nw (mxI 0 (x5 - x1)) ∧ nw (mxI 0 (x5 - x1)) < 1000 then if g10 12 0 = 115 ∨ g10 12 0 = 116 then (some (up g10 (g10 12 1).toNat (ix (mxI 0 (x5 - x1))) ((g10 (g10 12 1).toNat (ix (mxI 0 (x5 - x1)))) + ((g10 (g10 12 0).toNat (ix x5)) - ((nw ((g (g 12 0).toNat (ix x5)) * x2)).tdiv 100)))) >>= fun (g15 : AG) => some g15) else none else none else none) else none else none else none) : Option (AG)) >>= fun (r17 : AG) => Rain_passDay_b x1 x2 x3 x4 1 (x5 + 1) r17) else none else none) else (if tag = 2 then (if 1000 ≤ nw x5 then if g 12 0 = 115 ∨ g 12 0 = 116 then if g 12 1 = 115 ∨ g 12 1 = 116 then (some (up g 12 0 (g 12 1)) >>= fun (g4 : AG) => (some (up g4 12 1 (g 12 0)) >>= fun (g6 : AG) => some (0, g6))) else none else none else if g 12 1 = 115 ∨ g 12 1 = 116 then (((if nw x4 ≤ nw x5 then if g 12 1 = 115 ∨ g 12 1 = 116 then if 0 ≤ nw x5 ∧ nw x5 < 1000 then some ((g (g 12 1).toNat (ix x5)), g) else none else none else some (0, g)) : Option (Int × AG)) >>= fun (r12 : Int × AG) => if 0 ≤ nw x5 ∧ nw x5 < 1000 then (some (up r12.2 (g 12 1).toNat (ix x5) r12.1) >>= fun (g15 : AG) => if g15 12 1 = 115 ∨ g15 12 1 = 116 then (some (up g15 12 2 ((g15 12 2) + (g15 (g15 12 1).toNat (ix x5)))) >>= fun (g18 : AG) => Rain_passDay_b x1 x2 x3 x4 2 (x5 + 1) g18) else none) else none) else none) else none))
partial_fixpoint
def Rain_passDay (x1 : Int) (x2 : Int) (x3 : Int) (x4 : Int) (g : AG) : Option (Int × AG) :=
  if g 12 1 = 115 ∨ g 12 1 = 116 then (some (fillG g (g 12 1).toNat 1000 0) >>= fun (g2 : AG) => Rain_passDay_b x1 x2 x3 x4 1 0 g2) else none
set_option synthInstance.maxHeartbeats 2000000 in
def X_left_b (x1 : Int) (x2 : Int) (x3 : Int) (x4 : Int) (x5 : Int) (x6 : Int) (g : AG) : Option (Int × AG) :=
  (if nw x5 ≤ nw x6 then some ((g 12 2), g) else (Rain_passDay x1 x2 x3 x4 g >>= fun (r2 : Int × AG) => X_left_b x1 x2 x3 x4 x5 (x6 + 1) r2.2))
partial_fixpoint
def X_left (x1 : Int) (x2 : Int) (x3 : Int) (x4 : Int) (x5 : Int) (g : AG) : Option (Int × AG) :=
  (if nw (X_isWeather x1 x2 x3 x4) = 0 then some ((-1), g) else (if nw (X_within x5 0 60) = 0 then some ((-1), g) else (Rain_start (g 1 5) x4 g >>= fun (r3 : Int × AG) => X_left_b x1 x2 x3 x4 x5 0 r3.2)))
set_option synthInstance.maxHeartbeats 2000000 in
def X_shuts_b (x1 : Int) (x2 : Int) (x3 : Int) (x4 : Int) (x5 : Int) (g : AG) : Option (Int × AG) :=
  (if 60 < nw x5 then some ((-1), g) else (if 500000 ≤ nw (g 12 2) then (Rain_passDay x1 x2 x3 x4 g >>= fun (r3 : Int × AG) => X_shuts_b x1 x2 x3 x4 (x5 + 1) r3.2) else some (x5, g)))
partial_fixpoint
def X_shuts (x1 : Int) (x2 : Int) (x3 : Int) (x4 : Int) (g : AG) : Option (Int × AG) :=
  (if nw (X_isWeather x1 x2 x3 x4) = 0 then some ((-1), g) else (Rain_start (g 1 5) x4 g >>= fun (r2 : Int × AG) => X_shuts_b x1 x2 x3 x4 0 r2.2))
def X_price (x1 : Int) (x2 : Int) (x3 : Int) (g : AG) : Option (Int × AG) :=
  (if nw (X_isBoat x1 g) = 0 then some ((-1000000), g) else (if nw (X_isWeek x2) = 0 then some ((-1000000), g) else (Boats_priceLine x1 x2 x3 g >>= fun (r3 : Int × AG) => (((if nw r3.1 = (-1) then some ((-1000000), r3.2) else (Rules_valueOf r3.1 r3.2 >>= fun (r6 : Int × AG) => some (r6.1, r6.2))) : Option (Int × AG)) >>= fun (r8 : Int × AG) => some (r8.1, r8.2)))))
def Boats_holdLine (x1 : Int) (x2 : Int) (x3 : Int) (x4 : Int) (g : AG) : Option (Int × AG) :=
  (Rules_askWeek x4 g >>= fun (r1 : Int × AG) => (some (up r1.2 27 (ix 6) x2) >>= fun (g3 : AG) => (some (up g3 27 (ix 7) x3) >>= fun (g5 : AG) => if 0 ≤ nw x1 ∧ nw x1 < 10 then (some (up g5 27 (ix 5) (g5 49 (ix x1))) >>= fun (g8 : AG) => (Rules_serving 103 g8 >>= fun (r10 : Int × AG) => some (r10.1, r10.2))) else none)))
def X_held (x1 : Int) (x2 : Int) (x3 : Int) (x4 : Int) (g : AG) : Option (Int × AG) :=
  (if nw (X_isBoat x1 g) = 0 then some ((-1000000), g) else (if nw (X_isWeek x4) = 0 then some ((-1000000), g) else (if nw (X_within x2 0 99) = 0 then some ((-1000000), g) else (if nw (X_within x3 0 9) = 0 then some ((-1000000), g) else (Boats_holdLine x1 x2 x3 x4 g >>= fun (r5 : Int × AG) => (((if nw r5.1 = (-1) then some (0, r5.2) else (Rules_valueOf r5.1 r5.2 >>= fun (r8 : Int × AG) => some (r8.1, r8.2))) : Option (Int × AG)) >>= fun (r10 : Int × AG) => some (r10.1, r10.2)))))))
def X_look (x1 : Int) (g : AG) : Int :=
  (if nw x1 = 0 then (g 6 7) else (if nw x1 = 1 then (g 7 8) else (if nw x1 = 2 then (g 9 4) else (if nw x1 = 3 then (g 10 7) else (if nw x1 = 4 then (g 8 2) else (if nw x1 = 5 then (g 1 4) else (if nw x1 = 6 then (g 1 5) else (if nw x1 = 7 then (g 11 5) else (-1)))))))))
end
section
theorem sq_coder_335 : CQ RJ0 335 yJ0_coder_7d493 cJ0_coder_7d493 1 (some .byte) 0 := ⟨wm_788, wm_125, wm_791, by decide +kernel, by decide⟩
theorem sq_latin_492 : CQ RJ0 492 yJ0_isLatin1_aae02 cJ0_isLatin1_aae02 1 (some .boolean) 0 := ⟨wm_798, wm_125, wm_801, by decide +kernel, by decide⟩
theorem sq_pcheck_1059 : CQ RJ0 1059 yJ3_checkIndex_8e157 cJ3_checkIndex_8e157 3 (some .int) 3 := ⟨wm_810, wm_127, wm_812, by decide +kernel, by decide⟩
theorem sq_scheck_9 : CQ RJ1 9 yJ0_checkIndex_df160 cJ0_checkIndex_df160 2 none 2 := ⟨wm_805, wm_125, wm_807, by decide +kernel, by decide⟩
theorem sq_lch_495 : CQ RJ0 495 yJ1_charAt_3b067 cJ1_charAt_3b067 2 (some .char) 2 := ⟨wm_802, wm_126, wm_804, by decide +kernel, by decide⟩
theorem sq_canE_88 : CQ RJ1 88 yJ1_canEncode_9a6ad cJ1_canEncode_9a6ad 1 (some .boolean) 1 := ⟨wm_864, wm_126, wm_866, by decide +kernel, by decide⟩
theorem sq_ixC_95 : CQ RJ1 95 yJ1_indexOfChar_4cfef cJ1_indexOfChar_4cfef 6 (some .int) 4 := ⟨wm_873, wm_126, wm_875, by decide +kernel, by decide⟩
theorem sq_len_505 : CQ RJ0 505 yJ0_length_8abf5 cJ0_length_8abf5 1 (some .int) 0 := ⟨wm_860, wm_125, wm_787, by decide +kernel, by decide⟩
theorem sq_lIx_637 : CQ RJ0 637 yJ1_indexOf_4cfef cJ1_indexOf_4cfef 4 (some .int) 4 := ⟨wm_861, wm_126, wm_863, by decide +kernel, by decide⟩
theorem sq_ix2_633 : CQ RJ0 633 yJ0_indexOf_7cf53 cJ0_indexOf_7cf53 3 (some .int) 2 := ⟨wm_856, wm_125, wm_859, by decide +kernel, by decide⟩
/-! the JDK's own methods on the texts -/
theorem AW.ldcSw {z : AZ} {μ : AMu} {d pc : Nat} {Q : Option Value → AG → Prop} {lv : List (Nat × Value)} {st : List Value} {g : AG} {i n : Nat} {tx : String} (hd : decode μ.2.1 pc = .ok (.ldc_w i, 3)) (hw : (μ.1, i, tx, n) ∈ strL) (k : AW z μ d Q (pc + 3) lv (sv z n :: st) g) : AW z μ d Q pc lv (st) g := by
  intro p l e s m args below meth c H locs ls C hP hS hl
  intro T hT X
  obtain ⟨t, a1, b1⟩ := k p l e s m args below meth c H locs ls C hP hS hl T hT X
  refine ⟨t, ?_, b1⟩
  have hown := C.2.2.2.2.1
  obtain ⟨hconst, hev⟩ := C.2.2.2.2.2.2.2.2.2.2.1 _ hw
  obtain ⟨k0, cf, i0, a', hk, hcf, hcp, -, hr, hev'⟩ := Cond.stringRef_spec hown hconst
  cases hev.symm.trans hev'
  obtain ⟨k', hk', he⟩ := X.warmed.alike.2.2 _ _ hk
  have hr' : k'.resolved[i]? = some (some (.string (z.2.2.2.1 n))) := by
    rcases X.warmed.entry hk hk' i with h | ⟨h, -⟩
    · rw [h]; exact hr
    · rw [hr] at h; cases h
  have hdg : decode c.code (F0 m pc ls st).pc = .ok (.ldc_w i, 3) := by
    show decode c.code pc = _
    rw [C.2.1]
    exact hd
  jvm_step X.here [C.1, hdg, Jvm.Op.ldc_w.wp_string (e := e) (s := T) (f := F0 m pc ls st) X.here.top hk' (by rw [he]; exact hcf) hcp hr']
  exact a1
def bvr (z : AZ) (i : Nat) : Value := .ref (z.2.2.2.2 i)
section STRS
variable {z : AZ} {μ : AMu} {d pc : Nat} {Q : Option Value → AG → Prop} {lv : List (Nat × Value)} {st : List Value} {g : AG}
theorem AW.sval {idx i : Nat} (hi : i < 22) (hw : Cond.fieldLink μ.1 idx "java/lang/String" "value" "[B" ∈ lw_gd) (hd : decode μ.2.1 pc = .ok (.getfield idx, 3)) (kk : AW z μ d Q (pc + 3) lv (bvr z i :: st) g) : AW z μ d Q pc lv (sv z i :: st) g := by
  intro p l e s m args below meth c H locs ls C hP hS hl
  exact vk_getf C.1 C.2.1 (C.2.2.2.2.2.2.2.2.2.1.1 i hi).2.2.1 hS C.2.2.2.2.1 (C.2.2.2.2.2.1 _ hw) (fun _ h => h) hd (kk p l e s m args below meth c H locs ls C hP hS hl)
theorem AW.scod {idx i : Nat} (hi : i < 22) (hw : Cond.fieldLink μ.1 idx "java/lang/String" "coder" "B" ∈ lw_gd) (hd : decode μ.2.1 pc = .ok (.getfield idx, 3)) (kk : AW z μ d Q (pc + 3) lv (iv 0 :: st) g) : AW z μ d Q pc lv (sv z i :: st) g := by
  intro p l e s m args below meth c H locs ls C hP hS hl
  exact vk_getf C.1 C.2.1 (C.2.2.2.2.2.2.2.2.2.1.1 i hi).2.1 hS C.2.2.2.2.1 (C.2.2.2.2.2.1 _ hw) (fun _ h => h) hd (kk p l e s m args below meth c H locs ls C hP hS hl)
theorem AW.scomp {idx : Nat} (hw : Cond.fieldLink μ.1 idx "java/lang/String" "COMPACT_STRINGS" "Z" ∈ lw_gd) (hd : decode μ.2.1 pc = .ok (.getstatic idx, 3)) (kk : AW z μ d Q (pc + 3) lv (iv 1 :: st) g) : AW z μ d Q pc lv st g := by
  intro p l e s m args below meth c H locs ls C hP hS hl
  exact va_gets C.1 C.2.1 C.2.2.2.2.2.2.2.2.2.2.2.2.1 hS C.2.2.2.2.1 (C.2.2.2.2.2.1 _ hw) (fun _ h => h) hd (kk p l e s m args below meth c H locs ls C hP hS hl)
theorem AW.sfmt {idx : Nat} (hw : Cond.fieldLink μ.1 idx "jdk/internal/util/Preconditions" "SIOOBE_FORMATTER" "Ljava/util/function/BiFunction;" ∈ lw_gd) (hd : decode μ.2.1 pc = .ok (.getstatic idx, 3)) (kk : ∀ v : Value, v.category = 1 → AW z μ d Q (pc + 3) lv (v :: st) g) : AW z μ d Q pc lv st g := by
  intro p l e s m args below meth c H locs ls C hP hS hl
  rcases C.2.2.2.2.2.2.2.2.2.2.2.2.2 with h | ⟨t, h⟩
  · exact va_gets C.1 C.2.1 h hS C.2.2.2.2.1 (C.2.2.2.2.2.1 _ hw) (fun _ h => h) hd (kk _ rfl p l e s m args below meth c H locs ls C hP hS hl)
  · exact va_gets C.1 C.2.1 h hS C.2.2.2.2.1 (C.2.2.2.2.2.1 _ hw) (fun _ h => h) hd (kk _ rfl p l e s m args below meth c H locs ls C hP hS hl)
theorem AW.blen {i : Nat} (hi : i < 22) (hd : decode μ.2.1 pc = .ok (.arraylength, 1)) (kk : AW z μ d Q (pc + 1) lv (iv (strLen i) :: st) g) : AW z μ d Q pc lv (bvr z i :: st) g := by
  intro p l e s m args below meth c H locs ls C hP hS hl
  exact va_tlen C.1 C.2.1 (C.2.2.2.2.2.2.2.2.2.1.1 i hi).2.2.2 hS (v := Int32.ofInt (strLen i)) Int32.ofInt_eq_ofNat.symm hd (kk p l e s m args below meth c H locs ls C hP hS hl)
theorem AW.bld {i : Nat} {k : Int} (hi : i < 22) (hk : 0 ≤ nw k ∧ nw k < strLen i) (hd : decode μ.2.1 pc = .ok (.baload, 1)) (kk : AW z μ d Q (pc + 1) lv (iv (strCh i (ix k)) :: st) g) : AW z μ d Q pc lv (iv k :: bvr z i :: st) g := by
  intro p l e s m args below meth c H locs ls C hP hS hl
  refine va_tb C.1 C.2.1 (C.2.2.2.2.2.2.2.2.2.1.1 i hi).2.2.2 hS (i32_in k _ hk) (v := iv (strCh i (ix k))) ?_ hd (kk p l e s m args below meth c H locs ls C hP hS hl)
  rw [i32_clamp]
  unfold iv strCh
  rw [Int32.ofInt_toInt]
theorem AW.nret {ty : FieldType} {x : Int} (hr : μ.2.2.2 = some ty) (hn : narrow ty (iv x) = iv x) (hd : decode μ.2.1 pc = .ok (.ireturn, 1)) (hQ : Q (some (iv x)) g) : AW z μ d Q pc lv [iv x] g := by
  intro p l e s m args below meth c H locs ls C hP hS hl
  exact W.zret C.1 C.2.1 (C.2.2.1.trans hr) hn (fun t ht _ => aqc_of hQ hP hS ht) hS.2.2 hd C.2.2.2.2.2.2.1
theorem AW.aloadb_n {i : Fin 4} {k : Nat} (q : Nat) (hd : decode μ.2.1 pc = .ok (.aload_n i, 1)) (hq : lv[q]? = some ((i : Nat), bvr z k)) (kk : AW z μ d Q (pc + 1) lv (bvr z k :: st) g) : AW z μ d Q pc lv st g := AW.aload_n q hd hq kk
theorem AW.callK {idx i n nL D : Nat} {y : MethodName} {b : ByteArray} {ty : FieldType} {As st0 : List Value} {v : Int} {g1 : AG} (hi : i < 22) (hM : AMf z y b nL (some ty) D (sv z i :: As) g (v, g1)) (hF : CQ μ.1 idx y b nL (some ty) n) (hy : y.cls = "java/lang/String") (h3 : Cond.instanceMethod y ∈ lw_gd) (h4 : Cond.selects "java/lang/String" y y ∈ lw_gd) (hD : D + 1 ≤ d) (hn : As.length = n) (hd : decode μ.2.1 pc = .ok (.invokevirtual idx, 3)) (hst : st0 = As.reverse ++ sv z i :: st) (hc : (st.map fun v => v.category).sum ≤ 8)
    (kk : AW z μ d Q (pc + 3) lv (iv v :: st) g1) : AW z μ d Q pc lv st0 g := by
  intro p l e s m args below meth c H locs ls C hP hS hl
  have hts := C.2.2.2.2.2.1
  have hrun := va_runV (p := p) (e := e) (meth := meth) (below := below) (locs := locs) (C := "java/lang/String") (As := As) (rest := st) (g := F0 m pc ls st0) ⟨C.1, C.2.1, C.2.2.2.1, C.2.2.2.2.1, hts⟩ (hM (d - 1) (by omega) l) ⟨hF.b hts hD, hts _ h3, hts _ h4⟩ ⟨blindK, vk_recv C.2.2.2.2.2.2.2.2.2.1 hi hS, fun U hU hW => ⟨rfl, C.2.2.2.2.2.2.2.at hS hU hW, by rw [hU]; exact hP⟩⟩ rfl hn hl.1 hst (by show 2 * 0 + _ ≤ 8; omega) hd ⟨Nat.zero_le _, Nat.zero_le _⟩
  refine AW.ofRun hrun C hS hl (fun v g1 h => ?_)
  obtain ⟨rfl, rfl⟩ := h
  exact kk
end STRS
theorem strLen_sh : ∀ i, i < 22 → shrI (strLen i) 0 = strLen i ∧ 0 ≤ strLen i ∧ strLen i < 1000 := by decide +kernel
theorem strCh_ok : ∀ i, i < 22 → ∀ k, k < lenJ.getD i 0 → (chrI (andI (strCh i k) 255) = strCh i k ∧ 0 ≤ strCh i k ∧ strCh i k < 128) := by decide +kernel
theorem chr_nar {x : Int} (h0 : 0 ≤ x) (h1 : x < 128) : narrow .char (iv x) = iv x := by
  obtain ⟨n, rfl⟩ := Int.eq_ofNat_of_zero_le h0
  have hn : n < 128 := by omega
  have h : ∀ n : Nat, n < 128 → (Int32.ofInt n).toUInt32.toUInt16.toUInt32.toInt32 = Int32.ofInt n := by decide +kernel
  show Value.int _ = Value.int _
  rw [h n hn]
theorem sLatin_ok {z : AZ} {i : Nat} {g : AG} (hi : i < 22) : AMf z yJ0_isLatin1_aae02 cJ0_isLatin1_aae02 1 (some .boolean) 0 [sv z i] g (1, g) := by
  intro d hdd
  refine AM.of (by decide +kernel) (Nat.le_of_ble_eq_true rfl) ?_
  show AW z (RJ0, cJ0_isLatin1_aae02, 1, some .boolean) d (QD (some .boolean) (1, g)) 0 [(0, sv z i)] [] g
  refine AW.scomp wm_792 dJ0_isLatin1_aae02_0 ?_
  refine AW.if_eq (tgt := 17) dJ0_isLatin1_aae02_3 (by decide) (fun c => absurd c (by decide)) (fun _ => ?_)
  refine AW.aloads_n 0 dJ0_isLatin1_aae02_6 rfl ?_
  refine AW.scod hi wm_2248 dJ0_isLatin1_aae02_7 ?_
  refine AW.if_ne (tgt := 17) dJ0_isLatin1_aae02_10 (by decide) (fun c => absurd (by decide) c) (fun _ => ?_)
  refine AW.iconst dJ0_isLatin1_aae02_13 ?_
  refine AW.goto (tgt := 18) dJ0_isLatin1_aae02_14 (by decide) ?_
  exact AW.zret rfl (Or.inr rfl) dJ0_isLatin1_aae02_18 ⟨rfl, rfl⟩
theorem sCoder_ok {z : AZ} {i : Nat} {g : AG} (hi : i < 22) : AMf z yJ0_coder_7d493 cJ0_coder_7d493 1 (some .byte) 0 [sv z i] g (0, g) := by
  intro d hdd
  refine AM.of (by decide +kernel) (Nat.le_of_ble_eq_true rfl) ?_
  show AW z (RJ0, cJ0_coder_7d493, 1, some .byte) d (QD (some .byte) (0, g)) 0 [(0, sv z i)] [] g
  refine AW.scomp wm_792 dJ0_coder_7d493_0 ?_
  refine AW.if_eq (tgt := 13) dJ0_coder_7d493_3 (by decide) (fun c => absurd c (by decide)) (fun _ => ?_)
  refine AW.aloads_n 0 dJ0_coder_7d493_6 rfl ?_
  refine AW.scod hi wm_2248 dJ0_coder_7d493_7 ?_
  refine AW.goto (tgt := 14) dJ0_coder_7d493_10 (by decide) ?_
  exact AW.nret rfl rfl dJ0_coder_7d493_14 ⟨rfl, rfl⟩
theorem sLen_ok {z : AZ} {i : Nat} {g : AG} (hi : i < 22) : AMf z yJ0_length_8abf5 cJ0_length_8abf5 1 (some .int) 1 [sv z i] g (strLen i, g) := by
  intro d hdd
  refine AM.of (by decide +kernel) (Nat.le_of_ble_eq_true rfl) ?_
  show AW z (RJ0, cJ0_length_8abf5, 1, some .int) d (QD (some .int) (strLen i, g)) 0 [(0, sv z i)] [] g
  refine AW.aloads_n 0 dJ0_length_8abf5_0 rfl ?_
  refine AW.sval hi wm_2247 dJ0_length_8abf5_1 ?_
  refine AW.blen hi dJ0_length_8abf5_4 ?_
  refine AW.aloads_n 0 dJ0_length_8abf5_5 rfl ?_
  refine AW.callK (As := []) (st := [iv (strLen i)]) hi (sCoder_ok hi) sq_coder_335 rfl wm_789 wm_790 hdd rfl dJ0_length_8abf5_6 rfl (Nat.le_of_ble_eq_true rfl) ?_
  refine AW.ishr dJ0_length_8abf5_9 ?_
  rw [(strLen_sh i hi).1]
  exact AW.iret rfl dJ0_length_8abf5_10 ⟨rfl, rfl⟩
theorem pCheck_ok {z : AZ} {a b : Int} {v : Value} {g : AG} (hv : v.category = 1) (h0 : 0 ≤ nw a) (h1 : nw a < nw b) : AMf z yJ3_checkIndex_8e157 cJ3_checkIndex_8e157 3 (some .int) 0 [iv a, iv b, v] g (a, g) := by
  intro d hdd
  refine AM.of (by decide +kernel) (by cases v <;> first | exact Nat.le_of_ble_eq_true rfl | simp [Value.category] at hv) ?_
  have e : lv_args 0 [iv a, iv b, v] = [(0, iv a), (1, iv b), (2, v)] := by simp [lv_args, iv, Value.category]
  rw [e]
  show AW z (RJ3, cJ3_checkIndex_8e157, 3, some .int) d (QD (some .int) (a, g)) 0 [(0, iv a), (1, iv b), (2, v)] [] g
  refine AW.iload_n 0 dJ3_checkIndex_8e157_0 rfl ?_
  refine AW.if_lt (tgt := 9) dJ3_checkIndex_8e157_1 (by decide) (fun c => absurd c (by omega)) (fun _ => ?_)
  refine AW.iload_n 0 dJ3_checkIndex_8e157_4 rfl ?_
  refine AW.iload_n 1 dJ3_checkIndex_8e157_5 rfl ?_
  refine AW.icmp_lt (tgt := 16) dJ3_checkIndex_8e157_6 (by decide) (fun _ => ?_) (fun c => absurd h1 c)
  refine AW.iload_n 0 dJ3_checkIndex_8e157_16 rfl ?_
  exact AW.iret rfl dJ3_checkIndex_8e157_17 ⟨rfl, rfl⟩
theorem sCheck_ok {z : AZ} {a b : Int} {g : AG} (h0 : 0 ≤ nw a) (h1 : nw a < nw b) : AMf z yJ0_checkIndex_df160 cJ0_checkIndex_df160 2 none 1 [iv a, iv b] g (0, g) := by
  intro d hdd
  refine AM.of (by decide +kernel) (Nat.le_of_ble_eq_true rfl) ?_
  show AW z (RJ0, cJ0_checkIndex_df160, 2, none) d (QD none (0, g)) 0 [(0, iv a), (1, iv b)] [] g
  refine AW.iload_n 0 dJ0_checkIndex_df160_0 rfl ?_
  refine AW.iload_n 1 dJ0_checkIndex_df160_1 rfl ?_
  refine AW.sfmt wm_808 dJ0_checkIndex_df160_2 (fun v hv => ?_)
  refine AW.callSi (As := [iv a, iv b, v]) (st := []) (pCheck_ok hv h0 h1) sq_pcheck_1059 wm_811 hdd rfl dJ0_checkIndex_df160_5 rfl (Nat.le_of_ble_eq_true rfl) ?_
  refine AW.pop dJ0_checkIndex_df160_8 ?_
  exact AW.vret rfl dJ0_checkIndex_df160_9 ⟨rfl, rfl⟩
theorem lCh_ok {z : AZ} {i : Nat} {k : Int} {g : AG} (hi : i < 22) (hk : 0 ≤ nw k ∧ nw k < strLen i) : AMf z yJ1_charAt_3b067 cJ1_charAt_3b067 2 (some .char) 2 [bvr z i, iv k] g (strCh i (ix k), g) := by
  intro d hdd
  refine AM.of (by decide +kernel) (Nat.le_of_ble_eq_true rfl) ?_
  show AW z (RJ1, cJ1_charAt_3b067, 2, some .char) d (QD (some .char) (strCh i (ix k), g)) 0 [(0, bvr z i), (1, iv k)] [] g
  have hl := strLen_sh i hi
  have hn : nw (strLen i) = strLen i := nw_id (by omega) (by omega)
  have hx : ix k < lenJ.getD i 0 := by
    have h2 := hk.2
    unfold strLen at h2
    unfold ix
    omega
  have hc := strCh_ok i hi (ix k) hx
  refine AW.iload_n 1 dJ1_charAt_3b067_0 rfl ?_
  refine AW.aloadb_n 0 dJ1_charAt_3b067_1 rfl ?_
  refine AW.blen hi dJ1_charAt_3b067_2 ?_
  refine AW.callSv (As := [iv k, iv (strLen i)]) (st := []) (sCheck_ok hk.1 (by rw [hn]; exact hk.2)) sq_scheck_9 wm_806 hdd rfl dJ1_charAt_3b067_3 rfl (Nat.le_of_ble_eq_true rfl) ?_
  refine AW.aloadb_n 0 dJ1_charAt_3b067_6 rfl ?_
  refine AW.iload_n 1 dJ1_charAt_3b067_7 rfl ?_
  refine AW.bld hi hk dJ1_charAt_3b067_8 ?_
  refine AW.sipush dJ1_charAt_3b067_9 (by decide) (by decide) ?_
  refine AW.iand dJ1_charAt_3b067_12 ?_
  refine AW.i2c dJ1_charAt_3b067_13 ?_
  rw [hc.1]
  exact AW.nret rfl (chr_nar hc.2.1 hc.2.2) dJ1_charAt_3b067_14 ⟨rfl, rfl⟩
theorem sCh_ok {z : AZ} {i : Nat} {k : Int} {g : AG} (hi : i < 22) (hk : 0 ≤ nw k ∧ nw k < strLen i) : AMf z yJ0_charAt_5068e cJ0_charAt_5068e 2 (some .char) 3 [sv z i, iv k] g (strCh i (ix k), g) := by
  intro d hdd
  refine AM.of (by decide +kernel) (Nat.le_of_ble_eq_true rfl) ?_
  show AW z (RJ0, cJ0_charAt_5068e, 2, some .char) d (QD (some .char) (strCh i (ix k), g)) 0 [(0, sv z i), (1, iv k)] [] g
  have hx : ix k < lenJ.getD i 0 := by
    have h2 := hk.2
    unfold strLen at h2
    have h1 := hk.1
    unfold ix
    omega
  have hc := strCh_ok i hi (ix k) hx
  refine AW.aloads_n 0 dJ0_charAt_5068e_0 rfl ?_
  refine AW.callK (As := []) (st := []) hi (sLatin_ok hi) sq_latin_492 rfl wm_799 wm_800 (Nat.le_trans (by decide) hdd) rfl dJ0_charAt_5068e_1 rfl (Nat.le_of_ble_eq_true rfl) ?_
  refine AW.if_eq (tgt := 16) dJ0_charAt_5068e_4 (by decide) (fun c => absurd c (by decide)) (fun _ => ?_)
  refine AW.aloads_n 0 dJ0_charAt_5068e_7 rfl ?_
  refine AW.sval hi wm_2247 dJ0_charAt_5068e_8 ?_
  refine AW.iload_n 1 dJ0_charAt_5068e_11 rfl ?_
  refine AW.callSi (As := [bvr z i, iv k]) (st := []) (lCh_ok hi hk) sq_lch_495 wm_803 hdd rfl dJ0_charAt_5068e_12 rfl (Nat.le_of_ble_eq_true rfl) ?_
  exact AW.nret rfl (chr_nar hc.2.1 hc.2.2) dJ0_charAt_5068e_15 ⟨rfl, rfl⟩
/-! indexOf -/
theorem canE_ok {z : AZ} {c : Int} {g : AG} : AMf z yJ1_canEncode_9a6ad cJ1_canEncode_9a6ad 1 (some .boolean) 0 [iv c] g (if nw c < 0 then 0 else if 255 < nw c then 0 else 1, g) := by
  intro d hdd
  refine AM.of (by decide +kernel) (Nat.le_of_ble_eq_true rfl) ?_
  show AW z (RJ1, cJ1_canEncode_9a6ad, 1, some .boolean) d (QD (some .boolean) (if nw c < 0 then 0 else if 255 < nw c then 0 else 1, g)) 0 [(0, iv c)] [] g
  refine AW.iload_n 0 dJ1_canEncode_9a6ad_0 rfl ?_
  refine AW.if_lt (tgt := 15) dJ1_canEncode_9a6ad_1 (by decide) (fun c1 => ?_) (fun c1 => ?_)
  · rw [if_pos c1]
    refine AW.iconst dJ1_canEncode_9a6ad_15 ?_
    exact AW.zret rfl (Or.inl rfl) dJ1_canEncode_9a6ad_16 ⟨rfl, rfl⟩
  · rw [if_neg c1]
    refine AW.iload_n 0 dJ1_canEncode_9a6ad_4 rfl ?_
    refine AW.sipush dJ1_canEncode_9a6ad_5 (by decide) (by decide) ?_
    refine AW.icmp_gt (tgt := 15) dJ1_canEncode_9a6ad_8 (by decide) (fun c2 => ?_) (fun c2 => ?_)
    · rw [if_pos (show 255 < nw c from c2)]
      refine AW.iconst dJ1_canEncode_9a6ad_15 ?_
      exact AW.zret rfl (Or.inl rfl) dJ1_canEncode_9a6ad_16 ⟨rfl, rfl⟩
    · rw [if_neg (show ¬ 255 < nw c from c2)]
      refine AW.iconst dJ1_canEncode_9a6ad_11 ?_
      refine AW.goto (tgt := 16) dJ1_canEncode_9a6ad_12 (by decide) ?_
      exact AW.zret rfl (Or.inr rfl) dJ1_canEncode_9a6ad_16 ⟨rfl, rfl⟩
theorem bytI_eq {c : Int} (h0 : 0 ≤ nw c) (h1 : nw c ≤ 255) : bytI c = if nw c < 128 then nw c else nw c - 256 := by
  have h : ∀ n : Nat, n < 256 → bytI n = if (n : Int) < 128 then (n : Int) else (n : Int) - 256 := by decide +kernel
  have e : bytI c = bytI (nw c) := by
    unfold bytI
    rw [show Int32.ofInt c = Int32.ofInt (nw c) by rw [← Int32.toInt_inj, i32_toInt, i32_toInt]; simp [nw]]
  obtain ⟨n, hn⟩ := Int.eq_ofNat_of_zero_le h0
  rw [e, hn]
  exact h n (by omega)
theorem ixF_out {c : Int} : ∀ (l : List Int32) (k : Int), (∀ b ∈ l, ¬ b.toInt = c) → ixF c l k = -1
  | [], k, _ => rfl
  | b :: l, k, h => by
    unfold ixF
    rw [if_neg (h b List.mem_cons_self)]
    exact ixF_out l (k + 1) (fun b hb => h b (List.mem_cons_of_mem _ hb))
theorem byt_rng : ∀ i, i < 22 → ((bytJ.getD i []).length = lenJ.getD i 0 ∧ ∀ b ∈ bytJ.getD i [], 0 ≤ b.toInt ∧ b.toInt < 128) := by decide +kernel
theorem getD_lt {α : Type} {l : List α} {k : Nat} {x : α} (h : k < l.length) : l.getD k x = l[k] := by
  rw [List.getD_eq_getElem?_getD, List.getElem?_eq_getElem h]
  rfl
theorem ix_loop {z : AZ} {d i : Nat} {c : Int} {g : AG} (hi : i < 22) (h0 : 0 ≤ nw c) (h1 : nw c ≤ 255) : ∀ (l : List Int32) (k : Nat), (bytJ.getD i []).drop k = l → k ≤ lenJ.getD i 0 → AW z (RJ1, cJ1_indexOfChar_4cfef, 6, some .int) d (QD (some .int) (ixF (nw c) l k, g)) 7 [(5, iv k), (4, iv (bytI c)), (0, bvr z i), (1, iv c), (2, iv 0), (3, iv (strLen i))] [] g := by
  have hs := strLen_sh i hi
  have hr := byt_rng i hi
  have hn : nw (strLen i) = strLen i := nw_id (by omega) (by omega)
  have hlen : strLen i = ((lenJ.getD i 0 : Nat) : Int) := rfl
  intro l
  induction l with
  | nil =>
    intro k hl hk
    have hkn : nw (k : Int) = k := nw_id (by omega) (by omega)
    have hge := List.drop_eq_nil_iff.mp hl
    refine AW.iload 0 dJ1_indexOfChar_4cfef_7 rfl ?_
    refine AW.iload_n 5 dJ1_indexOfChar_4cfef_9 rfl ?_
    refine AW.icmp_ge (tgt := 31) dJ1_indexOfChar_4cfef_10 (by decide) (fun c1 => ?_) (fun c1 => absurd (show nw (strLen i) ≤ nw (k : Int) by rw [hn, hkn]; omega) c1)
    refine AW.iconst dJ1_indexOfChar_4cfef_31 ?_
    exact AW.iret rfl dJ1_indexOfChar_4cfef_32 ⟨rfl, rfl⟩
  | cons b l ih =>
    intro k hl hk
    have hkn : nw (k : Int) = k := nw_id (by omega) (by omega)
    have hk3 : k < (bytJ.getD i []).length := by
      have h := congrArg List.length hl
      rw [List.length_drop, List.length_cons] at h
      omega
    have hk2 : k < lenJ.getD i 0 := by omega
    have hd1 := hl.symm.trans (List.drop_eq_getElem_cons hk3)
    injection hd1 with hb1 hl1
    have hkx : ix (k : Int) = k := by unfold ix; rw [hkn]; rfl
    have hin : 0 ≤ nw (k : Int) ∧ nw (k : Int) < strLen i := by rw [hkn]; omega
    have hch : strCh i k = b.toInt := by
      unfold strCh
      rw [getD_lt hk3, hb1]
    have hb := hr.2 b (by rw [hb1]; exact List.getElem_mem hk3)
    have hcn : nw (strCh i k) = strCh i k := nw_id (by rw [hch]; omega) (by rw [hch]; omega)
    have hbn : nw (bytI c) = bytI c := nw_id (by rw [bytI_eq h0 h1]; split <;> omega) (by rw [bytI_eq h0 h1]; split <;> omega)
    have heq : (strCh i k = bytI c) ↔ b.toInt = nw c := by
      rw [hch, bytI_eq h0 h1]
      split <;> omega
    refine AW.iload 0 dJ1_indexOfChar_4cfef_7 rfl ?_
    refine AW.iload_n 5 dJ1_indexOfChar_4cfef_9 rfl ?_
    refine AW.icmp_ge (tgt := 31) dJ1_indexOfChar_4cfef_10 (by decide) (fun c1 => absurd c1 (show ¬ nw (strLen i) ≤ nw (k : Int) by rw [hn, hkn]; omega)) (fun c1 => ?_)
    refine AW.aloadb_n 2 dJ1_indexOfChar_4cfef_13 rfl ?_
    refine AW.iload 0 dJ1_indexOfChar_4cfef_14 rfl ?_
    refine AW.bld hi hin dJ1_indexOfChar_4cfef_16 ?_
    rw [hkx]
    refine AW.iload 1 dJ1_indexOfChar_4cfef_17 rfl ?_
    refine AW.icmp_ne (tgt := 25) dJ1_indexOfChar_4cfef_19 (by decide) (fun c2 => ?_) (fun c2 => ?_)
    · rw [hcn, hbn] at c2
      have e : ixF (nw c) (b :: l) k = ixF (nw c) l ((k + 1 : Nat) : Int) := by
        show (if b.toInt = nw c then (k : Int) else ixF (nw c) l ((k : Int) + 1)) = _
        rw [if_neg (fun q => c2 (heq.mpr q))]
        rfl
      rw [e]
      refine AW.iinc (lv1 := [(5, iv (((k + 1 : Nat)) : Int)), (4, iv (bytI c)), (0, bvr z i), (1, iv c), (2, iv 0), (3, iv (strLen i))]) 0 dJ1_indexOfChar_4cfef_25 rfl (by decide) rfl ?_
      refine AW.goto (tgt := 7) dJ1_indexOfChar_4cfef_28 (by decide) ?_
      exact ih (k + 1) hl1.symm hk2
    · rw [hcn, hbn] at c2
      have e : ixF (nw c) (b :: l) k = (k : Int) := by
        show (if b.toInt = nw c then (k : Int) else ixF (nw c) l ((k : Int) + 1)) = _
        rw [if_pos (heq.mp c2)]
      rw [e]
      refine AW.iload 0 dJ1_indexOfChar_4cfef_22 rfl ?_
      exact AW.iret rfl dJ1_indexOfChar_4cfef_24 ⟨rfl, rfl⟩
theorem ixC_ok {z : AZ} {i : Nat} {c : Int} {g : AG} (hi : i < 22) (h0 : 0 ≤ nw c) (h1 : nw c ≤ 255) : AMf z yJ1_indexOfChar_4cfef cJ1_indexOfChar_4cfef 6 (some .int) 0 [bvr z i, iv c, iv 0, iv (strLen i)] g (strIx i c, g) := by
  intro d hdd
  refine AM.of (by decide +kernel) (Nat.le_of_ble_eq_true rfl) ?_
  show AW z (RJ1, cJ1_indexOfChar_4cfef, 6, some .int) d (QD (some .int) (strIx i c, g)) 0 [(0, bvr z i), (1, iv c), (2, iv 0), (3, iv (strLen i))] [] g
  refine AW.iload_n 1 dJ1_indexOfChar_4cfef_0 rfl ?_
  refine AW.i2b dJ1_indexOfChar_4cfef_1 ?_
  refine AW.istore (lv1 := [(4, iv (bytI c)), (0, bvr z i), (1, iv c), (2, iv 0), (3, iv (strLen i))]) dJ1_indexOfChar_4cfef_2 (by decide) rfl ?_
  refine AW.iload_n 3 dJ1_indexOfChar_4cfef_4 rfl ?_
  refine AW.istore (lv1 := [(5, iv 0), (4, iv (bytI c)), (0, bvr z i), (1, iv c), (2, iv 0), (3, iv (strLen i))]) dJ1_indexOfChar_4cfef_5 (by decide) rfl ?_
  exact ix_loop hi h0 h1 _ 0 rfl (Nat.zero_le _)
theorem lIx_ok {z : AZ} {i : Nat} {c : Int} {g : AG} (hi : i < 22) : AMf z yJ1_indexOf_4cfef cJ1_indexOf_4cfef 4 (some .int) 1 [bvr z i, iv c, iv 0, iv (strLen i)] g (strIx i c, g) := by
  intro d hdd
  refine AM.of (by decide +kernel) (Nat.le_of_ble_eq_true rfl) ?_
  show AW z (RJ1, cJ1_indexOf_4cfef, 4, some .int) d (QD (some .int) (strIx i c, g)) 0 [(0, bvr z i), (1, iv c), (2, iv 0), (3, iv (strLen i))] [] g
  have hs := strLen_sh i hi
  have hr := byt_rng i hi
  have hn : nw (strLen i) = strLen i := nw_id (by omega) (by omega)
  refine AW.iload_n 1 dJ1_indexOf_4cfef_0 rfl ?_
  refine AW.callSi (As := [iv c]) (st := []) canE_ok sq_canE_88 wm_865 hdd rfl dJ1_indexOf_4cfef_1 rfl (Nat.le_of_ble_eq_true rfl) ?_
  have out : (nw c < 0 ∨ 255 < nw c) → strIx i c = -1 := fun h => ixF_out _ _ (fun b hb => by
    have := hr.2 b hb
    omega)
  have key : ∀ v : Int, v = (if nw c < 0 then 0 else if 255 < nw c then 0 else 1) → AW z (RJ1, cJ1_indexOf_4cfef, 4, some .int) d (QD (some .int) (strIx i c, g)) 4 [(0, bvr z i), (1, iv c), (2, iv 0), (3, iv (strLen i))] [iv v] g := by
    intro v hv
    refine AW.if_ne (tgt := 9) dJ1_indexOf_4cfef_4 (by decide) (fun c1 => ?_) (fun c1 => ?_)
    · have hc : 0 ≤ nw c ∧ nw c ≤ 255 := by
        by_cases q : nw c < 0
        · rw [if_pos q] at hv
          subst hv
          exact absurd (by decide) c1
        · by_cases q2 : 255 < nw c
          · rw [if_neg q, if_pos q2] at hv
            subst hv
            exact absurd (by decide) c1
          · omega
      refine AW.iload_n 2 dJ1_indexOf_4cfef_9 rfl ?_
      refine AW.iconst dJ1_indexOf_4cfef_10 ?_
      refine AW.mmax (st := []) wm_867 mst_max mini mcd_max hdd (Nat.le_of_ble_eq_true rfl) dJ1_indexOf_4cfef_11 ?_
      refine AW.istore_n (lv1 := [(2, iv 0), (0, bvr z i), (1, iv c), (3, iv (strLen i))]) dJ1_indexOf_4cfef_14 (by decide) rfl ?_
      refine AW.iload_n 3 dJ1_indexOf_4cfef_15 rfl ?_
      refine AW.aloadb_n 1 dJ1_indexOf_4cfef_16 rfl ?_
      refine AW.blen hi dJ1_indexOf_4cfef_17 ?_
      refine AW.mmin (st := []) wm_870 mst_min mini mcd_min hdd (Nat.le_of_ble_eq_true rfl) dJ1_indexOf_4cfef_18 ?_
      refine AW.val (show strLen i = mnI (strLen i) (strLen i) by unfold mnI; rw [if_neg (by omega)]) ?_
      refine AW.istore_n (lv1 := [(3, iv (strLen i)), (2, iv 0), (0, bvr z i), (1, iv c)]) dJ1_indexOf_4cfef_21 (by decide) rfl ?_
      refine AW.iload_n 1 dJ1_indexOf_4cfef_22 rfl ?_
      refine AW.iload_n 0 dJ1_indexOf_4cfef_23 rfl ?_
      refine AW.icmp_lt (tgt := 29) dJ1_indexOf_4cfef_24 (by decide) (fun c2 => ?_) (fun c2 => ?_)
      · refine AW.aloadb_n 2 dJ1_indexOf_4cfef_29 rfl ?_
        refine AW.iload_n 3 dJ1_indexOf_4cfef_30 rfl ?_
        refine AW.iload_n 1 dJ1_indexOf_4cfef_31 rfl ?_
        refine AW.iload_n 0 dJ1_indexOf_4cfef_32 rfl ?_
        refine AW.callSi (As := [bvr z i, iv c, iv 0, iv (strLen i)]) (st := []) (ixC_ok hi hc.1 hc.2) sq_ixC_95 wm_874 hdd rfl dJ1_indexOf_4cfef_33 rfl (Nat.le_of_ble_eq_true rfl) ?_
        exact AW.iret rfl dJ1_indexOf_4cfef_36 ⟨rfl, rfl⟩
      · have hz : strLen i = 0 := by
          rw [hn] at c2
          have : nw 0 = 0 := nw_zero
          omega
        have hz2 : bytJ.getD i [] = [] := List.length_eq_zero_iff.mp (by
          have : strLen i = ((lenJ.getD i 0 : Nat) : Int) := rfl
          omega)
        refine AW.iconst dJ1_indexOf_4cfef_27 ?_
        have e : strIx i c = -1 := by unfold strIx; rw [hz2]; rfl
        exact AW.iret rfl dJ1_indexOf_4cfef_28 ⟨by rw [e]; rfl, rfl⟩
    · have e : strIx i c = -1 := by
        apply out
        by_cases q : nw c < 0
        · exact Or.inl q
        · by_cases q2 : 255 < nw c
          · exact Or.inr q2
          · rw [if_neg q, if_neg q2] at hv
            subst hv
            exact absurd c1 (by decide)
      refine AW.iconst dJ1_indexOf_4cfef_7 ?_
      exact AW.iret rfl dJ1_indexOf_4cfef_8 ⟨by rw [e]; rfl, rfl⟩
  exact key _ rfl
theorem sIx2_ok {z : AZ} {i : Nat} {c : Int} {g : AG} (hi : i < 22) : AMf z yJ0_indexOf_7cf53 cJ0_indexOf_7cf53 3 (some .int) 2 [sv z i, iv c, iv 0] g (strIx i c, g) := by
  intro d hdd
  refine AM.of (by decide +kernel) (Nat.le_of_ble_eq_true rfl) ?_
  show AW z (RJ0, cJ0_indexOf_7cf53, 3, some .int) d (QD (some .int) (strIx i c, g)) 0 [(0, sv z i), (1, iv c), (2, iv 0)] [] g
  refine AW.aloads_n 0 dJ0_indexOf_7cf53_0 rfl ?_
  refine AW.callK (As := []) (st := []) hi (sLatin_ok hi) sq_latin_492 rfl wm_799 wm_800 (Nat.le_trans (by decide) hdd) rfl dJ0_indexOf_7cf53_1 rfl (Nat.le_of_ble_eq_true rfl) ?_
  refine AW.if_eq (tgt := 23) dJ0_indexOf_7cf53_4 (by decide) (fun c => absurd c (by decide)) (fun _ => ?_)
  refine AW.aloads_n 0 dJ0_indexOf_7cf53_7 rfl ?_
  refine AW.sval hi wm_2247 dJ0_indexOf_7cf53_8 ?_
  refine AW.iload_n 1 dJ0_indexOf_7cf53_11 rfl ?_
  refine AW.iload_n 2 dJ0_indexOf_7cf53_12 rfl ?_
  refine AW.aloads_n 0 dJ0_indexOf_7cf53_13 rfl ?_
  refine AW.callK (As := []) (st := [iv 0, iv c, bvr z i]) hi (sLen_ok hi) sq_len_505 rfl wm_785 wm_786 hdd rfl dJ0_indexOf_7cf53_14 rfl (Nat.le_of_ble_eq_true rfl) ?_
  refine AW.callSi (As := [bvr z i, iv c, iv 0, iv (strLen i)]) (st := []) (lIx_ok hi) sq_lIx_637 wm_862 hdd rfl dJ0_indexOf_7cf53_17 rfl (Nat.le_of_ble_eq_true rfl) ?_
  refine AW.goto (tgt := 36) dJ0_indexOf_7cf53_20 (by decide) ?_
  exact AW.iret rfl dJ0_indexOf_7cf53_36 ⟨rfl, rfl⟩
theorem sIx_ok {z : AZ} {i : Nat} {c : Int} {g : AG} (hi : i < 22) : AMf z yJ0_indexOf_0f7a4 cJ0_indexOf_0f7a4 2 (some .int) 3 [sv z i, iv c] g (strIx i c, g) := by
  intro d hdd
  refine AM.of (by decide +kernel) (Nat.le_of_ble_eq_true rfl) ?_
  show AW z (RJ0, cJ0_indexOf_0f7a4, 2, some .int) d (QD (some .int) (strIx i c, g)) 0 [(0, sv z i), (1, iv c)] [] g
  refine AW.aloads_n 0 dJ0_indexOf_0f7a4_0 rfl ?_
  refine AW.iload_n 1 dJ0_indexOf_0f7a4_1 rfl ?_
  refine AW.iconst dJ0_indexOf_0f7a4_2 ?_
  refine AW.callK (As := [iv c, iv 0]) (st := []) hi (sIx2_ok hi) sq_ix2_633 rfl wm_857 wm_858 hdd rfl dJ0_indexOf_0f7a4_3 rfl (Nat.le_of_ble_eq_true rfl) ?_
  exact AW.iret rfl dJ0_indexOf_0f7a4_6 ⟨rfl, rfl⟩
section STRS2
variable {z : AZ} {μ : AMu} {d pc : Nat} {Q : Option Value → AG → Prop} {lv : List (Nat × Value)} {st : List Value} {g : AG}
theorem AW.tLen {idx i : Nat} (hF : CQ μ.1 idx yJ0_length_8abf5 cJ0_length_8abf5 1 (some .int) 0) (hi : i < 22) (hD : 3 ≤ d) (hd : decode μ.2.1 pc = .ok (.invokevirtual idx, 3)) (hc : (st.map fun v => v.category).sum ≤ 8) (kk : AW z μ d Q (pc + 3) lv (iv (strLen i) :: st) g) : AW z μ d Q pc lv (sv z i :: st) g :=
  AW.callK (As := []) hi (sLen_ok hi) hF rfl wm_785 wm_786 (by omega) rfl hd rfl hc kk
theorem AW.tCh {idx i : Nat} {k : Int} (hF : CQ μ.1 idx yJ0_charAt_5068e cJ0_charAt_5068e 2 (some .char) 1) (hi : i < 22) (hk : 0 ≤ nw k ∧ nw k < strLen i) (hD : 5 ≤ d) (hd : decode μ.2.1 pc = .ok (.invokevirtual idx, 3)) (hc : (st.map fun v => v.category).sum ≤ 8) (kk : AW z μ d Q (pc + 3) lv (iv (strCh i (ix k)) :: st) g) : AW z μ d Q pc lv (iv k :: sv z i :: st) g :=
  AW.callK (As := [iv k]) hi (sCh_ok hi hk) hF rfl wm_795 wm_796 (by omega) rfl hd rfl hc kk
theorem AW.tIx {idx i : Nat} {c : Int} (hF : CQ μ.1 idx yJ0_indexOf_0f7a4 cJ0_indexOf_0f7a4 2 (some .int) 1) (hi : i < 22) (hD : 6 ≤ d) (hd : decode μ.2.1 pc = .ok (.invokevirtual idx, 3)) (hc : (st.map fun v => v.category).sum ≤ 8) (kk : AW z μ d Q (pc + 3) lv (iv (strIx i c) :: st) g) : AW z μ d Q pc lv (iv c :: sv z i :: st) g :=
  AW.callK (As := [iv c]) hi (sIx_ok hi) hF rfl wm_853 wm_854 (by omega) rfl hd rfl hc kk
end STRS2
end
section
theorem Integer_bitCount_ok {z : AZ} {x0 : Int} {g : AG} {r : Int} (h : Integer_bitCount x0 g = some r) : AMf z yJ6_bitCount_0f7a4 cJ6_bitCount_0f7a4 1 (some .int) 0 [iv x0] g (r, g) := by
  intro d hdd
  refine AM.of (by decide +kernel) (Nat.le_of_ble_eq_true rfl) ?_
  show AW z (RJ6, cJ6_bitCount_0f7a4, 1, (some .int)) d (QD (some .int) (r, g)) 0 [(0, iv x0)] [] g
  unfold Integer_bitCount at h
  refine AW.iload_n 0 dJ6_bitCount_0f7a4_0 rfl ?_
  refine AW.iload_n 0 dJ6_bitCount_0f7a4_1 rfl ?_
  refine AW.iconst dJ6_bitCount_0f7a4_2 ?_
  refine AW.iushr dJ6_bitCount_0f7a4_3 ?_
  refine AW.ldcw dJ6_bitCount_0f7a4_4 cw_J6_265 ?_
  refine AW.iand dJ6_bitCount_0f7a4_7 ?_
  refine AW.isub dJ6_bitCount_0f7a4_8 ?_
  refine AW.istore_n (lv1 := [(0, iv (x0 - (andI (ushrI x0 1) 1431655765)))]) dJ6_bitCount_0f7a4_9 (by decide) rfl ?_
  refine AW.iload_n 0 dJ6_bitCount_0f7a4_10 rfl ?_
  refine AW.ldcw dJ6_bitCount_0f7a4_11 cw_J6_266 ?_
  refine AW.iand dJ6_bitCount_0f7a4_14 ?_
  refine AW.iload_n 0 dJ6_bitCount_0f7a4_15 rfl ?_
  refine AW.iconst dJ6_bitCount_0f7a4_16 ?_
  refine AW.iushr dJ6_bitCount_0f7a4_17 ?_
  refine AW.ldcw dJ6_bitCount_0f7a4_18 cw_J6_266 ?_
  refine AW.iand dJ6_bitCount_0f7a4_21 ?_
  refine AW.iadd dJ6_bitCount_0f7a4_22 ?_
  obtain ⟨t1, e2, h⟩ := hBe h
  refine AW.val e2 ?_
  refine AW.istore_n (lv1 := [(0, iv t1)]) dJ6_bitCount_0f7a4_23 (by decide) rfl ?_
  refine AW.iload_n 0 dJ6_bitCount_0f7a4_24 rfl ?_
  refine AW.iload_n 0 dJ6_bitCount_0f7a4_25 rfl ?_
  refine AW.iconst dJ6_bitCount_0f7a4_26 ?_
  refine AW.iushr dJ6_bitCount_0f7a4_27 ?_
  refine AW.iadd dJ6_bitCount_0f7a4_28 ?_
  refine AW.ldcw dJ6_bitCount_0f7a4_29 cw_J6_267 ?_
  refine AW.iand dJ6_bitCount_0f7a4_32 ?_
  refine AW.istore_n (lv1 := [(0, iv (andI (t1 + (ushrI t1 4)) 252645135))]) dJ6_bitCount_0f7a4_33 (by decide) rfl ?_
  refine AW.iload_n 0 dJ6_bitCount_0f7a4_34 rfl ?_
  refine AW.iload_n 0 dJ6_bitCount_0f7a4_35 rfl ?_
  refine AW.bipush dJ6_bitCount_0f7a4_36 (by decide) (by decide) ?_
  refine AW.iushr dJ6_bitCount_0f7a4_38 ?_
  refine AW.iadd dJ6_bitCount_0f7a4_39 ?_
  obtain ⟨t3, e4, h⟩ := hBe h
  refine AW.val e4 ?_
  refine AW.istore_n (lv1 := [(0, iv t3)]) dJ6_bitCount_0f7a4_40 (by decide) rfl ?_
  refine AW.iload_n 0 dJ6_bitCount_0f7a4_41 rfl ?_
  refine AW.iload_n 0 dJ6_bitCount_0f7a4_42 rfl ?_
  refine AW.bipush dJ6_bitCount_0f7a4_43 (by decide) (by decide) ?_
  refine AW.iushr dJ6_bitCount_0f7a4_45 ?_
  refine AW.iadd dJ6_bitCount_0f7a4_46 ?_
  refine AW.istore_n (lv1 := [(0, iv (t3 + (ushrI t3 16)))]) dJ6_bitCount_0f7a4_47 (by decide) rfl ?_
  refine AW.iload_n 0 dJ6_bitCount_0f7a4_48 rfl ?_
  refine AW.bipush dJ6_bitCount_0f7a4_49 (by decide) (by decide) ?_
  refine AW.iand dJ6_bitCount_0f7a4_51 ?_
  exact AW.iret2 rfl dJ6_bitCount_0f7a4_52 h rfl
end
